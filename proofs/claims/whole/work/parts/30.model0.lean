section DC
variable {p : Program} {l : Launch} {e : Env} {R : Room} {s : State} {m : MethodId} {args : Array Value} {below : List Frame} {meth : Method} {c : Code} {D : va_G} {al : Nat → Nat} {cI cJ : ClassId} {A : Nat → Prop} {d : Nat}
theorem dX10_above_0 : decode cX10_above 0 = .ok (.iload_n 0, 1) := by decide +kernel
theorem dX10_above_1 : decode cX10_above 1 = .ok (.ifCond .ne 7, 3) := by decide +kernel
theorem dX10_above_4 : decode cX10_above 4 = .ok (.iconst (-1), 1) := by decide +kernel
theorem dX10_above_5 : decode cX10_above 5 = .ok (.goto 32, 3) := by decide +kernel
theorem dX10_above_8 : decode cX10_above 8 = .ok (.iload_n 0, 1) := by decide +kernel
theorem dX10_above_9 : decode cX10_above 9 = .ok (.iconst 3, 1) := by decide +kernel
theorem dX10_above_10 : decode cX10_above 10 = .ok (.if_icmp .ne 7, 3) := by decide +kernel
theorem dX10_above_13 : decode cX10_above 13 = .ok (.iconst 2, 1) := by decide +kernel
theorem dX10_above_14 : decode cX10_above 14 = .ok (.goto 23, 3) := by decide +kernel
theorem dX10_above_17 : decode cX10_above 17 = .ok (.iload_n 0, 1) := by decide +kernel
theorem dX10_above_18 : decode cX10_above 18 = .ok (.iconst 5, 1) := by decide +kernel
theorem dX10_above_19 : decode cX10_above 19 = .ok (.if_icmp .ne 7, 3) := by decide +kernel
theorem dX10_above_22 : decode cX10_above 22 = .ok (.iconst 1, 1) := by decide +kernel
theorem dX10_above_23 : decode cX10_above 23 = .ok (.goto 14, 3) := by decide +kernel
theorem dX10_above_26 : decode cX10_above 26 = .ok (.iload_n 0, 1) := by decide +kernel
theorem dX10_above_27 : decode cX10_above 27 = .ok (.bipush 7, 2) := by decide +kernel
theorem dX10_above_29 : decode cX10_above 29 = .ok (.if_icmp .ne 7, 3) := by decide +kernel
theorem dX10_above_32 : decode cX10_above 32 = .ok (.iconst 3, 1) := by decide +kernel
theorem dX10_above_33 : decode cX10_above 33 = .ok (.goto 4, 3) := by decide +kernel
theorem dX10_above_36 : decode cX10_above 36 = .ok (.iconst 0, 1) := by decide +kernel
theorem dX10_above_37 : decode cX10_above 37 = .ok (.ireturn, 1) := by decide +kernel
def m_X10_above (a0 : Int32) (g : Mm) : Option (Int32 × Mm) := (if a0 = (0 : Int32) then some ((-1 : Int32), g) else (if a0 = (3 : Int32) then some ((2 : Int32), g) else (if a0 = (5 : Int32) then some ((1 : Int32), g) else (if a0 = (7 : Int32) then some ((3 : Int32), g) else some ((0 : Int32), g)))))
set_option maxHeartbeats 2000000 in
theorem c_X10_above {r2 : Int32} {g g2 : Mm} {a0 : Int32} (h : m_X10_above a0 g = some (r2, g2)) : gx_M 1 yX10_above cX10_above 1 (some .int) (fun al => [.int (a0)]) g (some (.int r2)) g2 := by
  have hd : 1 ≤ 1 := Nat.le_refl _
  refine gx_M.of (by decide +kernel) (fun _ => Nat.le_of_ble_eq_true rfl) ?_
  intro p l e R s m args below meth c D al cI cJ A X
  refine gx_eq (pc' := 0) (ls' := [(0, .int (a0))]) (st' := []) (g' := g) ⟨rfl, rfl, rfl, rfl⟩ ?_
  unfold m_X10_above at h
  refine gx_iload_n X 0 rfl dX10_above_0 ?_
  refine gx_if_ne X 8 dX10_above_1 (by decide) (fun q1 => ?_) (fun q1 => ?_)
  · replace h := (if_neg q1).symm.trans h
    refine gx_iload_n X 0 rfl dX10_above_8 ?_
    refine gx_iconst X (v := (3 : Int32)) dX10_above_9 (by decide) ?_
    refine gx_icmp_ne X 17 dX10_above_10 (by decide) (fun q2 => ?_) (fun q2 => ?_)
    · replace h := (if_neg q2).symm.trans h
      refine gx_iload_n X 0 rfl dX10_above_17 ?_
      refine gx_iconst X (v := (5 : Int32)) dX10_above_18 (by decide) ?_
      refine gx_icmp_ne X 26 dX10_above_19 (by decide) (fun q3 => ?_) (fun q3 => ?_)
      · replace h := (if_neg q3).symm.trans h
        refine gx_iload_n X 0 rfl dX10_above_26 ?_
        refine gx_bipush X (v := (7 : Int32)) dX10_above_27 (by decide) ?_
        refine gx_icmp_ne X 36 dX10_above_29 (by decide) (fun q4 => ?_) (fun q4 => ?_)
        · replace h := (if_neg q4).symm.trans h
          refine gx_iconst X (v := (0 : Int32)) dX10_above_36 (by decide) ?_
          obtain ⟨rfl, rfl⟩ := ret_eq h
          exact gx_iret X rfl dX10_above_37
        · replace h := (if_pos q4).symm.trans h
          refine gx_iconst X (v := (3 : Int32)) dX10_above_32 (by decide) ?_
          refine gx_goto X 37 dX10_above_33 (by decide) ?_
          obtain ⟨rfl, rfl⟩ := ret_eq h
          exact gx_iret X rfl dX10_above_37
      · replace h := (if_pos q3).symm.trans h
        refine gx_iconst X (v := (1 : Int32)) dX10_above_22 (by decide) ?_
        refine gx_goto X 37 dX10_above_23 (by decide) ?_
        obtain ⟨rfl, rfl⟩ := ret_eq h
        exact gx_iret X rfl dX10_above_37
    · replace h := (if_pos q2).symm.trans h
      refine gx_iconst X (v := (2 : Int32)) dX10_above_13 (by decide) ?_
      refine gx_goto X 37 dX10_above_14 (by decide) ?_
      obtain ⟨rfl, rfl⟩ := ret_eq h
      exact gx_iret X rfl dX10_above_37
  · replace h := (if_pos q1).symm.trans h
    refine gx_iconst X (v := (-1 : Int32)) dX10_above_4 (by decide) ?_
    refine gx_goto X 37 dX10_above_5 (by decide) ?_
    obtain ⟨rfl, rfl⟩ := ret_eq h
    exact gx_iret X rfl dX10_above_37
theorem dX10_in_0 : decode cX10_in 0 = .ok (.lload_n 0, 1) := by decide +kernel
theorem dX10_in_1 : decode cX10_in 1 = .ok (.lload_n 2, 1) := by decide +kernel
theorem dX10_in_2 : decode cX10_in 2 = .ok (.lcmp, 1) := by decide +kernel
theorem dX10_in_3 : decode cX10_in 3 = .ok (.ifCond .lt 14, 3) := by decide +kernel
theorem dX10_in_6 : decode cX10_in 6 = .ok (.lload_n 0, 1) := by decide +kernel
theorem dX10_in_7 : decode cX10_in 7 = .ok (.lload 4, 2) := by decide +kernel
theorem dX10_in_9 : decode cX10_in 9 = .ok (.lcmp, 1) := by decide +kernel
theorem dX10_in_10 : decode cX10_in 10 = .ok (.ifCond .gt 7, 3) := by decide +kernel
theorem dX10_in_13 : decode cX10_in 13 = .ok (.iconst 1, 1) := by decide +kernel
theorem dX10_in_14 : decode cX10_in 14 = .ok (.goto 4, 3) := by decide +kernel
theorem dX10_in_17 : decode cX10_in 17 = .ok (.iconst 0, 1) := by decide +kernel
theorem dX10_in_18 : decode cX10_in 18 = .ok (.ireturn, 1) := by decide +kernel
def m_X10_in (a0 : Int64) (a2 : Int64) (a4 : Int64) (g : Mm) : Option (Int32 × Mm) := (if (lg_cmp a0 a2) < (0 : Int32) then some ((0 : Int32), g) else (if (0 : Int32) < (lg_cmp a0 a4) then some ((0 : Int32), g) else some ((1 : Int32), g)))
set_option maxHeartbeats 2000000 in
theorem c_X10_in {r2 : Int32} {g g2 : Mm} {a0 : Int64} {a2 : Int64} {a4 : Int64} (h : m_X10_in a0 a2 a4 g = some (r2, g2)) : gx_M 1 yX10_in cX10_in 6 (some .boolean) (fun al => [.long (a0), .long (a2), .long (a4)]) g (some (.int r2)) g2 := by
  have hd : 1 ≤ 1 := Nat.le_refl _
  refine gx_M.of (by decide +kernel) (fun _ => Nat.le_of_ble_eq_true rfl) ?_
  intro p l e R s m args below meth c D al cI cJ A X
  refine gx_eq (pc' := 0) (ls' := [(0, .long (a0)), (2, .long (a2)), (4, .long (a4))]) (st' := []) (g' := g) ⟨rfl, rfl, rfl, rfl⟩ ?_
  unfold m_X10_in at h
  refine gx_lload_n X 0 rfl dX10_in_0 ?_
  refine gx_lload_n X 1 rfl dX10_in_1 ?_
  refine gx_lcmp X dX10_in_2 ?_
  refine gx_if_lt X 17 dX10_in_3 (by decide) (fun q1 => ?_) (fun q1 => ?_)
  · replace h := (if_pos q1).symm.trans h
    refine gx_iconst X (v := (0 : Int32)) dX10_in_17 (by decide) ?_
    obtain ⟨rfl, rfl⟩ := ret_eq h
    exact gx_iret X rfl dX10_in_18
  · replace h := (if_neg q1).symm.trans h
    refine gx_lload_n X 0 rfl dX10_in_6 ?_
    refine gx_lload X 2 rfl dX10_in_7 ?_
    refine gx_lcmp X dX10_in_9 ?_
    refine gx_if_gt X 17 dX10_in_10 (by decide) (fun q2 => ?_) (fun q2 => ?_)
    · replace h := (if_pos q2).symm.trans h
      refine gx_iconst X (v := (0 : Int32)) dX10_in_17 (by decide) ?_
      obtain ⟨rfl, rfl⟩ := ret_eq h
      exact gx_iret X rfl dX10_in_18
    · replace h := (if_neg q2).symm.trans h
      refine gx_iconst X (v := (1 : Int32)) dX10_in_13 (by decide) ?_
      refine gx_goto X 18 dX10_in_14 (by decide) ?_
      obtain ⟨rfl, rfl⟩ := ret_eq h
      exact gx_iret X rfl dX10_in_18
theorem dX10_runs_0 : decode cX10_runs 0 = .ok (.aload_n 0, 1) := by decide +kernel
theorem dX10_runs_1 : decode cX10_runs 1 = .ok (.getfield 337, 3) := by decide +kernel
theorem dX10_runs_4 : decode cX10_runs 4 = .ok (.bipush 24, 2) := by decide +kernel
theorem dX10_runs_6 : decode cX10_runs 6 = .ok (.if_icmp .ge 13, 3) := by decide +kernel
theorem dX10_runs_9 : decode cX10_runs 9 = .ok (.aload_n 0, 1) := by decide +kernel
theorem dX10_runs_10 : decode cX10_runs 10 = .ok (.getfield 67, 3) := by decide +kernel
theorem dX10_runs_13 : decode cX10_runs 13 = .ok (.aload_n 0, 1) := by decide +kernel
theorem dX10_runs_14 : decode cX10_runs 14 = .ok (.getfield 337, 3) := by decide +kernel
theorem dX10_runs_17 : decode cX10_runs 17 = .ok (.iload_n 1, 1) := by decide +kernel
theorem dX10_runs_18 : decode cX10_runs 18 = .ok (.iastore, 1) := by decide +kernel
theorem dX10_runs_19 : decode cX10_runs 19 = .ok (.aload_n 0, 1) := by decide +kernel
theorem dX10_runs_20 : decode cX10_runs 20 = .ok (.dup, 1) := by decide +kernel
theorem dX10_runs_21 : decode cX10_runs 21 = .ok (.getfield 337, 3) := by decide +kernel
theorem dX10_runs_24 : decode cX10_runs 24 = .ok (.iconst 1, 1) := by decide +kernel
theorem dX10_runs_25 : decode cX10_runs 25 = .ok (.iadd, 1) := by decide +kernel
theorem dX10_runs_26 : decode cX10_runs 26 = .ok (.putfield 337, 3) := by decide +kernel
theorem dX10_runs_29 : decode cX10_runs 29 = .ok (.return_, 1) := by decide +kernel
def m_X10_runs (a1 : Int32) (g : Mm) : Option (Int32 × Mm) := (if (24 : Int32) ≤ (rdI g 40 42) then some ((0 : Int32), (wrI g 40 42 ((rdI g 40 42) + (1 : Int32)))) else gdd (ixo (rdI g 40 42) 24) (some ((0 : Int32), (wrI (wrI g 57 (rdI g 40 42).toNatClampNeg a1) 40 42 ((rdI (wrI g 57 (rdI g 40 42).toNatClampNeg a1) 40 42) + (1 : Int32))))))
set_option maxHeartbeats 2000000 in
theorem c_X10_runs {r2 : Int32} {g g2 : Mm} {a1 : Int32} (h : m_X10_runs a1 g = some (r2, g2)) : gx_M 1 yX10_runs cX10_runs 2 none (fun al => [.ref (al (40)), .int (a1)]) g none g2 := by
  have hd : 1 ≤ 1 := Nat.le_refl _
  refine gx_M.of (by decide +kernel) (fun _ => Nat.le_of_ble_eq_true rfl) ?_
  intro p l e R s m args below meth c D al cI cJ A X
  refine gx_eq (pc' := 0) (ls' := [(0, .ref (al (40))), (1, .int (a1))]) (st' := []) (g' := g) ⟨rfl, rfl, rfl, rfl⟩ ?_
  unfold m_X10_runs at h
  refine gx_aload_n X 0 rfl dX10_runs_0 ?_
  refine gx_getf X (40) lf_X10_337 (by decide) (cl_40 _ _) (v := .int ((rdI g 40 42))) rfl dX10_runs_1 ?_
  refine gx_bipush X (v := (24 : Int32)) dX10_runs_4 (by decide) ?_
  refine gx_icmp_ge X 19 dX10_runs_6 (by decide) (fun q1 => ?_) (fun q1 => ?_)
  · replace h := (if_pos q1).symm.trans h
    refine gx_aload_n X 0 rfl dX10_runs_19 ?_
    refine gx_dup X dX10_runs_20 rfl ?_
    refine gx_getf X (40) lf_X10_337 (by decide) (cl_40 _ _) (v := .int ((rdI g 40 42))) rfl dX10_runs_21 ?_
    refine gx_iconst X (v := (1 : Int32)) dX10_runs_24 (by decide) ?_
    refine gx_iadd X dX10_runs_25 ?_
    refine gx_putf X (40) ((rdI g 40 42) + (1 : Int32)) lf_X10_337 lp_X10_42 (by decide) (cl_40 _ _) (Nat.le_of_ble_eq_true rfl) rfl rfl rfl dX10_runs_26 ?_
    obtain ⟨rfl, rfl⟩ := ret_eq h
    exact gx_vret X dX10_runs_29
  · replace h := (if_neg q1).symm.trans h
    refine gx_aload_n X 0 rfl dX10_runs_9 ?_
    refine gx_getf X (40) lf_X10_67 (by decide) (cl_40 _ _) (v := .ref (al (57))) rfl dX10_runs_10 ?_
    refine gx_aload_n X 0 rfl dX10_runs_13 ?_
    refine gx_getf X (40) lf_X10_337 (by decide) (cl_40 _ _) (v := .int ((rdI g 40 42))) rfl dX10_runs_14 ?_
    refine gx_iload_n X 1 rfl dX10_runs_17 ?_
    obtain ⟨q2, h⟩ := gdd_eq h
    refine gx_iast X (57) 24 (by decide) (fun r => cl_57 r _) q2 dX10_runs_18 ?_
    refine gx_aload_n X 0 rfl dX10_runs_19 ?_
    refine gx_dup X dX10_runs_20 rfl ?_
    refine gx_getf X (40) lf_X10_337 (by decide) (cl_40 _ _) (v := .int ((rdI (wrI g 57 (rdI g 40 42).toNatClampNeg a1) 40 42))) rfl dX10_runs_21 ?_
    refine gx_iconst X (v := (1 : Int32)) dX10_runs_24 (by decide) ?_
    refine gx_iadd X dX10_runs_25 ?_
    refine gx_putf X (40) ((rdI (wrI g 57 (rdI g 40 42).toNatClampNeg a1) 40 42) + (1 : Int32)) lf_X10_337 lp_X10_42 (by decide) (cl_40 _ _) (Nat.le_of_ble_eq_true rfl) rfl rfl rfl dX10_runs_26 ?_
    obtain ⟨rfl, rfl⟩ := ret_eq h
    exact gx_vret X dX10_runs_29
theorem dX10_strikesBy_0 : decode cX10_strikesBy 0 = .ok (.iload_n 1, 1) := by decide +kernel
theorem dX10_strikesBy_1 : decode cX10_strikesBy 1 = .ok (.iconst 1, 1) := by decide +kernel
theorem dX10_strikesBy_2 : decode cX10_strikesBy 2 = .ok (.if_icmp .ne 18, 3) := by decide +kernel
theorem dX10_strikesBy_5 : decode cX10_strikesBy 5 = .ok (.aload_n 0, 1) := by decide +kernel
theorem dX10_strikesBy_6 : decode cX10_strikesBy 6 = .ok (.bipush 20, 2) := by decide +kernel
theorem dX10_strikesBy_8 : decode cX10_strikesBy 8 = .ok (.invokevirtual 340, 3) := by decide +kernel
theorem dX10_strikesBy_11 : decode cX10_strikesBy 11 = .ok (.aload_n 0, 1) := by decide +kernel
theorem dX10_strikesBy_12 : decode cX10_strikesBy 12 = .ok (.iconst 0, 1) := by decide +kernel
theorem dX10_strikesBy_13 : decode cX10_strikesBy 13 = .ok (.iload_n 2, 1) := by decide +kernel
theorem dX10_strikesBy_14 : decode cX10_strikesBy 14 = .ok (.invokevirtual 344, 3) := by decide +kernel
theorem dX10_strikesBy_17 : decode cX10_strikesBy 17 = .ok (.iconst 3, 1) := by decide +kernel
theorem dX10_strikesBy_18 : decode cX10_strikesBy 18 = .ok (.iadd, 1) := by decide +kernel
theorem dX10_strikesBy_19 : decode cX10_strikesBy 19 = .ok (.ireturn, 1) := by decide +kernel
theorem dX10_strikesBy_20 : decode cX10_strikesBy 20 = .ok (.iload_n 1, 1) := by decide +kernel
theorem dX10_strikesBy_21 : decode cX10_strikesBy 21 = .ok (.bipush 6, 2) := by decide +kernel
theorem dX10_strikesBy_23 : decode cX10_strikesBy 23 = .ok (.if_icmp .ne 18, 3) := by decide +kernel
theorem dX10_strikesBy_26 : decode cX10_strikesBy 26 = .ok (.aload_n 0, 1) := by decide +kernel
theorem dX10_strikesBy_27 : decode cX10_strikesBy 27 = .ok (.bipush 70, 2) := by decide +kernel
theorem dX10_strikesBy_29 : decode cX10_strikesBy 29 = .ok (.invokevirtual 340, 3) := by decide +kernel
theorem dX10_strikesBy_32 : decode cX10_strikesBy 32 = .ok (.aload_n 0, 1) := by decide +kernel
theorem dX10_strikesBy_33 : decode cX10_strikesBy 33 = .ok (.iconst 0, 1) := by decide +kernel
theorem dX10_strikesBy_34 : decode cX10_strikesBy 34 = .ok (.iload_n 2, 1) := by decide +kernel
theorem dX10_strikesBy_35 : decode cX10_strikesBy 35 = .ok (.invokevirtual 344, 3) := by decide +kernel
theorem dX10_strikesBy_38 : decode cX10_strikesBy 38 = .ok (.iconst 2, 1) := by decide +kernel
theorem dX10_strikesBy_39 : decode cX10_strikesBy 39 = .ok (.imul, 1) := by decide +kernel
theorem dX10_strikesBy_40 : decode cX10_strikesBy 40 = .ok (.ireturn, 1) := by decide +kernel
theorem dX10_strikesBy_41 : decode cX10_strikesBy 41 = .ok (.iload_n 1, 1) := by decide +kernel
theorem dX10_strikesBy_42 : decode cX10_strikesBy 42 = .ok (.ifCond .eq 13, 3) := by decide +kernel
theorem dX10_strikesBy_45 : decode cX10_strikesBy 45 = .ok (.aload_n 0, 1) := by decide +kernel
theorem dX10_strikesBy_46 : decode cX10_strikesBy 46 = .ok (.iload_n 1, 1) := by decide +kernel
theorem dX10_strikesBy_47 : decode cX10_strikesBy 47 = .ok (.invokestatic 347, 3) := by decide +kernel
theorem dX10_strikesBy_50 : decode cX10_strikesBy 50 = .ok (.iload_n 2, 1) := by decide +kernel
theorem dX10_strikesBy_51 : decode cX10_strikesBy 51 = .ok (.invokevirtual 344, 3) := by decide +kernel
theorem dX10_strikesBy_54 : decode cX10_strikesBy 54 = .ok (.ireturn, 1) := by decide +kernel
theorem dX10_strikesBy_55 : decode cX10_strikesBy 55 = .ok (.aload_n 0, 1) := by decide +kernel
theorem dX10_strikesBy_56 : decode cX10_strikesBy 56 = .ok (.iconst 1, 1) := by decide +kernel
theorem dX10_strikesBy_57 : decode cX10_strikesBy 57 = .ok (.invokevirtual 340, 3) := by decide +kernel
theorem dX10_strikesBy_60 : decode cX10_strikesBy 60 = .ok (.iload_n 2, 1) := by decide +kernel
theorem dX10_strikesBy_61 : decode cX10_strikesBy 61 = .ok (.aload_n 0, 1) := by decide +kernel
theorem dX10_strikesBy_62 : decode cX10_strikesBy 62 = .ok (.getfield 350, 3) := by decide +kernel
theorem dX10_strikesBy_65 : decode cX10_strikesBy 65 = .ok (.iadd, 1) := by decide +kernel
theorem dX10_strikesBy_66 : decode cX10_strikesBy 66 = .ok (.ireturn, 1) := by decide +kernel
def m_X10_strikesBy (C : Nat → Int32 → Int32 → Int32 → Int32 → Mm → Option (Int32 × Mm)) (a1 : Int32) (a2 : Int32) (g : Mm) : Option (Int32 × Mm) := (if a1 = (1 : Int32) then bdd (m_X10_runs (20 : Int32) g) (fun ra19 ga20 => bdd (C 0 (0 : Int32) a2 (0 : Int32) (0 : Int32) ga20) (fun ra22 ga23 => some ((ra22 + (3 : Int32)), ga23))) else (if a1 = (6 : Int32) then bdd (m_X10_runs (70 : Int32) g) (fun ra13 ga14 => bdd (C 0 (0 : Int32) a2 (0 : Int32) (0 : Int32) ga14) (fun ra16 ga17 => some ((ra16 * (2 : Int32)), ga17))) else (if a1 = (0 : Int32) then bdd (m_X10_runs (1 : Int32) g) (fun ra4 ga5 => some ((a2 + (rdI ga5 40 44)), ga5)) else bdd (m_X10_above a1 g) (fun ra7 ga8 => bdd (C 0 ra7 a2 (0 : Int32) (0 : Int32) ga8) (fun ra10 ga11 => some (ra10, ga11))))))
set_option maxHeartbeats 2000000 in
theorem b_X10_strikesBy {d : Nat} {r2 : Int32} {g g2 : Mm} (hd : 2 ≤ d) {dn : Nat} {C : Nat → Int32 → Int32 → Int32 → Int32 → Mm → Option (Int32 × Mm)} (hdn : dn + 1 ≤ d) (hC0 : ∀ (b0 b1 b2 b3 : Int32) (g : Mm) (rr : Int32) (gg : Mm), C 0 b0 b1 b2 b3 g = some (rr, gg) → gx_M dn yX10_strikesBy cX10_strikesBy 3 (some .int) (fun al => [.ref (al (40)), .int (b0), .int (b1)]) g (some (.int rr)) gg) {a1 : Int32} {a2 : Int32} (h : m_X10_strikesBy C a1 a2 g = some (r2, g2)) : gx_M d yX10_strikesBy cX10_strikesBy 3 (some .int) (fun al => [.ref (al (40)), .int (a1), .int (a2)]) g (some (.int r2)) g2 := by
  refine gx_M.of (by decide +kernel) (fun _ => Nat.le_of_ble_eq_true rfl) ?_
  intro p l e R s m args below meth c D al cI cJ A X
  refine gx_eq (pc' := 0) (ls' := [(0, .ref (al (40))), (1, .int (a1)), (2, .int (a2))]) (st' := []) (g' := g) ⟨rfl, rfl, rfl, rfl⟩ ?_
  unfold m_X10_strikesBy at h
  refine gx_iload_n X 1 rfl dX10_strikesBy_0 ?_
  refine gx_iconst X (v := (1 : Int32)) dX10_strikesBy_1 (by decide) ?_
  refine gx_icmp_ne X 20 dX10_strikesBy_2 (by decide) (fun q1 => ?_) (fun q1 => ?_)
  · replace h := (if_neg q1).symm.trans h
    refine gx_iload_n X 1 rfl dX10_strikesBy_20 ?_
    refine gx_bipush X (v := (6 : Int32)) dX10_strikesBy_21 (by decide) ?_
    refine gx_icmp_ne X 41 dX10_strikesBy_23 (by decide) (fun q2 => ?_) (fun q2 => ?_)
    · replace h := (if_neg q2).symm.trans h
      refine gx_iload_n X 1 rfl dX10_strikesBy_41 ?_
      refine gx_if_eq X 55 dX10_strikesBy_42 (by decide) (fun q3 => ?_) (fun q3 => ?_)
      · replace h := (if_pos q3).symm.trans h
        refine gx_aload_n X 0 rfl dX10_strikesBy_55 ?_
        refine gx_iconst X (v := (1 : Int32)) dX10_strikesBy_56 (by decide) ?_
        obtain ⟨ra4, ga5, ca6, h⟩ := bdd_eq h
        refine gx_callVv X (40) (c_X10_runs ca6) lc_X10_runs li_X10_runs lm_X10_340 (by decide) (cl_40 _ _) rfl rfl rfl (Nat.le_trans (by decide) hd) rfl (Nat.le_of_ble_eq_true rfl) dX10_strikesBy_57 ?_
        refine gx_iload_n X 2 rfl dX10_strikesBy_60 ?_
        refine gx_aload_n X 0 rfl dX10_strikesBy_61 ?_
        refine gx_getf X (40) lf_X10_350 (by decide) (cl_40 _ _) (v := .int ((rdI ga5 40 44))) rfl dX10_strikesBy_62 ?_
        refine gx_iadd X dX10_strikesBy_65 ?_
        obtain ⟨rfl, rfl⟩ := ret_eq h
        exact gx_iret X rfl dX10_strikesBy_66
      · replace h := (if_neg q3).symm.trans h
        refine gx_aload_n X 0 rfl dX10_strikesBy_45 ?_
        refine gx_iload_n X 1 rfl dX10_strikesBy_46 ?_
        obtain ⟨ra7, ga8, ca9, h⟩ := bdd_eq h
        refine gx_callSi X (c_X10_above ca9) lc_X10_above li_X10_above lm_X10_347 rfl rfl (Nat.le_trans (by decide) hd) rfl (Nat.le_of_ble_eq_true rfl) dX10_strikesBy_47 ?_
        refine gx_iload_n X 2 rfl dX10_strikesBy_50 ?_
        obtain ⟨ra10, ga11, ca12, h⟩ := bdd_eq h
        refine gx_callVi X (40) (hC0 _ _ _ _ _ _ _ ca12) lc_X10_strikesBy li_X10_strikesBy lm_X10_344 (by decide) (cl_40 _ _) rfl rfl rfl hdn rfl (Nat.le_of_ble_eq_true rfl) dX10_strikesBy_51 ?_
        obtain ⟨rfl, rfl⟩ := ret_eq h
        exact gx_iret X rfl dX10_strikesBy_54
    · replace h := (if_pos q2).symm.trans h
      refine gx_aload_n X 0 rfl dX10_strikesBy_26 ?_
      refine gx_bipush X (v := (70 : Int32)) dX10_strikesBy_27 (by decide) ?_
      obtain ⟨ra13, ga14, ca15, h⟩ := bdd_eq h
      refine gx_callVv X (40) (c_X10_runs ca15) lc_X10_runs li_X10_runs lm_X10_340 (by decide) (cl_40 _ _) rfl rfl rfl (Nat.le_trans (by decide) hd) rfl (Nat.le_of_ble_eq_true rfl) dX10_strikesBy_29 ?_
      refine gx_aload_n X 0 rfl dX10_strikesBy_32 ?_
      refine gx_iconst X (v := (0 : Int32)) dX10_strikesBy_33 (by decide) ?_
      refine gx_iload_n X 2 rfl dX10_strikesBy_34 ?_
      obtain ⟨ra16, ga17, ca18, h⟩ := bdd_eq h
      refine gx_callVi X (40) (hC0 _ _ _ _ _ _ _ ca18) lc_X10_strikesBy li_X10_strikesBy lm_X10_344 (by decide) (cl_40 _ _) rfl rfl rfl hdn rfl (Nat.le_of_ble_eq_true rfl) dX10_strikesBy_35 ?_
      refine gx_iconst X (v := (2 : Int32)) dX10_strikesBy_38 (by decide) ?_
      refine gx_imul X dX10_strikesBy_39 ?_
      obtain ⟨rfl, rfl⟩ := ret_eq h
      exact gx_iret X rfl dX10_strikesBy_40
  · replace h := (if_pos q1).symm.trans h
    refine gx_aload_n X 0 rfl dX10_strikesBy_5 ?_
    refine gx_bipush X (v := (20 : Int32)) dX10_strikesBy_6 (by decide) ?_
    obtain ⟨ra19, ga20, ca21, h⟩ := bdd_eq h
    refine gx_callVv X (40) (c_X10_runs ca21) lc_X10_runs li_X10_runs lm_X10_340 (by decide) (cl_40 _ _) rfl rfl rfl (Nat.le_trans (by decide) hd) rfl (Nat.le_of_ble_eq_true rfl) dX10_strikesBy_8 ?_
    refine gx_aload_n X 0 rfl dX10_strikesBy_11 ?_
    refine gx_iconst X (v := (0 : Int32)) dX10_strikesBy_12 (by decide) ?_
    refine gx_iload_n X 2 rfl dX10_strikesBy_13 ?_
    obtain ⟨ra22, ga23, ca24, h⟩ := bdd_eq h
    refine gx_callVi X (40) (hC0 _ _ _ _ _ _ _ ca24) lc_X10_strikesBy li_X10_strikesBy lm_X10_344 (by decide) (cl_40 _ _) rfl rfl rfl hdn rfl (Nat.le_of_ble_eq_true rfl) dX10_strikesBy_14 ?_
    refine gx_iconst X (v := (3 : Int32)) dX10_strikesBy_17 (by decide) ?_
    refine gx_iadd X dX10_strikesBy_18 ?_
    obtain ⟨rfl, rfl⟩ := ret_eq h
    exact gx_iret X rfl dX10_strikesBy_19
def g1_ : Nat → Nat → Int32 → Int32 → Int32 → Int32 → Mm → Option (Int32 × Mm)
  | 0, _, _, _, _, _, _ => none
  | n + 1, t, b0, b1, b2, b3, g => if t = 0 then m_X10_strikesBy (g1_ n) b0 b1 g else none
set_option maxHeartbeats 2000000 in
theorem g1_all : ∀ n : Nat, (∀ (b0 b1 b2 b3 : Int32) (g : Mm) (rr : Int32) (gg : Mm), g1_ n 0 b0 b1 b2 b3 g = some (rr, gg) → gx_M (2 + n) yX10_strikesBy cX10_strikesBy 3 (some .int) (fun al => [.ref (al (40)), .int (b0), .int (b1)]) g (some (.int rr)) gg) := by
  intro n
  induction n with
  | zero => exact fun b0 b1 b2 b3 g rr gg h => (by cases h)
  | succ n ih =>
    have i0 := ih
    have hd : 2 ≤ 2 + (n + 1) := Nat.le_add_right _ _
    have hdn : (2 + n) + 1 ≤ 2 + (n + 1) := Nat.le_refl _
    exact fun b0 b1 b2 b3 g rr gg h => b_X10_strikesBy hd hdn i0 h
theorem c_X10_strikesBy {b0 b1 b2 b3 : Int32} {g : Mm} {rr : Int32} {gg : Mm} (h : g1_ 8 0 b0 b1 b2 b3 g = some (rr, gg)) : gx_M 10 yX10_strikesBy cX10_strikesBy 3 (some .int) (fun al => [.ref (al (40)), .int (b0), .int (b1)]) g (some (.int rr)) gg := (g1_all 8) _ _ _ _ _ _ _ h
theorem dX10_restsBy_0 : decode cX10_restsBy 0 = .ok (.iload_n 1, 1) := by decide +kernel
theorem dX10_restsBy_1 : decode cX10_restsBy 1 = .ok (.iconst 3, 1) := by decide +kernel
theorem dX10_restsBy_2 : decode cX10_restsBy 2 = .ok (.if_icmp .ne 18, 3) := by decide +kernel
theorem dX10_restsBy_5 : decode cX10_restsBy 5 = .ok (.aload_n 0, 1) := by decide +kernel
theorem dX10_restsBy_6 : decode cX10_restsBy 6 = .ok (.bipush 40, 2) := by decide +kernel
theorem dX10_restsBy_8 : decode cX10_restsBy 8 = .ok (.invokevirtual 340, 3) := by decide +kernel
theorem dX10_restsBy_11 : decode cX10_restsBy 11 = .ok (.aload_n 0, 1) := by decide +kernel
theorem dX10_restsBy_12 : decode cX10_restsBy 12 = .ok (.iconst 2, 1) := by decide +kernel
theorem dX10_restsBy_13 : decode cX10_restsBy 13 = .ok (.iload_n 2, 1) := by decide +kernel
theorem dX10_restsBy_14 : decode cX10_restsBy 14 = .ok (.invokevirtual 359, 3) := by decide +kernel
theorem dX10_restsBy_17 : decode cX10_restsBy 17 = .ok (.iconst 3, 1) := by decide +kernel
theorem dX10_restsBy_18 : decode cX10_restsBy 18 = .ok (.imul, 1) := by decide +kernel
theorem dX10_restsBy_19 : decode cX10_restsBy 19 = .ok (.ireturn, 1) := by decide +kernel
theorem dX10_restsBy_20 : decode cX10_restsBy 20 = .ok (.iload_n 1, 1) := by decide +kernel
theorem dX10_restsBy_21 : decode cX10_restsBy 21 = .ok (.iconst 4, 1) := by decide +kernel
theorem dX10_restsBy_22 : decode cX10_restsBy 22 = .ok (.if_icmp .ne 28, 3) := by decide +kernel
theorem dX10_restsBy_25 : decode cX10_restsBy 25 = .ok (.aload_n 0, 1) := by decide +kernel
theorem dX10_restsBy_26 : decode cX10_restsBy 26 = .ok (.bipush 50, 2) := by decide +kernel
theorem dX10_restsBy_28 : decode cX10_restsBy 28 = .ok (.invokevirtual 340, 3) := by decide +kernel
theorem dX10_restsBy_31 : decode cX10_restsBy 31 = .ok (.aload_n 0, 1) := by decide +kernel
theorem dX10_restsBy_32 : decode cX10_restsBy 32 = .ok (.iconst 0, 1) := by decide +kernel
theorem dX10_restsBy_33 : decode cX10_restsBy 33 = .ok (.iload_n 2, 1) := by decide +kernel
theorem dX10_restsBy_34 : decode cX10_restsBy 34 = .ok (.invokevirtual 359, 3) := by decide +kernel
theorem dX10_restsBy_37 : decode cX10_restsBy 37 = .ok (.istore_n 3, 1) := by decide +kernel
theorem dX10_restsBy_38 : decode cX10_restsBy 38 = .ok (.iload_n 3, 1) := by decide +kernel
theorem dX10_restsBy_39 : decode cX10_restsBy 39 = .ok (.aload_n 0, 1) := by decide +kernel
theorem dX10_restsBy_40 : decode cX10_restsBy 40 = .ok (.aload_n 0, 1) := by decide +kernel
theorem dX10_restsBy_41 : decode cX10_restsBy 41 = .ok (.getfield 356, 3) := by decide +kernel
theorem dX10_restsBy_44 : decode cX10_restsBy 44 = .ok (.iconst 2, 1) := by decide +kernel
theorem dX10_restsBy_45 : decode cX10_restsBy 45 = .ok (.invokevirtual 344, 3) := by decide +kernel
theorem dX10_restsBy_48 : decode cX10_restsBy 48 = .ok (.isub, 1) := by decide +kernel
theorem dX10_restsBy_49 : decode cX10_restsBy 49 = .ok (.ireturn, 1) := by decide +kernel
theorem dX10_restsBy_50 : decode cX10_restsBy 50 = .ok (.iload_n 1, 1) := by decide +kernel
theorem dX10_restsBy_51 : decode cX10_restsBy 51 = .ok (.ifCond .eq 13, 3) := by decide +kernel
theorem dX10_restsBy_54 : decode cX10_restsBy 54 = .ok (.aload_n 0, 1) := by decide +kernel
theorem dX10_restsBy_55 : decode cX10_restsBy 55 = .ok (.iload_n 1, 1) := by decide +kernel
theorem dX10_restsBy_56 : decode cX10_restsBy 56 = .ok (.invokestatic 347, 3) := by decide +kernel
theorem dX10_restsBy_59 : decode cX10_restsBy 59 = .ok (.iload_n 2, 1) := by decide +kernel
theorem dX10_restsBy_60 : decode cX10_restsBy 60 = .ok (.invokevirtual 359, 3) := by decide +kernel
theorem dX10_restsBy_63 : decode cX10_restsBy 63 = .ok (.ireturn, 1) := by decide +kernel
theorem dX10_restsBy_64 : decode cX10_restsBy 64 = .ok (.aload_n 0, 1) := by decide +kernel
theorem dX10_restsBy_65 : decode cX10_restsBy 65 = .ok (.bipush 11, 2) := by decide +kernel
theorem dX10_restsBy_67 : decode cX10_restsBy 67 = .ok (.invokevirtual 340, 3) := by decide +kernel
theorem dX10_restsBy_70 : decode cX10_restsBy 70 = .ok (.iload_n 2, 1) := by decide +kernel
theorem dX10_restsBy_71 : decode cX10_restsBy 71 = .ok (.aload_n 0, 1) := by decide +kernel
theorem dX10_restsBy_72 : decode cX10_restsBy 72 = .ok (.getfield 350, 3) := by decide +kernel
theorem dX10_restsBy_75 : decode cX10_restsBy 75 = .ok (.ixor, 1) := by decide +kernel
theorem dX10_restsBy_76 : decode cX10_restsBy 76 = .ok (.ireturn, 1) := by decide +kernel
def m_X10_restsBy (C : Nat → Int32 → Int32 → Int32 → Int32 → Mm → Option (Int32 × Mm)) (a1 : Int32) (a2 : Int32) (g : Mm) : Option (Int32 × Mm) := (if a1 = (3 : Int32) then bdd (m_X10_runs (40 : Int32) g) (fun ra22 ga23 => bdd (C 0 (2 : Int32) a2 (0 : Int32) (0 : Int32) ga23) (fun ra25 ga26 => some ((ra25 * (3 : Int32)), ga26))) else (if a1 = (4 : Int32) then bdd (m_X10_runs (50 : Int32) g) (fun ra13 ga14 => bdd (C 0 (0 : Int32) a2 (0 : Int32) (0 : Int32) ga14) (fun ra16 ga17 => bdd (g1_ 8 0 (rdI ga17 40 43) (2 : Int32) (0 : Int32) (0 : Int32) ga17) (fun ra19 ga20 => some ((ra16 - ra19), ga20)))) else (if a1 = (0 : Int32) then bdd (m_X10_runs (11 : Int32) g) (fun ra4 ga5 => some ((a2 ^^^ (rdI ga5 40 44)), ga5)) else bdd (m_X10_above a1 g) (fun ra7 ga8 => bdd (C 0 ra7 a2 (0 : Int32) (0 : Int32) ga8) (fun ra10 ga11 => some (ra10, ga11))))))
set_option maxHeartbeats 2000000 in
theorem b_X10_restsBy {d : Nat} {r2 : Int32} {g g2 : Mm} (hd : 11 ≤ d) {dn : Nat} {C : Nat → Int32 → Int32 → Int32 → Int32 → Mm → Option (Int32 × Mm)} (hdn : dn + 1 ≤ d) (hC0 : ∀ (b0 b1 b2 b3 : Int32) (g : Mm) (rr : Int32) (gg : Mm), C 0 b0 b1 b2 b3 g = some (rr, gg) → gx_M dn yX10_restsBy cX10_restsBy 4 (some .int) (fun al => [.ref (al (40)), .int (b0), .int (b1)]) g (some (.int rr)) gg) {a1 : Int32} {a2 : Int32} (h : m_X10_restsBy C a1 a2 g = some (r2, g2)) : gx_M d yX10_restsBy cX10_restsBy 4 (some .int) (fun al => [.ref (al (40)), .int (a1), .int (a2)]) g (some (.int r2)) g2 := by
  refine gx_M.of (by decide +kernel) (fun _ => Nat.le_of_ble_eq_true rfl) ?_
  intro p l e R s m args below meth c D al cI cJ A X
  refine gx_eq (pc' := 0) (ls' := [(0, .ref (al (40))), (1, .int (a1)), (2, .int (a2))]) (st' := []) (g' := g) ⟨rfl, rfl, rfl, rfl⟩ ?_
  unfold m_X10_restsBy at h
  refine gx_iload_n X 1 rfl dX10_restsBy_0 ?_
  refine gx_iconst X (v := (3 : Int32)) dX10_restsBy_1 (by decide) ?_
  refine gx_icmp_ne X 20 dX10_restsBy_2 (by decide) (fun q1 => ?_) (fun q1 => ?_)
  · replace h := (if_neg q1).symm.trans h
    refine gx_iload_n X 1 rfl dX10_restsBy_20 ?_
    refine gx_iconst X (v := (4 : Int32)) dX10_restsBy_21 (by decide) ?_
    refine gx_icmp_ne X 50 dX10_restsBy_22 (by decide) (fun q2 => ?_) (fun q2 => ?_)
    · replace h := (if_neg q2).symm.trans h
      refine gx_iload_n X 1 rfl dX10_restsBy_50 ?_
      refine gx_if_eq X 64 dX10_restsBy_51 (by decide) (fun q3 => ?_) (fun q3 => ?_)
      · replace h := (if_pos q3).symm.trans h
        refine gx_aload_n X 0 rfl dX10_restsBy_64 ?_
        refine gx_bipush X (v := (11 : Int32)) dX10_restsBy_65 (by decide) ?_
        obtain ⟨ra4, ga5, ca6, h⟩ := bdd_eq h
        refine gx_callVv X (40) (c_X10_runs ca6) lc_X10_runs li_X10_runs lm_X10_340 (by decide) (cl_40 _ _) rfl rfl rfl (Nat.le_trans (by decide) hd) rfl (Nat.le_of_ble_eq_true rfl) dX10_restsBy_67 ?_
        refine gx_iload_n X 2 rfl dX10_restsBy_70 ?_
        refine gx_aload_n X 0 rfl dX10_restsBy_71 ?_
        refine gx_getf X (40) lf_X10_350 (by decide) (cl_40 _ _) (v := .int ((rdI ga5 40 44))) rfl dX10_restsBy_72 ?_
        refine gx_ixor X dX10_restsBy_75 ?_
        obtain ⟨rfl, rfl⟩ := ret_eq h
        exact gx_iret X rfl dX10_restsBy_76
      · replace h := (if_neg q3).symm.trans h
        refine gx_aload_n X 0 rfl dX10_restsBy_54 ?_
        refine gx_iload_n X 1 rfl dX10_restsBy_55 ?_
        obtain ⟨ra7, ga8, ca9, h⟩ := bdd_eq h
        refine gx_callSi X (c_X10_above ca9) lc_X10_above li_X10_above lm_X10_347 rfl rfl (Nat.le_trans (by decide) hd) rfl (Nat.le_of_ble_eq_true rfl) dX10_restsBy_56 ?_
        refine gx_iload_n X 2 rfl dX10_restsBy_59 ?_
        obtain ⟨ra10, ga11, ca12, h⟩ := bdd_eq h
        refine gx_callVi X (40) (hC0 _ _ _ _ _ _ _ ca12) lc_X10_restsBy li_X10_restsBy lm_X10_359 (by decide) (cl_40 _ _) rfl rfl rfl hdn rfl (Nat.le_of_ble_eq_true rfl) dX10_restsBy_60 ?_
        obtain ⟨rfl, rfl⟩ := ret_eq h
        exact gx_iret X rfl dX10_restsBy_63
    · replace h := (if_pos q2).symm.trans h
      refine gx_aload_n X 0 rfl dX10_restsBy_25 ?_
      refine gx_bipush X (v := (50 : Int32)) dX10_restsBy_26 (by decide) ?_
      obtain ⟨ra13, ga14, ca15, h⟩ := bdd_eq h
      refine gx_callVv X (40) (c_X10_runs ca15) lc_X10_runs li_X10_runs lm_X10_340 (by decide) (cl_40 _ _) rfl rfl rfl (Nat.le_trans (by decide) hd) rfl (Nat.le_of_ble_eq_true rfl) dX10_restsBy_28 ?_
      refine gx_aload_n X 0 rfl dX10_restsBy_31 ?_
      refine gx_iconst X (v := (0 : Int32)) dX10_restsBy_32 (by decide) ?_
      refine gx_iload_n X 2 rfl dX10_restsBy_33 ?_
      obtain ⟨ra16, ga17, ca18, h⟩ := bdd_eq h
      refine gx_callVi X (40) (hC0 _ _ _ _ _ _ _ ca18) lc_X10_restsBy li_X10_restsBy lm_X10_359 (by decide) (cl_40 _ _) rfl rfl rfl hdn rfl (Nat.le_of_ble_eq_true rfl) dX10_restsBy_34 ?_
      refine gx_istore_n X [(3, .int (ra16)), (0, .ref (al (40))), (1, .int (a1)), (2, .int (a2))] dX10_restsBy_37 (by decide) rfl ?_
      refine gx_iload_n X 0 rfl dX10_restsBy_38 ?_
      refine gx_aload_n X 1 rfl dX10_restsBy_39 ?_
      refine gx_aload_n X 1 rfl dX10_restsBy_40 ?_
      refine gx_getf X (40) lf_X10_356 (by decide) (cl_40 _ _) (v := .int ((rdI ga17 40 43))) rfl dX10_restsBy_41 ?_
      refine gx_iconst X (v := (2 : Int32)) dX10_restsBy_44 (by decide) ?_
      obtain ⟨ra19, ga20, ca21, h⟩ := bdd_eq h
      refine gx_callVi X (40) (c_X10_strikesBy ca21) lc_X10_strikesBy li_X10_strikesBy lm_X10_344 (by decide) (cl_40 _ _) rfl rfl rfl (Nat.le_trans (by decide) hd) rfl (Nat.le_of_ble_eq_true rfl) dX10_restsBy_45 ?_
      refine gx_isub X dX10_restsBy_48 ?_
      obtain ⟨rfl, rfl⟩ := ret_eq h
      exact gx_iret X rfl dX10_restsBy_49
  · replace h := (if_pos q1).symm.trans h
    refine gx_aload_n X 0 rfl dX10_restsBy_5 ?_
    refine gx_bipush X (v := (40 : Int32)) dX10_restsBy_6 (by decide) ?_
    obtain ⟨ra22, ga23, ca24, h⟩ := bdd_eq h
    refine gx_callVv X (40) (c_X10_runs ca24) lc_X10_runs li_X10_runs lm_X10_340 (by decide) (cl_40 _ _) rfl rfl rfl (Nat.le_trans (by decide) hd) rfl (Nat.le_of_ble_eq_true rfl) dX10_restsBy_8 ?_
    refine gx_aload_n X 0 rfl dX10_restsBy_11 ?_
    refine gx_iconst X (v := (2 : Int32)) dX10_restsBy_12 (by decide) ?_
    refine gx_iload_n X 2 rfl dX10_restsBy_13 ?_
    obtain ⟨ra25, ga26, ca27, h⟩ := bdd_eq h
    refine gx_callVi X (40) (hC0 _ _ _ _ _ _ _ ca27) lc_X10_restsBy li_X10_restsBy lm_X10_359 (by decide) (cl_40 _ _) rfl rfl rfl hdn rfl (Nat.le_of_ble_eq_true rfl) dX10_restsBy_14 ?_
    refine gx_iconst X (v := (3 : Int32)) dX10_restsBy_17 (by decide) ?_
    refine gx_imul X dX10_restsBy_18 ?_
    obtain ⟨rfl, rfl⟩ := ret_eq h
    exact gx_iret X rfl dX10_restsBy_19
def g3_ : Nat → Nat → Int32 → Int32 → Int32 → Int32 → Mm → Option (Int32 × Mm)
  | 0, _, _, _, _, _, _ => none
  | n + 1, t, b0, b1, b2, b3, g => if t = 0 then m_X10_restsBy (g3_ n) b0 b1 g else none
set_option maxHeartbeats 2000000 in
theorem g3_all : ∀ n : Nat, (∀ (b0 b1 b2 b3 : Int32) (g : Mm) (rr : Int32) (gg : Mm), g3_ n 0 b0 b1 b2 b3 g = some (rr, gg) → gx_M (11 + n) yX10_restsBy cX10_restsBy 4 (some .int) (fun al => [.ref (al (40)), .int (b0), .int (b1)]) g (some (.int rr)) gg) := by
  intro n
  induction n with
  | zero => exact fun b0 b1 b2 b3 g rr gg h => (by cases h)
  | succ n ih =>
    have i0 := ih
    have hd : 11 ≤ 11 + (n + 1) := Nat.le_add_right _ _
    have hdn : (11 + n) + 1 ≤ 11 + (n + 1) := Nat.le_refl _
    exact fun b0 b1 b2 b3 g rr gg h => b_X10_restsBy hd hdn i0 h
theorem c_X10_restsBy {b0 b1 b2 b3 : Int32} {g : Mm} {rr : Int32} {gg : Mm} (h : g3_ 10 0 b0 b1 b2 b3 g = some (rr, gg)) : gx_M 21 yX10_restsBy cX10_restsBy 4 (some .int) (fun al => [.ref (al (40)), .int (b0), .int (b1)]) g (some (.int rr)) gg := (g3_all 10) _ _ _ _ _ _ _ h
theorem dX10_soundsBy_0 : decode cX10_soundsBy 0 = .ok (.iload_n 1, 1) := by decide +kernel
theorem dX10_soundsBy_1 : decode cX10_soundsBy 1 = .ok (.iconst 2, 1) := by decide +kernel
theorem dX10_soundsBy_2 : decode cX10_soundsBy 2 = .ok (.if_icmp .ne 17, 3) := by decide +kernel
theorem dX10_soundsBy_5 : decode cX10_soundsBy 5 = .ok (.aload_n 0, 1) := by decide +kernel
theorem dX10_soundsBy_6 : decode cX10_soundsBy 6 = .ok (.bipush 30, 2) := by decide +kernel
theorem dX10_soundsBy_8 : decode cX10_soundsBy 8 = .ok (.invokevirtual 340, 3) := by decide +kernel
theorem dX10_soundsBy_11 : decode cX10_soundsBy 11 = .ok (.aload_n 0, 1) := by decide +kernel
theorem dX10_soundsBy_12 : decode cX10_soundsBy 12 = .ok (.iconst 0, 1) := by decide +kernel
theorem dX10_soundsBy_13 : decode cX10_soundsBy 13 = .ok (.iload_n 2, 1) := by decide +kernel
theorem dX10_soundsBy_14 : decode cX10_soundsBy 14 = .ok (.invokevirtual 353, 3) := by decide +kernel
theorem dX10_soundsBy_17 : decode cX10_soundsBy 17 = .ok (.ineg, 1) := by decide +kernel
theorem dX10_soundsBy_18 : decode cX10_soundsBy 18 = .ok (.ireturn, 1) := by decide +kernel
theorem dX10_soundsBy_19 : decode cX10_soundsBy 19 = .ok (.iload_n 1, 1) := by decide +kernel
theorem dX10_soundsBy_20 : decode cX10_soundsBy 20 = .ok (.iconst 3, 1) := by decide +kernel
theorem dX10_soundsBy_21 : decode cX10_soundsBy 21 = .ok (.if_icmp .ne 18, 3) := by decide +kernel
theorem dX10_soundsBy_24 : decode cX10_soundsBy 24 = .ok (.aload_n 0, 1) := by decide +kernel
theorem dX10_soundsBy_25 : decode cX10_soundsBy 25 = .ok (.bipush 41, 2) := by decide +kernel
theorem dX10_soundsBy_27 : decode cX10_soundsBy 27 = .ok (.invokevirtual 340, 3) := by decide +kernel
theorem dX10_soundsBy_30 : decode cX10_soundsBy 30 = .ok (.aload_n 0, 1) := by decide +kernel
theorem dX10_soundsBy_31 : decode cX10_soundsBy 31 = .ok (.iconst 2, 1) := by decide +kernel
theorem dX10_soundsBy_32 : decode cX10_soundsBy 32 = .ok (.iload_n 2, 1) := by decide +kernel
theorem dX10_soundsBy_33 : decode cX10_soundsBy 33 = .ok (.iconst 1, 1) := by decide +kernel
theorem dX10_soundsBy_34 : decode cX10_soundsBy 34 = .ok (.iadd, 1) := by decide +kernel
theorem dX10_soundsBy_35 : decode cX10_soundsBy 35 = .ok (.invokevirtual 353, 3) := by decide +kernel
theorem dX10_soundsBy_38 : decode cX10_soundsBy 38 = .ok (.ireturn, 1) := by decide +kernel
theorem dX10_soundsBy_39 : decode cX10_soundsBy 39 = .ok (.iload_n 1, 1) := by decide +kernel
theorem dX10_soundsBy_40 : decode cX10_soundsBy 40 = .ok (.bipush 7, 2) := by decide +kernel
theorem dX10_soundsBy_42 : decode cX10_soundsBy 42 = .ok (.if_icmp .ne 28, 3) := by decide +kernel
theorem dX10_soundsBy_45 : decode cX10_soundsBy 45 = .ok (.aload_n 0, 1) := by decide +kernel
theorem dX10_soundsBy_46 : decode cX10_soundsBy 46 = .ok (.bipush 80, 2) := by decide +kernel
theorem dX10_soundsBy_48 : decode cX10_soundsBy 48 = .ok (.invokevirtual 340, 3) := by decide +kernel
theorem dX10_soundsBy_51 : decode cX10_soundsBy 51 = .ok (.aload_n 0, 1) := by decide +kernel
theorem dX10_soundsBy_52 : decode cX10_soundsBy 52 = .ok (.iconst 3, 1) := by decide +kernel
theorem dX10_soundsBy_53 : decode cX10_soundsBy 53 = .ok (.iload_n 2, 1) := by decide +kernel
theorem dX10_soundsBy_54 : decode cX10_soundsBy 54 = .ok (.invokevirtual 353, 3) := by decide +kernel
theorem dX10_soundsBy_57 : decode cX10_soundsBy 57 = .ok (.istore_n 3, 1) := by decide +kernel
theorem dX10_soundsBy_58 : decode cX10_soundsBy 58 = .ok (.iload_n 3, 1) := by decide +kernel
theorem dX10_soundsBy_59 : decode cX10_soundsBy 59 = .ok (.aload_n 0, 1) := by decide +kernel
theorem dX10_soundsBy_60 : decode cX10_soundsBy 60 = .ok (.aload_n 0, 1) := by decide +kernel
theorem dX10_soundsBy_61 : decode cX10_soundsBy 61 = .ok (.getfield 356, 3) := by decide +kernel
theorem dX10_soundsBy_64 : decode cX10_soundsBy 64 = .ok (.iconst 2, 1) := by decide +kernel
theorem dX10_soundsBy_65 : decode cX10_soundsBy 65 = .ok (.invokevirtual 359, 3) := by decide +kernel
theorem dX10_soundsBy_68 : decode cX10_soundsBy 68 = .ok (.iadd, 1) := by decide +kernel
theorem dX10_soundsBy_69 : decode cX10_soundsBy 69 = .ok (.ireturn, 1) := by decide +kernel
theorem dX10_soundsBy_70 : decode cX10_soundsBy 70 = .ok (.iload_n 1, 1) := by decide +kernel
theorem dX10_soundsBy_71 : decode cX10_soundsBy 71 = .ok (.ifCond .eq 13, 3) := by decide +kernel
theorem dX10_soundsBy_74 : decode cX10_soundsBy 74 = .ok (.aload_n 0, 1) := by decide +kernel
theorem dX10_soundsBy_75 : decode cX10_soundsBy 75 = .ok (.iload_n 1, 1) := by decide +kernel
theorem dX10_soundsBy_76 : decode cX10_soundsBy 76 = .ok (.invokestatic 347, 3) := by decide +kernel
theorem dX10_soundsBy_79 : decode cX10_soundsBy 79 = .ok (.iload_n 2, 1) := by decide +kernel
theorem dX10_soundsBy_80 : decode cX10_soundsBy 80 = .ok (.invokevirtual 353, 3) := by decide +kernel
theorem dX10_soundsBy_83 : decode cX10_soundsBy 83 = .ok (.ireturn, 1) := by decide +kernel
theorem dX10_soundsBy_84 : decode cX10_soundsBy 84 = .ok (.aload_n 0, 1) := by decide +kernel
theorem dX10_soundsBy_85 : decode cX10_soundsBy 85 = .ok (.bipush 10, 2) := by decide +kernel
theorem dX10_soundsBy_87 : decode cX10_soundsBy 87 = .ok (.invokevirtual 340, 3) := by decide +kernel
theorem dX10_soundsBy_90 : decode cX10_soundsBy 90 = .ok (.aload_n 0, 1) := by decide +kernel
theorem dX10_soundsBy_91 : decode cX10_soundsBy 91 = .ok (.aload_n 0, 1) := by decide +kernel
theorem dX10_soundsBy_92 : decode cX10_soundsBy 92 = .ok (.getfield 356, 3) := by decide +kernel
theorem dX10_soundsBy_95 : decode cX10_soundsBy 95 = .ok (.iload_n 2, 1) := by decide +kernel
theorem dX10_soundsBy_96 : decode cX10_soundsBy 96 = .ok (.invokevirtual 344, 3) := by decide +kernel
theorem dX10_soundsBy_99 : decode cX10_soundsBy 99 = .ok (.iconst 2, 1) := by decide +kernel
theorem dX10_soundsBy_100 : decode cX10_soundsBy 100 = .ok (.imul, 1) := by decide +kernel
theorem dX10_soundsBy_101 : decode cX10_soundsBy 101 = .ok (.ireturn, 1) := by decide +kernel
def m_X10_soundsBy (C : Nat → Int32 → Int32 → Int32 → Int32 → Mm → Option (Int32 × Mm)) (a1 : Int32) (a2 : Int32) (g : Mm) : Option (Int32 × Mm) := (if a1 = (2 : Int32) then bdd (m_X10_runs (30 : Int32) g) (fun ra32 ga33 => bdd (C 0 (0 : Int32) a2 (0 : Int32) (0 : Int32) ga33) (fun ra35 ga36 => some ((-ra35), ga36))) else (if a1 = (3 : Int32) then bdd (m_X10_runs (41 : Int32) g) (fun ra26 ga27 => bdd (C 0 (2 : Int32) (a2 + (1 : Int32)) (0 : Int32) (0 : Int32) ga27) (fun ra29 ga30 => some (ra29, ga30))) else (if a1 = (7 : Int32) then bdd (m_X10_runs (80 : Int32) g) (fun ra17 ga18 => bdd (C 0 (3 : Int32) a2 (0 : Int32) (0 : Int32) ga18) (fun ra20 ga21 => bdd (g3_ 10 0 (rdI ga21 40 43) (2 : Int32) (0 : Int32) (0 : Int32) ga21) (fun ra23 ga24 => some ((ra20 + ra23), ga24)))) else (if a1 = (0 : Int32) then bdd (m_X10_runs (10 : Int32) g) (fun ra5 ga6 => bdd (g1_ 8 0 (rdI ga6 40 43) a2 (0 : Int32) (0 : Int32) ga6) (fun ra8 ga9 => some ((ra8 * (2 : Int32)), ga9))) else bdd (m_X10_above a1 g) (fun ra11 ga12 => bdd (C 0 ra11 a2 (0 : Int32) (0 : Int32) ga12) (fun ra14 ga15 => some (ra14, ga15)))))))
set_option maxHeartbeats 2000000 in
theorem b_X10_soundsBy {d : Nat} {r2 : Int32} {g g2 : Mm} (hd : 22 ≤ d) {dn : Nat} {C : Nat → Int32 → Int32 → Int32 → Int32 → Mm → Option (Int32 × Mm)} (hdn : dn + 1 ≤ d) (hC0 : ∀ (b0 b1 b2 b3 : Int32) (g : Mm) (rr : Int32) (gg : Mm), C 0 b0 b1 b2 b3 g = some (rr, gg) → gx_M dn yX10_soundsBy cX10_soundsBy 4 (some .int) (fun al => [.ref (al (40)), .int (b0), .int (b1)]) g (some (.int rr)) gg) {a1 : Int32} {a2 : Int32} (h : m_X10_soundsBy C a1 a2 g = some (r2, g2)) : gx_M d yX10_soundsBy cX10_soundsBy 4 (some .int) (fun al => [.ref (al (40)), .int (a1), .int (a2)]) g (some (.int r2)) g2 := by
  refine gx_M.of (by decide +kernel) (fun _ => Nat.le_of_ble_eq_true rfl) ?_
  intro p l e R s m args below meth c D al cI cJ A X
  refine gx_eq (pc' := 0) (ls' := [(0, .ref (al (40))), (1, .int (a1)), (2, .int (a2))]) (st' := []) (g' := g) ⟨rfl, rfl, rfl, rfl⟩ ?_
  unfold m_X10_soundsBy at h
  refine gx_iload_n X 1 rfl dX10_soundsBy_0 ?_
  refine gx_iconst X (v := (2 : Int32)) dX10_soundsBy_1 (by decide) ?_
  refine gx_icmp_ne X 19 dX10_soundsBy_2 (by decide) (fun q1 => ?_) (fun q1 => ?_)
  · replace h := (if_neg q1).symm.trans h
    refine gx_iload_n X 1 rfl dX10_soundsBy_19 ?_
    refine gx_iconst X (v := (3 : Int32)) dX10_soundsBy_20 (by decide) ?_
    refine gx_icmp_ne X 39 dX10_soundsBy_21 (by decide) (fun q2 => ?_) (fun q2 => ?_)
    · replace h := (if_neg q2).symm.trans h
      refine gx_iload_n X 1 rfl dX10_soundsBy_39 ?_
      refine gx_bipush X (v := (7 : Int32)) dX10_soundsBy_40 (by decide) ?_
      refine gx_icmp_ne X 70 dX10_soundsBy_42 (by decide) (fun q3 => ?_) (fun q3 => ?_)
      · replace h := (if_neg q3).symm.trans h
        refine gx_iload_n X 1 rfl dX10_soundsBy_70 ?_
        refine gx_if_eq X 84 dX10_soundsBy_71 (by decide) (fun q4 => ?_) (fun q4 => ?_)
        · replace h := (if_pos q4).symm.trans h
          refine gx_aload_n X 0 rfl dX10_soundsBy_84 ?_
          refine gx_bipush X (v := (10 : Int32)) dX10_soundsBy_85 (by decide) ?_
          obtain ⟨ra5, ga6, ca7, h⟩ := bdd_eq h
          refine gx_callVv X (40) (c_X10_runs ca7) lc_X10_runs li_X10_runs lm_X10_340 (by decide) (cl_40 _ _) rfl rfl rfl (Nat.le_trans (by decide) hd) rfl (Nat.le_of_ble_eq_true rfl) dX10_soundsBy_87 ?_
          refine gx_aload_n X 0 rfl dX10_soundsBy_90 ?_
          refine gx_aload_n X 0 rfl dX10_soundsBy_91 ?_
          refine gx_getf X (40) lf_X10_356 (by decide) (cl_40 _ _) (v := .int ((rdI ga6 40 43))) rfl dX10_soundsBy_92 ?_
          refine gx_iload_n X 2 rfl dX10_soundsBy_95 ?_
          obtain ⟨ra8, ga9, ca10, h⟩ := bdd_eq h
          refine gx_callVi X (40) (c_X10_strikesBy ca10) lc_X10_strikesBy li_X10_strikesBy lm_X10_344 (by decide) (cl_40 _ _) rfl rfl rfl (Nat.le_trans (by decide) hd) rfl (Nat.le_of_ble_eq_true rfl) dX10_soundsBy_96 ?_
          refine gx_iconst X (v := (2 : Int32)) dX10_soundsBy_99 (by decide) ?_
          refine gx_imul X dX10_soundsBy_100 ?_
          obtain ⟨rfl, rfl⟩ := ret_eq h
          exact gx_iret X rfl dX10_soundsBy_101
        · replace h := (if_neg q4).symm.trans h
          refine gx_aload_n X 0 rfl dX10_soundsBy_74 ?_
          refine gx_iload_n X 1 rfl dX10_soundsBy_75 ?_
          obtain ⟨ra11, ga12, ca13, h⟩ := bdd_eq h
          refine gx_callSi X (c_X10_above ca13) lc_X10_above li_X10_above lm_X10_347 rfl rfl (Nat.le_trans (by decide) hd) rfl (Nat.le_of_ble_eq_true rfl) dX10_soundsBy_76 ?_
          refine gx_iload_n X 2 rfl dX10_soundsBy_79 ?_
          obtain ⟨ra14, ga15, ca16, h⟩ := bdd_eq h
          refine gx_callVi X (40) (hC0 _ _ _ _ _ _ _ ca16) lc_X10_soundsBy li_X10_soundsBy lm_X10_353 (by decide) (cl_40 _ _) rfl rfl rfl hdn rfl (Nat.le_of_ble_eq_true rfl) dX10_soundsBy_80 ?_
          obtain ⟨rfl, rfl⟩ := ret_eq h
          exact gx_iret X rfl dX10_soundsBy_83
      · replace h := (if_pos q3).symm.trans h
        refine gx_aload_n X 0 rfl dX10_soundsBy_45 ?_
        refine gx_bipush X (v := (80 : Int32)) dX10_soundsBy_46 (by decide) ?_
        obtain ⟨ra17, ga18, ca19, h⟩ := bdd_eq h
        refine gx_callVv X (40) (c_X10_runs ca19) lc_X10_runs li_X10_runs lm_X10_340 (by decide) (cl_40 _ _) rfl rfl rfl (Nat.le_trans (by decide) hd) rfl (Nat.le_of_ble_eq_true rfl) dX10_soundsBy_48 ?_
        refine gx_aload_n X 0 rfl dX10_soundsBy_51 ?_
        refine gx_iconst X (v := (3 : Int32)) dX10_soundsBy_52 (by decide) ?_
        refine gx_iload_n X 2 rfl dX10_soundsBy_53 ?_
        obtain ⟨ra20, ga21, ca22, h⟩ := bdd_eq h
        refine gx_callVi X (40) (hC0 _ _ _ _ _ _ _ ca22) lc_X10_soundsBy li_X10_soundsBy lm_X10_353 (by decide) (cl_40 _ _) rfl rfl rfl hdn rfl (Nat.le_of_ble_eq_true rfl) dX10_soundsBy_54 ?_
        refine gx_istore_n X [(3, .int (ra20)), (0, .ref (al (40))), (1, .int (a1)), (2, .int (a2))] dX10_soundsBy_57 (by decide) rfl ?_
        refine gx_iload_n X 0 rfl dX10_soundsBy_58 ?_
        refine gx_aload_n X 1 rfl dX10_soundsBy_59 ?_
        refine gx_aload_n X 1 rfl dX10_soundsBy_60 ?_
        refine gx_getf X (40) lf_X10_356 (by decide) (cl_40 _ _) (v := .int ((rdI ga21 40 43))) rfl dX10_soundsBy_61 ?_
        refine gx_iconst X (v := (2 : Int32)) dX10_soundsBy_64 (by decide) ?_
        obtain ⟨ra23, ga24, ca25, h⟩ := bdd_eq h
        refine gx_callVi X (40) (c_X10_restsBy ca25) lc_X10_restsBy li_X10_restsBy lm_X10_359 (by decide) (cl_40 _ _) rfl rfl rfl (Nat.le_trans (by decide) hd) rfl (Nat.le_of_ble_eq_true rfl) dX10_soundsBy_65 ?_
        refine gx_iadd X dX10_soundsBy_68 ?_
        obtain ⟨rfl, rfl⟩ := ret_eq h
        exact gx_iret X rfl dX10_soundsBy_69
    · replace h := (if_pos q2).symm.trans h
      refine gx_aload_n X 0 rfl dX10_soundsBy_24 ?_
      refine gx_bipush X (v := (41 : Int32)) dX10_soundsBy_25 (by decide) ?_
      obtain ⟨ra26, ga27, ca28, h⟩ := bdd_eq h
      refine gx_callVv X (40) (c_X10_runs ca28) lc_X10_runs li_X10_runs lm_X10_340 (by decide) (cl_40 _ _) rfl rfl rfl (Nat.le_trans (by decide) hd) rfl (Nat.le_of_ble_eq_true rfl) dX10_soundsBy_27 ?_
      refine gx_aload_n X 0 rfl dX10_soundsBy_30 ?_
      refine gx_iconst X (v := (2 : Int32)) dX10_soundsBy_31 (by decide) ?_
      refine gx_iload_n X 2 rfl dX10_soundsBy_32 ?_
      refine gx_iconst X (v := (1 : Int32)) dX10_soundsBy_33 (by decide) ?_
      refine gx_iadd X dX10_soundsBy_34 ?_
      obtain ⟨ra29, ga30, ca31, h⟩ := bdd_eq h
      refine gx_callVi X (40) (hC0 _ _ _ _ _ _ _ ca31) lc_X10_soundsBy li_X10_soundsBy lm_X10_353 (by decide) (cl_40 _ _) rfl rfl rfl hdn rfl (Nat.le_of_ble_eq_true rfl) dX10_soundsBy_35 ?_
      obtain ⟨rfl, rfl⟩ := ret_eq h
      exact gx_iret X rfl dX10_soundsBy_38
  · replace h := (if_pos q1).symm.trans h
    refine gx_aload_n X 0 rfl dX10_soundsBy_5 ?_
    refine gx_bipush X (v := (30 : Int32)) dX10_soundsBy_6 (by decide) ?_
    obtain ⟨ra32, ga33, ca34, h⟩ := bdd_eq h
    refine gx_callVv X (40) (c_X10_runs ca34) lc_X10_runs li_X10_runs lm_X10_340 (by decide) (cl_40 _ _) rfl rfl rfl (Nat.le_trans (by decide) hd) rfl (Nat.le_of_ble_eq_true rfl) dX10_soundsBy_8 ?_
    refine gx_aload_n X 0 rfl dX10_soundsBy_11 ?_
    refine gx_iconst X (v := (0 : Int32)) dX10_soundsBy_12 (by decide) ?_
    refine gx_iload_n X 2 rfl dX10_soundsBy_13 ?_
    obtain ⟨ra35, ga36, ca37, h⟩ := bdd_eq h
    refine gx_callVi X (40) (hC0 _ _ _ _ _ _ _ ca37) lc_X10_soundsBy li_X10_soundsBy lm_X10_353 (by decide) (cl_40 _ _) rfl rfl rfl hdn rfl (Nat.le_of_ble_eq_true rfl) dX10_soundsBy_14 ?_
    refine gx_ineg X dX10_soundsBy_17 ?_
    obtain ⟨rfl, rfl⟩ := ret_eq h
    exact gx_iret X rfl dX10_soundsBy_18
def g2_ : Nat → Nat → Int32 → Int32 → Int32 → Int32 → Mm → Option (Int32 × Mm)
  | 0, _, _, _, _, _, _ => none
  | n + 1, t, b0, b1, b2, b3, g => if t = 0 then m_X10_soundsBy (g2_ n) b0 b1 g else none
set_option maxHeartbeats 2000000 in
theorem g2_all : ∀ n : Nat, (∀ (b0 b1 b2 b3 : Int32) (g : Mm) (rr : Int32) (gg : Mm), g2_ n 0 b0 b1 b2 b3 g = some (rr, gg) → gx_M (22 + n) yX10_soundsBy cX10_soundsBy 4 (some .int) (fun al => [.ref (al (40)), .int (b0), .int (b1)]) g (some (.int rr)) gg) := by
  intro n
  induction n with
  | zero => exact fun b0 b1 b2 b3 g rr gg h => (by cases h)
  | succ n ih =>
    have i0 := ih
    have hd : 22 ≤ 22 + (n + 1) := Nat.le_add_right _ _
    have hdn : (22 + n) + 1 ≤ 22 + (n + 1) := Nat.le_refl _
    exact fun b0 b1 b2 b3 g rr gg h => b_X10_soundsBy hd hdn i0 h
theorem c_X10_soundsBy {b0 b1 b2 b3 : Int32} {g : Mm} {rr : Int32} {gg : Mm} (h : g2_ 12 0 b0 b1 b2 b3 g = some (rr, gg)) : gx_M 34 yX10_soundsBy cX10_soundsBy 4 (some .int) (fun al => [.ref (al (40)), .int (b0), .int (b1)]) g (some (.int rr)) gg := (g2_all 12) _ _ _ _ _ _ _ h
theorem dX10_tellsOf_0 : decode cX10_tellsOf 0 = .ok (.iload_n 1, 1) := by decide +kernel
theorem dX10_tellsOf_1 : decode cX10_tellsOf 1 = .ok (.iconst 5, 1) := by decide +kernel
theorem dX10_tellsOf_2 : decode cX10_tellsOf 2 = .ok (.if_icmp .ne 18, 3) := by decide +kernel
theorem dX10_tellsOf_5 : decode cX10_tellsOf 5 = .ok (.aload_n 0, 1) := by decide +kernel
theorem dX10_tellsOf_6 : decode cX10_tellsOf 6 = .ok (.bipush 60, 2) := by decide +kernel
theorem dX10_tellsOf_8 : decode cX10_tellsOf 8 = .ok (.invokevirtual 340, 3) := by decide +kernel
theorem dX10_tellsOf_11 : decode cX10_tellsOf 11 = .ok (.aload_n 0, 1) := by decide +kernel
theorem dX10_tellsOf_12 : decode cX10_tellsOf 12 = .ok (.iconst 1, 1) := by decide +kernel
theorem dX10_tellsOf_13 : decode cX10_tellsOf 13 = .ok (.iload_n 2, 1) := by decide +kernel
theorem dX10_tellsOf_14 : decode cX10_tellsOf 14 = .ok (.invokevirtual 362, 3) := by decide +kernel
theorem dX10_tellsOf_17 : decode cX10_tellsOf 17 = .ok (.iconst 5, 1) := by decide +kernel
theorem dX10_tellsOf_18 : decode cX10_tellsOf 18 = .ok (.ixor, 1) := by decide +kernel
theorem dX10_tellsOf_19 : decode cX10_tellsOf 19 = .ok (.ireturn, 1) := by decide +kernel
theorem dX10_tellsOf_20 : decode cX10_tellsOf 20 = .ok (.iload_n 1, 1) := by decide +kernel
theorem dX10_tellsOf_21 : decode cX10_tellsOf 21 = .ok (.bipush 7, 2) := by decide +kernel
theorem dX10_tellsOf_23 : decode cX10_tellsOf 23 = .ok (.if_icmp .ne 18, 3) := by decide +kernel
theorem dX10_tellsOf_26 : decode cX10_tellsOf 26 = .ok (.aload_n 0, 1) := by decide +kernel
theorem dX10_tellsOf_27 : decode cX10_tellsOf 27 = .ok (.bipush 81, 2) := by decide +kernel
theorem dX10_tellsOf_29 : decode cX10_tellsOf 29 = .ok (.invokevirtual 340, 3) := by decide +kernel
theorem dX10_tellsOf_32 : decode cX10_tellsOf 32 = .ok (.aload_n 0, 1) := by decide +kernel
theorem dX10_tellsOf_33 : decode cX10_tellsOf 33 = .ok (.iconst 3, 1) := by decide +kernel
theorem dX10_tellsOf_34 : decode cX10_tellsOf 34 = .ok (.iload_n 2, 1) := by decide +kernel
theorem dX10_tellsOf_35 : decode cX10_tellsOf 35 = .ok (.invokevirtual 362, 3) := by decide +kernel
theorem dX10_tellsOf_38 : decode cX10_tellsOf 38 = .ok (.iconst 1, 1) := by decide +kernel
theorem dX10_tellsOf_39 : decode cX10_tellsOf 39 = .ok (.isub, 1) := by decide +kernel
theorem dX10_tellsOf_40 : decode cX10_tellsOf 40 = .ok (.ireturn, 1) := by decide +kernel
theorem dX10_tellsOf_41 : decode cX10_tellsOf 41 = .ok (.iload_n 1, 1) := by decide +kernel
theorem dX10_tellsOf_42 : decode cX10_tellsOf 42 = .ok (.ifCond .eq 13, 3) := by decide +kernel
theorem dX10_tellsOf_45 : decode cX10_tellsOf 45 = .ok (.aload_n 0, 1) := by decide +kernel
theorem dX10_tellsOf_46 : decode cX10_tellsOf 46 = .ok (.iload_n 1, 1) := by decide +kernel
theorem dX10_tellsOf_47 : decode cX10_tellsOf 47 = .ok (.invokestatic 347, 3) := by decide +kernel
theorem dX10_tellsOf_50 : decode cX10_tellsOf 50 = .ok (.iload_n 2, 1) := by decide +kernel
theorem dX10_tellsOf_51 : decode cX10_tellsOf 51 = .ok (.invokevirtual 362, 3) := by decide +kernel
theorem dX10_tellsOf_54 : decode cX10_tellsOf 54 = .ok (.ireturn, 1) := by decide +kernel
theorem dX10_tellsOf_55 : decode cX10_tellsOf 55 = .ok (.aload_n 0, 1) := by decide +kernel
theorem dX10_tellsOf_56 : decode cX10_tellsOf 56 = .ok (.iconst 2, 1) := by decide +kernel
theorem dX10_tellsOf_57 : decode cX10_tellsOf 57 = .ok (.invokevirtual 340, 3) := by decide +kernel
theorem dX10_tellsOf_60 : decode cX10_tellsOf 60 = .ok (.aload_n 0, 1) := by decide +kernel
theorem dX10_tellsOf_61 : decode cX10_tellsOf 61 = .ok (.aload_n 0, 1) := by decide +kernel
theorem dX10_tellsOf_62 : decode cX10_tellsOf 62 = .ok (.getfield 356, 3) := by decide +kernel
theorem dX10_tellsOf_65 : decode cX10_tellsOf 65 = .ok (.iload_n 2, 1) := by decide +kernel
theorem dX10_tellsOf_66 : decode cX10_tellsOf 66 = .ok (.invokevirtual 353, 3) := by decide +kernel
theorem dX10_tellsOf_69 : decode cX10_tellsOf 69 = .ok (.istore_n 3, 1) := by decide +kernel
theorem dX10_tellsOf_70 : decode cX10_tellsOf 70 = .ok (.iload_n 3, 1) := by decide +kernel
theorem dX10_tellsOf_71 : decode cX10_tellsOf 71 = .ok (.aload_n 0, 1) := by decide +kernel
theorem dX10_tellsOf_72 : decode cX10_tellsOf 72 = .ok (.aload_n 0, 1) := by decide +kernel
theorem dX10_tellsOf_73 : decode cX10_tellsOf 73 = .ok (.getfield 356, 3) := by decide +kernel
theorem dX10_tellsOf_76 : decode cX10_tellsOf 76 = .ok (.iconst 1, 1) := by decide +kernel
theorem dX10_tellsOf_77 : decode cX10_tellsOf 77 = .ok (.invokevirtual 359, 3) := by decide +kernel
theorem dX10_tellsOf_80 : decode cX10_tellsOf 80 = .ok (.isub, 1) := by decide +kernel
theorem dX10_tellsOf_81 : decode cX10_tellsOf 81 = .ok (.ireturn, 1) := by decide +kernel
def m_X10_tellsOf (C : Nat → Int32 → Int32 → Int32 → Int32 → Mm → Option (Int32 × Mm)) (a1 : Int32) (a2 : Int32) (g : Mm) : Option (Int32 × Mm) := (if a1 = (5 : Int32) then bdd (m_X10_runs (60 : Int32) g) (fun ra25 ga26 => bdd (C 0 (1 : Int32) a2 (0 : Int32) (0 : Int32) ga26) (fun ra28 ga29 => some ((ra28 ^^^ (5 : Int32)), ga29))) else (if a1 = (7 : Int32) then bdd (m_X10_runs (81 : Int32) g) (fun ra19 ga20 => bdd (C 0 (3 : Int32) a2 (0 : Int32) (0 : Int32) ga20) (fun ra22 ga23 => some ((ra22 - (1 : Int32)), ga23))) else (if a1 = (0 : Int32) then bdd (m_X10_runs (2 : Int32) g) (fun ra4 ga5 => bdd (g2_ 12 0 (rdI ga5 40 43) a2 (0 : Int32) (0 : Int32) ga5) (fun ra7 ga8 => bdd (g3_ 10 0 (rdI ga8 40 43) (1 : Int32) (0 : Int32) (0 : Int32) ga8) (fun ra10 ga11 => some ((ra7 - ra10), ga11)))) else bdd (m_X10_above a1 g) (fun ra13 ga14 => bdd (C 0 ra13 a2 (0 : Int32) (0 : Int32) ga14) (fun ra16 ga17 => some (ra16, ga17))))))
set_option maxHeartbeats 2000000 in
theorem b_X10_tellsOf {d : Nat} {r2 : Int32} {g g2 : Mm} (hd : 35 ≤ d) {dn : Nat} {C : Nat → Int32 → Int32 → Int32 → Int32 → Mm → Option (Int32 × Mm)} (hdn : dn + 1 ≤ d) (hC0 : ∀ (b0 b1 b2 b3 : Int32) (g : Mm) (rr : Int32) (gg : Mm), C 0 b0 b1 b2 b3 g = some (rr, gg) → gx_M dn yX10_tellsOf cX10_tellsOf 4 (some .int) (fun al => [.ref (al (40)), .int (b0), .int (b1)]) g (some (.int rr)) gg) {a1 : Int32} {a2 : Int32} (h : m_X10_tellsOf C a1 a2 g = some (r2, g2)) : gx_M d yX10_tellsOf cX10_tellsOf 4 (some .int) (fun al => [.ref (al (40)), .int (a1), .int (a2)]) g (some (.int r2)) g2 := by
  refine gx_M.of (by decide +kernel) (fun _ => Nat.le_of_ble_eq_true rfl) ?_
  intro p l e R s m args below meth c D al cI cJ A X
  refine gx_eq (pc' := 0) (ls' := [(0, .ref (al (40))), (1, .int (a1)), (2, .int (a2))]) (st' := []) (g' := g) ⟨rfl, rfl, rfl, rfl⟩ ?_
  unfold m_X10_tellsOf at h
  refine gx_iload_n X 1 rfl dX10_tellsOf_0 ?_
  refine gx_iconst X (v := (5 : Int32)) dX10_tellsOf_1 (by decide) ?_
  refine gx_icmp_ne X 20 dX10_tellsOf_2 (by decide) (fun q1 => ?_) (fun q1 => ?_)
  · replace h := (if_neg q1).symm.trans h
    refine gx_iload_n X 1 rfl dX10_tellsOf_20 ?_
    refine gx_bipush X (v := (7 : Int32)) dX10_tellsOf_21 (by decide) ?_
    refine gx_icmp_ne X 41 dX10_tellsOf_23 (by decide) (fun q2 => ?_) (fun q2 => ?_)
    · replace h := (if_neg q2).symm.trans h
      refine gx_iload_n X 1 rfl dX10_tellsOf_41 ?_
      refine gx_if_eq X 55 dX10_tellsOf_42 (by decide) (fun q3 => ?_) (fun q3 => ?_)
      · replace h := (if_pos q3).symm.trans h
        refine gx_aload_n X 0 rfl dX10_tellsOf_55 ?_
        refine gx_iconst X (v := (2 : Int32)) dX10_tellsOf_56 (by decide) ?_
        obtain ⟨ra4, ga5, ca6, h⟩ := bdd_eq h
        refine gx_callVv X (40) (c_X10_runs ca6) lc_X10_runs li_X10_runs lm_X10_340 (by decide) (cl_40 _ _) rfl rfl rfl (Nat.le_trans (by decide) hd) rfl (Nat.le_of_ble_eq_true rfl) dX10_tellsOf_57 ?_
        refine gx_aload_n X 0 rfl dX10_tellsOf_60 ?_
        refine gx_aload_n X 0 rfl dX10_tellsOf_61 ?_
        refine gx_getf X (40) lf_X10_356 (by decide) (cl_40 _ _) (v := .int ((rdI ga5 40 43))) rfl dX10_tellsOf_62 ?_
        refine gx_iload_n X 2 rfl dX10_tellsOf_65 ?_
        obtain ⟨ra7, ga8, ca9, h⟩ := bdd_eq h
        refine gx_callVi X (40) (c_X10_soundsBy ca9) lc_X10_soundsBy li_X10_soundsBy lm_X10_353 (by decide) (cl_40 _ _) rfl rfl rfl (Nat.le_trans (by decide) hd) rfl (Nat.le_of_ble_eq_true rfl) dX10_tellsOf_66 ?_
        refine gx_istore_n X [(3, .int (ra7)), (0, .ref (al (40))), (1, .int (a1)), (2, .int (a2))] dX10_tellsOf_69 (by decide) rfl ?_
        refine gx_iload_n X 0 rfl dX10_tellsOf_70 ?_
        refine gx_aload_n X 1 rfl dX10_tellsOf_71 ?_
        refine gx_aload_n X 1 rfl dX10_tellsOf_72 ?_
        refine gx_getf X (40) lf_X10_356 (by decide) (cl_40 _ _) (v := .int ((rdI ga8 40 43))) rfl dX10_tellsOf_73 ?_
        refine gx_iconst X (v := (1 : Int32)) dX10_tellsOf_76 (by decide) ?_
        obtain ⟨ra10, ga11, ca12, h⟩ := bdd_eq h
        refine gx_callVi X (40) (c_X10_restsBy ca12) lc_X10_restsBy li_X10_restsBy lm_X10_359 (by decide) (cl_40 _ _) rfl rfl rfl (Nat.le_trans (by decide) hd) rfl (Nat.le_of_ble_eq_true rfl) dX10_tellsOf_77 ?_
        refine gx_isub X dX10_tellsOf_80 ?_
        obtain ⟨rfl, rfl⟩ := ret_eq h
        exact gx_iret X rfl dX10_tellsOf_81
      · replace h := (if_neg q3).symm.trans h
        refine gx_aload_n X 0 rfl dX10_tellsOf_45 ?_
        refine gx_iload_n X 1 rfl dX10_tellsOf_46 ?_
        obtain ⟨ra13, ga14, ca15, h⟩ := bdd_eq h
        refine gx_callSi X (c_X10_above ca15) lc_X10_above li_X10_above lm_X10_347 rfl rfl (Nat.le_trans (by decide) hd) rfl (Nat.le_of_ble_eq_true rfl) dX10_tellsOf_47 ?_
        refine gx_iload_n X 2 rfl dX10_tellsOf_50 ?_
        obtain ⟨ra16, ga17, ca18, h⟩ := bdd_eq h
        refine gx_callVi X (40) (hC0 _ _ _ _ _ _ _ ca18) lc_X10_tellsOf li_X10_tellsOf lm_X10_362 (by decide) (cl_40 _ _) rfl rfl rfl hdn rfl (Nat.le_of_ble_eq_true rfl) dX10_tellsOf_51 ?_
        obtain ⟨rfl, rfl⟩ := ret_eq h
        exact gx_iret X rfl dX10_tellsOf_54
    · replace h := (if_pos q2).symm.trans h
      refine gx_aload_n X 0 rfl dX10_tellsOf_26 ?_
      refine gx_bipush X (v := (81 : Int32)) dX10_tellsOf_27 (by decide) ?_
      obtain ⟨ra19, ga20, ca21, h⟩ := bdd_eq h
      refine gx_callVv X (40) (c_X10_runs ca21) lc_X10_runs li_X10_runs lm_X10_340 (by decide) (cl_40 _ _) rfl rfl rfl (Nat.le_trans (by decide) hd) rfl (Nat.le_of_ble_eq_true rfl) dX10_tellsOf_29 ?_
      refine gx_aload_n X 0 rfl dX10_tellsOf_32 ?_
      refine gx_iconst X (v := (3 : Int32)) dX10_tellsOf_33 (by decide) ?_
      refine gx_iload_n X 2 rfl dX10_tellsOf_34 ?_
      obtain ⟨ra22, ga23, ca24, h⟩ := bdd_eq h
      refine gx_callVi X (40) (hC0 _ _ _ _ _ _ _ ca24) lc_X10_tellsOf li_X10_tellsOf lm_X10_362 (by decide) (cl_40 _ _) rfl rfl rfl hdn rfl (Nat.le_of_ble_eq_true rfl) dX10_tellsOf_35 ?_
      refine gx_iconst X (v := (1 : Int32)) dX10_tellsOf_38 (by decide) ?_
      refine gx_isub X dX10_tellsOf_39 ?_
      obtain ⟨rfl, rfl⟩ := ret_eq h
      exact gx_iret X rfl dX10_tellsOf_40
  · replace h := (if_pos q1).symm.trans h
    refine gx_aload_n X 0 rfl dX10_tellsOf_5 ?_
    refine gx_bipush X (v := (60 : Int32)) dX10_tellsOf_6 (by decide) ?_
    obtain ⟨ra25, ga26, ca27, h⟩ := bdd_eq h
    refine gx_callVv X (40) (c_X10_runs ca27) lc_X10_runs li_X10_runs lm_X10_340 (by decide) (cl_40 _ _) rfl rfl rfl (Nat.le_trans (by decide) hd) rfl (Nat.le_of_ble_eq_true rfl) dX10_tellsOf_8 ?_
    refine gx_aload_n X 0 rfl dX10_tellsOf_11 ?_
    refine gx_iconst X (v := (1 : Int32)) dX10_tellsOf_12 (by decide) ?_
    refine gx_iload_n X 2 rfl dX10_tellsOf_13 ?_
    obtain ⟨ra28, ga29, ca30, h⟩ := bdd_eq h
    refine gx_callVi X (40) (hC0 _ _ _ _ _ _ _ ca30) lc_X10_tellsOf li_X10_tellsOf lm_X10_362 (by decide) (cl_40 _ _) rfl rfl rfl hdn rfl (Nat.le_of_ble_eq_true rfl) dX10_tellsOf_14 ?_
    refine gx_iconst X (v := (5 : Int32)) dX10_tellsOf_17 (by decide) ?_
    refine gx_ixor X dX10_tellsOf_18 ?_
    obtain ⟨rfl, rfl⟩ := ret_eq h
    exact gx_iret X rfl dX10_tellsOf_19
def g4_ : Nat → Nat → Int32 → Int32 → Int32 → Int32 → Mm → Option (Int32 × Mm)
  | 0, _, _, _, _, _, _ => none
  | n + 1, t, b0, b1, b2, b3, g => if t = 0 then m_X10_tellsOf (g4_ n) b0 b1 g else none
set_option maxHeartbeats 2000000 in
theorem g4_all : ∀ n : Nat, (∀ (b0 b1 b2 b3 : Int32) (g : Mm) (rr : Int32) (gg : Mm), g4_ n 0 b0 b1 b2 b3 g = some (rr, gg) → gx_M (35 + n) yX10_tellsOf cX10_tellsOf 4 (some .int) (fun al => [.ref (al (40)), .int (b0), .int (b1)]) g (some (.int rr)) gg) := by
  intro n
  induction n with
  | zero => exact fun b0 b1 b2 b3 g rr gg h => (by cases h)
  | succ n ih =>
    have i0 := ih
    have hd : 35 ≤ 35 + (n + 1) := Nat.le_add_right _ _
    have hdn : (35 + n) + 1 ≤ 35 + (n + 1) := Nat.le_refl _
    exact fun b0 b1 b2 b3 g rr gg h => b_X10_tellsOf hd hdn i0 h
theorem c_X10_tellsOf {b0 b1 b2 b3 : Int32} {g : Mm} {rr : Int32} {gg : Mm} (h : g4_ 12 0 b0 b1 b2 b3 g = some (rr, gg)) : gx_M 47 yX10_tellsOf cX10_tellsOf 4 (some .int) (fun al => [.ref (al (40)), .int (b0), .int (b1)]) g (some (.int rr)) gg := (g4_all 12) _ _ _ _ _ _ _ h
theorem dX10_act_0 : decode cX10_act 0 = .ok (.aload_n 0, 1) := by decide +kernel
theorem dX10_act_1 : decode cX10_act 1 = .ok (.iconst 0, 1) := by decide +kernel
theorem dX10_act_2 : decode cX10_act 2 = .ok (.putfield 337, 3) := by decide +kernel
theorem dX10_act_5 : decode cX10_act 5 = .ok (.iload_n 1, 1) := by decide +kernel
theorem dX10_act_6 : decode cX10_act 6 = .ok (.i2l, 1) := by decide +kernel
theorem dX10_act_7 : decode cX10_act 7 = .ok (.lconst 0, 1) := by decide +kernel
theorem dX10_act_8 : decode cX10_act 8 = .ok (.aload_n 0, 1) := by decide +kernel
theorem dX10_act_9 : decode cX10_act 9 = .ok (.getfield 334, 3) := by decide +kernel
theorem dX10_act_12 : decode cX10_act 12 = .ok (.iconst 1, 1) := by decide +kernel
theorem dX10_act_13 : decode cX10_act 13 = .ok (.isub, 1) := by decide +kernel
theorem dX10_act_14 : decode cX10_act 14 = .ok (.i2l, 1) := by decide +kernel
theorem dX10_act_15 : decode cX10_act 15 = .ok (.invokestatic 92, 3) := by decide +kernel
theorem dX10_act_18 : decode cX10_act 18 = .ok (.ifCond .eq 15, 3) := by decide +kernel
theorem dX10_act_21 : decode cX10_act 21 = .ok (.iload_n 2, 1) := by decide +kernel
theorem dX10_act_22 : decode cX10_act 22 = .ok (.i2l, 1) := by decide +kernel
theorem dX10_act_23 : decode cX10_act 23 = .ok (.lconst 0, 1) := by decide +kernel
theorem dX10_act_24 : decode cX10_act 24 = .ok (.ldc2_w 249, 3) := by decide +kernel
theorem dX10_act_27 : decode cX10_act 27 = .ok (.invokestatic 92, 3) := by decide +kernel
theorem dX10_act_30 : decode cX10_act 30 = .ok (.ifCond .ne 5, 3) := by decide +kernel
theorem dX10_act_33 : decode cX10_act 33 = .ok (.iconst 0, 1) := by decide +kernel
theorem dX10_act_34 : decode cX10_act 34 = .ok (.ireturn, 1) := by decide +kernel
theorem dX10_act_35 : decode cX10_act 35 = .ok (.aload_n 0, 1) := by decide +kernel
theorem dX10_act_36 : decode cX10_act 36 = .ok (.aload_n 0, 1) := by decide +kernel
theorem dX10_act_37 : decode cX10_act 37 = .ok (.getfield 64, 3) := by decide +kernel
theorem dX10_act_40 : decode cX10_act 40 = .ok (.iload_n 1, 1) := by decide +kernel
theorem dX10_act_41 : decode cX10_act 41 = .ok (.iaload, 1) := by decide +kernel
theorem dX10_act_42 : decode cX10_act 42 = .ok (.putfield 356, 3) := by decide +kernel
theorem dX10_act_45 : decode cX10_act 45 = .ok (.aload_n 0, 1) := by decide +kernel
theorem dX10_act_46 : decode cX10_act 46 = .ok (.iload_n 1, 1) := by decide +kernel
theorem dX10_act_47 : decode cX10_act 47 = .ok (.putfield 350, 3) := by decide +kernel
theorem dX10_act_50 : decode cX10_act 50 = .ok (.iload_n 2, 1) := by decide +kernel
theorem dX10_act_51 : decode cX10_act 51 = .ok (.ifCond .ne 15, 3) := by decide +kernel
theorem dX10_act_54 : decode cX10_act 54 = .ok (.aload_n 0, 1) := by decide +kernel
theorem dX10_act_55 : decode cX10_act 55 = .ok (.aload_n 0, 1) := by decide +kernel
theorem dX10_act_56 : decode cX10_act 56 = .ok (.getfield 356, 3) := by decide +kernel
theorem dX10_act_59 : decode cX10_act 59 = .ok (.iload_n 3, 1) := by decide +kernel
theorem dX10_act_60 : decode cX10_act 60 = .ok (.invokevirtual 344, 3) := by decide +kernel
theorem dX10_act_63 : decode cX10_act 63 = .ok (.goto 46, 3) := by decide +kernel
theorem dX10_act_66 : decode cX10_act 66 = .ok (.iload_n 2, 1) := by decide +kernel
theorem dX10_act_67 : decode cX10_act 67 = .ok (.iconst 1, 1) := by decide +kernel
theorem dX10_act_68 : decode cX10_act 68 = .ok (.if_icmp .ne 15, 3) := by decide +kernel
theorem dX10_act_71 : decode cX10_act 71 = .ok (.aload_n 0, 1) := by decide +kernel
theorem dX10_act_72 : decode cX10_act 72 = .ok (.aload_n 0, 1) := by decide +kernel
theorem dX10_act_73 : decode cX10_act 73 = .ok (.getfield 356, 3) := by decide +kernel
theorem dX10_act_76 : decode cX10_act 76 = .ok (.iload_n 3, 1) := by decide +kernel
theorem dX10_act_77 : decode cX10_act 77 = .ok (.invokevirtual 353, 3) := by decide +kernel
theorem dX10_act_80 : decode cX10_act 80 = .ok (.goto 29, 3) := by decide +kernel
theorem dX10_act_83 : decode cX10_act 83 = .ok (.iload_n 2, 1) := by decide +kernel
theorem dX10_act_84 : decode cX10_act 84 = .ok (.iconst 2, 1) := by decide +kernel
theorem dX10_act_85 : decode cX10_act 85 = .ok (.if_icmp .ne 15, 3) := by decide +kernel
theorem dX10_act_88 : decode cX10_act 88 = .ok (.aload_n 0, 1) := by decide +kernel
theorem dX10_act_89 : decode cX10_act 89 = .ok (.aload_n 0, 1) := by decide +kernel
theorem dX10_act_90 : decode cX10_act 90 = .ok (.getfield 356, 3) := by decide +kernel
theorem dX10_act_93 : decode cX10_act 93 = .ok (.iload_n 3, 1) := by decide +kernel
theorem dX10_act_94 : decode cX10_act 94 = .ok (.invokevirtual 359, 3) := by decide +kernel
theorem dX10_act_97 : decode cX10_act 97 = .ok (.goto 12, 3) := by decide +kernel
theorem dX10_act_100 : decode cX10_act 100 = .ok (.aload_n 0, 1) := by decide +kernel
theorem dX10_act_101 : decode cX10_act 101 = .ok (.aload_n 0, 1) := by decide +kernel
theorem dX10_act_102 : decode cX10_act 102 = .ok (.getfield 356, 3) := by decide +kernel
theorem dX10_act_105 : decode cX10_act 105 = .ok (.iload_n 3, 1) := by decide +kernel
theorem dX10_act_106 : decode cX10_act 106 = .ok (.invokevirtual 362, 3) := by decide +kernel
theorem dX10_act_109 : decode cX10_act 109 = .ok (.ireturn, 1) := by decide +kernel
def m_X10_act (a1 : Int32) (a2 : Int32) (a3 : Int32) (g : Mm) : Option (Int32 × Mm) := bdd (m_X10_in (a1.toInt64) (0 : Int64) (((rdI (wrI g 40 42 (0 : Int32)) 40 40) - (1 : Int32)).toInt64) (wrI g 40 42 (0 : Int32))) (fun ra1 ga2 => (if ra1 = (0 : Int32) then some ((0 : Int32), ga2) else bdd (m_X10_in (a2.toInt64) (0 : Int64) (3 : Int64) ga2) (fun ra5 ga6 => (if ra5 = (0 : Int32) then some ((0 : Int32), ga6) else gdd (ixo a1 50) ((if a2 = (0 : Int32) then bdd (g1_ 8 0 (rdI (wrI (wrI ga6 40 43 (rdI ga6 56 a1.toNatClampNeg)) 40 44 a1) 40 43) a3 (0 : Int32) (0 : Int32) (wrI (wrI ga6 40 43 (rdI ga6 56 a1.toNatClampNeg)) 40 44 a1)) (fun ra22 ga23 => some (ra22, ga23)) else (if a2 = (1 : Int32) then bdd (g2_ 12 0 (rdI (wrI (wrI ga6 40 43 (rdI ga6 56 a1.toNatClampNeg)) 40 44 a1) 40 43) a3 (0 : Int32) (0 : Int32) (wrI (wrI ga6 40 43 (rdI ga6 56 a1.toNatClampNeg)) 40 44 a1)) (fun ra19 ga20 => some (ra19, ga20)) else (if a2 = (2 : Int32) then bdd (g3_ 10 0 (rdI (wrI (wrI ga6 40 43 (rdI ga6 56 a1.toNatClampNeg)) 40 44 a1) 40 43) a3 (0 : Int32) (0 : Int32) (wrI (wrI ga6 40 43 (rdI ga6 56 a1.toNatClampNeg)) 40 44 a1)) (fun ra16 ga17 => some (ra16, ga17)) else bdd (g4_ 12 0 (rdI (wrI (wrI ga6 40 43 (rdI ga6 56 a1.toNatClampNeg)) 40 44 a1) 40 43) a3 (0 : Int32) (0 : Int32) (wrI (wrI ga6 40 43 (rdI ga6 56 a1.toNatClampNeg)) 40 44 a1)) (fun ra13 ga14 => some (ra13, ga14))))))))))
set_option maxHeartbeats 2000000 in
theorem c_X10_act {r2 : Int32} {g g2 : Mm} {a1 : Int32} {a2 : Int32} {a3 : Int32} (h : m_X10_act a1 a2 a3 g = some (r2, g2)) : gx_M 48 yX10_act cX10_act 4 (some .int) (fun al => [.ref (al (40)), .int (a1), .int (a2), .int (a3)]) g (some (.int r2)) g2 := by
  have hd : 48 ≤ 48 := Nat.le_refl _
  refine gx_M.of (by decide +kernel) (fun _ => Nat.le_of_ble_eq_true rfl) ?_
  intro p l e R s m args below meth c D al cI cJ A X
  refine gx_eq (pc' := 0) (ls' := [(0, .ref (al (40))), (1, .int (a1)), (2, .int (a2)), (3, .int (a3))]) (st' := []) (g' := g) ⟨rfl, rfl, rfl, rfl⟩ ?_
  unfold m_X10_act at h
  refine gx_aload_n X 0 rfl dX10_act_0 ?_
  refine gx_iconst X (v := (0 : Int32)) dX10_act_1 (by decide) ?_
  refine gx_putf X (40) (0 : Int32) lf_X10_337 lp_X10_42 (by decide) (cl_40 _ _) (Nat.le_of_ble_eq_true rfl) rfl rfl rfl dX10_act_2 ?_
  refine gx_iload_n X 1 rfl dX10_act_5 ?_
  refine gx_i2l X dX10_act_6 ?_
  refine gx_lconst X (v := (0 : Int64)) dX10_act_7 (by decide) ?_
  refine gx_aload_n X 0 rfl dX10_act_8 ?_
  refine gx_getf X (40) lf_X10_334 (by decide) (cl_40 _ _) (v := .int ((rdI (wrI g 40 42 (0 : Int32)) 40 40))) rfl dX10_act_9 ?_
  refine gx_iconst X (v := (1 : Int32)) dX10_act_12 (by decide) ?_
  refine gx_isub X dX10_act_13 ?_
  refine gx_i2l X dX10_act_14 ?_
  obtain ⟨ra1, ga2, ca3, h⟩ := bdd_eq h
  refine gx_callSi X (c_X10_in ca3) lc_X10_in li_X10_in lm_X10_92 rfl rfl (Nat.le_trans (by decide) hd) rfl (Nat.le_of_ble_eq_true rfl) dX10_act_15 ?_
  refine gx_if_eq X 33 dX10_act_18 (by decide) (fun q4 => ?_) (fun q4 => ?_)
  · replace h := (if_pos q4).symm.trans h
    refine gx_iconst X (v := (0 : Int32)) dX10_act_33 (by decide) ?_
    obtain ⟨rfl, rfl⟩ := ret_eq h
    exact gx_iret X rfl dX10_act_34
  · replace h := (if_neg q4).symm.trans h
    refine gx_iload_n X 2 rfl dX10_act_21 ?_
    refine gx_i2l X dX10_act_22 ?_
    refine gx_lconst X (v := (0 : Int64)) dX10_act_23 (by decide) ?_
    refine gx_ldc2 X (v := (3 : Int64)) lk_X10_249 dX10_act_24 ?_
    obtain ⟨ra5, ga6, ca7, h⟩ := bdd_eq h
    refine gx_callSi X (c_X10_in ca7) lc_X10_in li_X10_in lm_X10_92 rfl rfl (Nat.le_trans (by decide) hd) rfl (Nat.le_of_ble_eq_true rfl) dX10_act_27 ?_
    refine gx_if_ne X 35 dX10_act_30 (by decide) (fun q8 => ?_) (fun q8 => ?_)
    · replace h := (if_neg q8).symm.trans h
      refine gx_aload_n X 0 rfl dX10_act_35 ?_
      refine gx_aload_n X 0 rfl dX10_act_36 ?_
      refine gx_getf X (40) lf_X10_64 (by decide) (cl_40 _ _) (v := .ref (al (56))) rfl dX10_act_37 ?_
      refine gx_iload_n X 1 rfl dX10_act_40 ?_
      obtain ⟨q9, h⟩ := gdd_eq h
      refine gx_iald X (56) 50 (by decide) (cl_56 _ _) q9 dX10_act_41 ?_
      refine gx_putf X (40) (rdI ga6 56 a1.toNatClampNeg) lf_X10_356 lp_X10_43 (by decide) (cl_40 _ _) (Nat.le_of_ble_eq_true rfl) rfl rfl rfl dX10_act_42 ?_
      refine gx_aload_n X 0 rfl dX10_act_45 ?_
      refine gx_iload_n X 1 rfl dX10_act_46 ?_
      refine gx_putf X (40) a1 lf_X10_350 lp_X10_44 (by decide) (cl_40 _ _) (Nat.le_of_ble_eq_true rfl) rfl rfl rfl dX10_act_47 ?_
      refine gx_iload_n X 2 rfl dX10_act_50 ?_
      refine gx_if_ne X 66 dX10_act_51 (by decide) (fun q10 => ?_) (fun q10 => ?_)
      · replace h := (if_neg q10).symm.trans h
        refine gx_iload_n X 2 rfl dX10_act_66 ?_
        refine gx_iconst X (v := (1 : Int32)) dX10_act_67 (by decide) ?_
        refine gx_icmp_ne X 83 dX10_act_68 (by decide) (fun q11 => ?_) (fun q11 => ?_)
        · replace h := (if_neg q11).symm.trans h
          refine gx_iload_n X 2 rfl dX10_act_83 ?_
          refine gx_iconst X (v := (2 : Int32)) dX10_act_84 (by decide) ?_
          refine gx_icmp_ne X 100 dX10_act_85 (by decide) (fun q12 => ?_) (fun q12 => ?_)
          · replace h := (if_neg q12).symm.trans h
            refine gx_aload_n X 0 rfl dX10_act_100 ?_
            refine gx_aload_n X 0 rfl dX10_act_101 ?_
            refine gx_getf X (40) lf_X10_356 (by decide) (cl_40 _ _) (v := .int ((rdI (wrI (wrI ga6 40 43 (rdI ga6 56 a1.toNatClampNeg)) 40 44 a1) 40 43))) rfl dX10_act_102 ?_
            refine gx_iload_n X 3 rfl dX10_act_105 ?_
            obtain ⟨ra13, ga14, ca15, h⟩ := bdd_eq h
            refine gx_callVi X (40) (c_X10_tellsOf ca15) lc_X10_tellsOf li_X10_tellsOf lm_X10_362 (by decide) (cl_40 _ _) rfl rfl rfl (Nat.le_trans (by decide) hd) rfl (Nat.le_of_ble_eq_true rfl) dX10_act_106 ?_
            obtain ⟨rfl, rfl⟩ := ret_eq h
            exact gx_iret X rfl dX10_act_109
          · replace h := (if_pos q12).symm.trans h
            refine gx_aload_n X 0 rfl dX10_act_88 ?_
            refine gx_aload_n X 0 rfl dX10_act_89 ?_
            refine gx_getf X (40) lf_X10_356 (by decide) (cl_40 _ _) (v := .int ((rdI (wrI (wrI ga6 40 43 (rdI ga6 56 a1.toNatClampNeg)) 40 44 a1) 40 43))) rfl dX10_act_90 ?_
            refine gx_iload_n X 3 rfl dX10_act_93 ?_
            obtain ⟨ra16, ga17, ca18, h⟩ := bdd_eq h
            refine gx_callVi X (40) (c_X10_restsBy ca18) lc_X10_restsBy li_X10_restsBy lm_X10_359 (by decide) (cl_40 _ _) rfl rfl rfl (Nat.le_trans (by decide) hd) rfl (Nat.le_of_ble_eq_true rfl) dX10_act_94 ?_
            refine gx_goto X 109 dX10_act_97 (by decide) ?_
            obtain ⟨rfl, rfl⟩ := ret_eq h
            exact gx_iret X rfl dX10_act_109
        · replace h := (if_pos q11).symm.trans h
          refine gx_aload_n X 0 rfl dX10_act_71 ?_
          refine gx_aload_n X 0 rfl dX10_act_72 ?_
          refine gx_getf X (40) lf_X10_356 (by decide) (cl_40 _ _) (v := .int ((rdI (wrI (wrI ga6 40 43 (rdI ga6 56 a1.toNatClampNeg)) 40 44 a1) 40 43))) rfl dX10_act_73 ?_
          refine gx_iload_n X 3 rfl dX10_act_76 ?_
          obtain ⟨ra19, ga20, ca21, h⟩ := bdd_eq h
          refine gx_callVi X (40) (c_X10_soundsBy ca21) lc_X10_soundsBy li_X10_soundsBy lm_X10_353 (by decide) (cl_40 _ _) rfl rfl rfl (Nat.le_trans (by decide) hd) rfl (Nat.le_of_ble_eq_true rfl) dX10_act_77 ?_
          refine gx_goto X 109 dX10_act_80 (by decide) ?_
          obtain ⟨rfl, rfl⟩ := ret_eq h
          exact gx_iret X rfl dX10_act_109
      · replace h := (if_pos q10).symm.trans h
        refine gx_aload_n X 0 rfl dX10_act_54 ?_
        refine gx_aload_n X 0 rfl dX10_act_55 ?_
        refine gx_getf X (40) lf_X10_356 (by decide) (cl_40 _ _) (v := .int ((rdI (wrI (wrI ga6 40 43 (rdI ga6 56 a1.toNatClampNeg)) 40 44 a1) 40 43))) rfl dX10_act_56 ?_
        refine gx_iload_n X 3 rfl dX10_act_59 ?_
        obtain ⟨ra22, ga23, ca24, h⟩ := bdd_eq h
        refine gx_callVi X (40) (c_X10_strikesBy ca24) lc_X10_strikesBy li_X10_strikesBy lm_X10_344 (by decide) (cl_40 _ _) rfl rfl rfl (Nat.le_trans (by decide) hd) rfl (Nat.le_of_ble_eq_true rfl) dX10_act_60 ?_
        refine gx_goto X 109 dX10_act_63 (by decide) ?_
        obtain ⟨rfl, rfl⟩ := ret_eq h
        exact gx_iret X rfl dX10_act_109
    · replace h := (if_pos q8).symm.trans h
      refine gx_iconst X (v := (0 : Int32)) dX10_act_33 (by decide) ?_
      obtain ⟨rfl, rfl⟩ := ret_eq h
      exact gx_iret X rfl dX10_act_34
theorem dX10_at_0 : decode cX10_at 0 = .ok (.aload_n 0, 1) := by decide +kernel
theorem dX10_at_1 : decode cX10_at 1 = .ok (.getfield 139, 3) := by decide +kernel
theorem dX10_at_4 : decode cX10_at 4 = .ok (.aload_n 0, 1) := by decide +kernel
theorem dX10_at_5 : decode cX10_at 5 = .ok (.getfield 142, 3) := by decide +kernel
theorem dX10_at_8 : decode cX10_at 8 = .ok (.ifCond .eq 10, 3) := by decide +kernel
theorem dX10_at_11 : decode cX10_at 11 = .ok (.aload_n 0, 1) := by decide +kernel
theorem dX10_at_12 : decode cX10_at 12 = .ok (.getfield 136, 3) := by decide +kernel
theorem dX10_at_15 : decode cX10_at 15 = .ok (.goto 7, 3) := by decide +kernel
theorem dX10_at_18 : decode cX10_at 18 = .ok (.aload_n 0, 1) := by decide +kernel
theorem dX10_at_19 : decode cX10_at 19 = .ok (.getfield 146, 3) := by decide +kernel
theorem dX10_at_22 : decode cX10_at 22 = .ok (.if_icmp .ge 34, 3) := by decide +kernel
theorem dX10_at_25 : decode cX10_at 25 = .ok (.aload_n 0, 1) := by decide +kernel
theorem dX10_at_26 : decode cX10_at 26 = .ok (.getfield 142, 3) := by decide +kernel
theorem dX10_at_29 : decode cX10_at 29 = .ok (.ifCond .eq 15, 3) := by decide +kernel
theorem dX10_at_32 : decode cX10_at 32 = .ok (.aload_n 0, 1) := by decide +kernel
theorem dX10_at_33 : decode cX10_at 33 = .ok (.getfield 43, 3) := by decide +kernel
theorem dX10_at_36 : decode cX10_at 36 = .ok (.aload_n 0, 1) := by decide +kernel
theorem dX10_at_37 : decode cX10_at 37 = .ok (.getfield 139, 3) := by decide +kernel
theorem dX10_at_40 : decode cX10_at 40 = .ok (.iaload, 1) := by decide +kernel
theorem dX10_at_41 : decode cX10_at 41 = .ok (.goto 16, 3) := by decide +kernel
theorem dX10_at_44 : decode cX10_at 44 = .ok (.aload_n 0, 1) := by decide +kernel
theorem dX10_at_45 : decode cX10_at 45 = .ok (.getfield 46, 3) := by decide +kernel
theorem dX10_at_48 : decode cX10_at 48 = .ok (.aload_n 0, 1) := by decide +kernel
theorem dX10_at_49 : decode cX10_at 49 = .ok (.getfield 139, 3) := by decide +kernel
theorem dX10_at_52 : decode cX10_at 52 = .ok (.iaload, 1) := by decide +kernel
theorem dX10_at_53 : decode cX10_at 53 = .ok (.goto 4, 3) := by decide +kernel
theorem dX10_at_56 : decode cX10_at 56 = .ok (.iconst (-1), 1) := by decide +kernel
theorem dX10_at_57 : decode cX10_at 57 = .ok (.ireturn, 1) := by decide +kernel
def m_X10_at_22 (k0 : Int32) (k1 : Int32) (g : Mm) : Option (Int32 × Mm) := (if k0 ≤ k1 then some ((-1 : Int32), g) else (if (rdI g 40 19) = (0 : Int32) then gdd (ixo (rdI g 40 20) 120) (some ((rdI g 50 (rdI g 40 20).toNatClampNeg), g)) else gdd (ixo (rdI g 40 20) 120) (some ((rdI g 49 (rdI g 40 20).toNatClampNeg), g))))
set_option maxHeartbeats 2000000 in
theorem t_X10_at_22 {r2 : Int32} {g2 : Mm} (X : gx_X p R s m args meth c D al cI cJ A RX10 cX10_at 1 (some .int) d 0 0) (hd : 1 ≤ d) : ∀ (k0 : Int32) (k1 : Int32) (g : Mm), m_X10_at_22 k0 k1 g = some (r2, g2) → gx_G p l e R s m args below meth c (gx_Q below args s D al cI cJ A (some (.int r2)) g2) D al cI cJ A 1 0 0 22 [(0, .ref (al (40)))] [.int (k0), .int (k1)] g := by
  intro k0 k1 g h
  unfold m_X10_at_22 at h
  refine gx_icmp_ge X 56 dX10_at_22 (by decide) (fun q1 => ?_) (fun q1 => ?_)
  · replace h := (if_pos q1).symm.trans h
    refine gx_iconst X (v := (-1 : Int32)) dX10_at_56 (by decide) ?_
    obtain ⟨rfl, rfl⟩ := ret_eq h
    exact gx_iret X rfl dX10_at_57
  · replace h := (if_neg q1).symm.trans h
    refine gx_aload_n X 0 rfl dX10_at_25 ?_
    refine gx_getf X (40) lf_X10_142 (by decide) (cl_40 _ _) (v := .int ((rdI g 40 19))) rfl dX10_at_26 ?_
    refine gx_if_eq X 44 dX10_at_29 (by decide) (fun q2 => ?_) (fun q2 => ?_)
    · replace h := (if_pos q2).symm.trans h
      refine gx_aload_n X 0 rfl dX10_at_44 ?_
      refine gx_getf X (40) lf_X10_46 (by decide) (cl_40 _ _) (v := .ref (al (50))) rfl dX10_at_45 ?_
      refine gx_aload_n X 0 rfl dX10_at_48 ?_
      refine gx_getf X (40) lf_X10_139 (by decide) (cl_40 _ _) (v := .int ((rdI g 40 20))) rfl dX10_at_49 ?_
      obtain ⟨q3, h⟩ := gdd_eq h
      refine gx_iald X (50) 120 (by decide) (cl_50 _ _) q3 dX10_at_52 ?_
      refine gx_goto X 57 dX10_at_53 (by decide) ?_
      obtain ⟨rfl, rfl⟩ := ret_eq h
      exact gx_iret X rfl dX10_at_57
    · replace h := (if_neg q2).symm.trans h
      refine gx_aload_n X 0 rfl dX10_at_32 ?_
      refine gx_getf X (40) lf_X10_43 (by decide) (cl_40 _ _) (v := .ref (al (49))) rfl dX10_at_33 ?_
      refine gx_aload_n X 0 rfl dX10_at_36 ?_
      refine gx_getf X (40) lf_X10_139 (by decide) (cl_40 _ _) (v := .int ((rdI g 40 20))) rfl dX10_at_37 ?_
      obtain ⟨q4, h⟩ := gdd_eq h
      refine gx_iald X (49) 120 (by decide) (cl_49 _ _) q4 dX10_at_40 ?_
      refine gx_goto X 57 dX10_at_41 (by decide) ?_
      obtain ⟨rfl, rfl⟩ := ret_eq h
      exact gx_iret X rfl dX10_at_57
def m_X10_at (g : Mm) : Option (Int32 × Mm) := (if (rdI g 40 19) = (0 : Int32) then m_X10_at_22 (rdI g 40 17) (rdI g 40 20) g else m_X10_at_22 (rdI g 40 15) (rdI g 40 20) g)
set_option maxHeartbeats 2000000 in
theorem c_X10_at {r2 : Int32} {g g2 : Mm} (h : m_X10_at g = some (r2, g2)) : gx_M 1 yX10_at cX10_at 1 (some .int) (fun al => [.ref (al (40))]) g (some (.int r2)) g2 := by
  have hd : 1 ≤ 1 := Nat.le_refl _
  refine gx_M.of (by decide +kernel) (fun _ => Nat.le_of_ble_eq_true rfl) ?_
  intro p l e R s m args below meth c D al cI cJ A X
  refine gx_eq (pc' := 0) (ls' := [(0, .ref (al (40)))]) (st' := []) (g' := g) ⟨rfl, rfl, rfl, rfl⟩ ?_
  unfold m_X10_at at h
  refine gx_aload_n X 0 rfl dX10_at_0 ?_
  refine gx_getf X (40) lf_X10_139 (by decide) (cl_40 _ _) (v := .int ((rdI g 40 20))) rfl dX10_at_1 ?_
  refine gx_aload_n X 0 rfl dX10_at_4 ?_
  refine gx_getf X (40) lf_X10_142 (by decide) (cl_40 _ _) (v := .int ((rdI g 40 19))) rfl dX10_at_5 ?_
  refine gx_if_eq X 18 dX10_at_8 (by decide) (fun q1 => ?_) (fun q1 => ?_)
  · replace h := (if_pos q1).symm.trans h
    refine gx_aload_n X 0 rfl dX10_at_18 ?_
    refine gx_getf X (40) lf_X10_146 (by decide) (cl_40 _ _) (v := .int ((rdI g 40 17))) rfl dX10_at_19 ?_
    exact gx_sub [0] rfl (t_X10_at_22 X hd (rdI g 40 17) (rdI g 40 20) g h)
  · replace h := (if_neg q1).symm.trans h
    refine gx_aload_n X 0 rfl dX10_at_11 ?_
    refine gx_getf X (40) lf_X10_136 (by decide) (cl_40 _ _) (v := .int ((rdI g 40 15))) rfl dX10_at_12 ?_
    refine gx_goto X 22 dX10_at_15 (by decide) ?_
    exact gx_sub [0] rfl (t_X10_at_22 X hd (rdI g 40 15) (rdI g 40 20) g h)
theorem dX10_isName_0 : decode cX10_isName 0 = .ok (.iload_n 0, 1) := by decide +kernel
theorem dX10_isName_1 : decode cX10_isName 1 = .ok (.bipush 104, 2) := by decide +kernel
theorem dX10_isName_3 : decode cX10_isName 3 = .ok (.if_icmp .eq 33, 3) := by decide +kernel
theorem dX10_isName_6 : decode cX10_isName 6 = .ok (.iload_n 0, 1) := by decide +kernel
theorem dX10_isName_7 : decode cX10_isName 7 = .ok (.bipush 98, 2) := by decide +kernel
theorem dX10_isName_9 : decode cX10_isName 9 = .ok (.if_icmp .eq 27, 3) := by decide +kernel
theorem dX10_isName_12 : decode cX10_isName 12 = .ok (.iload_n 0, 1) := by decide +kernel
theorem dX10_isName_13 : decode cX10_isName 13 = .ok (.bipush 109, 2) := by decide +kernel
theorem dX10_isName_15 : decode cX10_isName 15 = .ok (.if_icmp .eq 21, 3) := by decide +kernel
theorem dX10_isName_18 : decode cX10_isName 18 = .ok (.iload_n 0, 1) := by decide +kernel
theorem dX10_isName_19 : decode cX10_isName 19 = .ok (.bipush 110, 2) := by decide +kernel
theorem dX10_isName_21 : decode cX10_isName 21 = .ok (.if_icmp .eq 15, 3) := by decide +kernel
theorem dX10_isName_24 : decode cX10_isName 24 = .ok (.iload_n 0, 1) := by decide +kernel
theorem dX10_isName_25 : decode cX10_isName 25 = .ok (.bipush 112, 2) := by decide +kernel
theorem dX10_isName_27 : decode cX10_isName 27 = .ok (.if_icmp .eq 9, 3) := by decide +kernel
theorem dX10_isName_30 : decode cX10_isName 30 = .ok (.iload_n 0, 1) := by decide +kernel
theorem dX10_isName_31 : decode cX10_isName 31 = .ok (.bipush 113, 2) := by decide +kernel
theorem dX10_isName_33 : decode cX10_isName 33 = .ok (.if_icmp .ne 7, 3) := by decide +kernel
theorem dX10_isName_36 : decode cX10_isName 36 = .ok (.iconst 1, 1) := by decide +kernel
theorem dX10_isName_37 : decode cX10_isName 37 = .ok (.goto 4, 3) := by decide +kernel
theorem dX10_isName_40 : decode cX10_isName 40 = .ok (.iconst 0, 1) := by decide +kernel
theorem dX10_isName_41 : decode cX10_isName 41 = .ok (.ireturn, 1) := by decide +kernel
def m_X10_isName (a0 : Int32) (g : Mm) : Option (Int32 × Mm) := (if a0 = (104 : Int32) then some ((1 : Int32), g) else (if a0 = (98 : Int32) then some ((1 : Int32), g) else (if a0 = (109 : Int32) then some ((1 : Int32), g) else (if a0 = (110 : Int32) then some ((1 : Int32), g) else (if a0 = (112 : Int32) then some ((1 : Int32), g) else (if a0 = (113 : Int32) then some ((1 : Int32), g) else some ((0 : Int32), g)))))))
set_option maxHeartbeats 2000000 in
theorem c_X10_isName {r2 : Int32} {g g2 : Mm} {a0 : Int32} (h : m_X10_isName a0 g = some (r2, g2)) : gx_M 1 yX10_isName cX10_isName 1 (some .boolean) (fun al => [.int (a0)]) g (some (.int r2)) g2 := by
  have hd : 1 ≤ 1 := Nat.le_refl _
  refine gx_M.of (by decide +kernel) (fun _ => Nat.le_of_ble_eq_true rfl) ?_
  intro p l e R s m args below meth c D al cI cJ A X
  refine gx_eq (pc' := 0) (ls' := [(0, .int (a0))]) (st' := []) (g' := g) ⟨rfl, rfl, rfl, rfl⟩ ?_
  unfold m_X10_isName at h
  refine gx_iload_n X 0 rfl dX10_isName_0 ?_
  refine gx_bipush X (v := (104 : Int32)) dX10_isName_1 (by decide) ?_
  refine gx_icmp_eq X 36 dX10_isName_3 (by decide) (fun q1 => ?_) (fun q1 => ?_)
  · replace h := (if_pos q1).symm.trans h
    refine gx_iconst X (v := (1 : Int32)) dX10_isName_36 (by decide) ?_
    refine gx_goto X 41 dX10_isName_37 (by decide) ?_
    obtain ⟨rfl, rfl⟩ := ret_eq h
    exact gx_iret X rfl dX10_isName_41
  · replace h := (if_neg q1).symm.trans h
    refine gx_iload_n X 0 rfl dX10_isName_6 ?_
    refine gx_bipush X (v := (98 : Int32)) dX10_isName_7 (by decide) ?_
    refine gx_icmp_eq X 36 dX10_isName_9 (by decide) (fun q2 => ?_) (fun q2 => ?_)
    · replace h := (if_pos q2).symm.trans h
      refine gx_iconst X (v := (1 : Int32)) dX10_isName_36 (by decide) ?_
      refine gx_goto X 41 dX10_isName_37 (by decide) ?_
      obtain ⟨rfl, rfl⟩ := ret_eq h
      exact gx_iret X rfl dX10_isName_41
    · replace h := (if_neg q2).symm.trans h
      refine gx_iload_n X 0 rfl dX10_isName_12 ?_
      refine gx_bipush X (v := (109 : Int32)) dX10_isName_13 (by decide) ?_
      refine gx_icmp_eq X 36 dX10_isName_15 (by decide) (fun q3 => ?_) (fun q3 => ?_)
      · replace h := (if_pos q3).symm.trans h
        refine gx_iconst X (v := (1 : Int32)) dX10_isName_36 (by decide) ?_
        refine gx_goto X 41 dX10_isName_37 (by decide) ?_
        obtain ⟨rfl, rfl⟩ := ret_eq h
        exact gx_iret X rfl dX10_isName_41
      · replace h := (if_neg q3).symm.trans h
        refine gx_iload_n X 0 rfl dX10_isName_18 ?_
        refine gx_bipush X (v := (110 : Int32)) dX10_isName_19 (by decide) ?_
        refine gx_icmp_eq X 36 dX10_isName_21 (by decide) (fun q4 => ?_) (fun q4 => ?_)
        · replace h := (if_pos q4).symm.trans h
          refine gx_iconst X (v := (1 : Int32)) dX10_isName_36 (by decide) ?_
          refine gx_goto X 41 dX10_isName_37 (by decide) ?_
          obtain ⟨rfl, rfl⟩ := ret_eq h
          exact gx_iret X rfl dX10_isName_41
        · replace h := (if_neg q4).symm.trans h
          refine gx_iload_n X 0 rfl dX10_isName_24 ?_
          refine gx_bipush X (v := (112 : Int32)) dX10_isName_25 (by decide) ?_
          refine gx_icmp_eq X 36 dX10_isName_27 (by decide) (fun q5 => ?_) (fun q5 => ?_)
          · replace h := (if_pos q5).symm.trans h
            refine gx_iconst X (v := (1 : Int32)) dX10_isName_36 (by decide) ?_
            refine gx_goto X 41 dX10_isName_37 (by decide) ?_
            obtain ⟨rfl, rfl⟩ := ret_eq h
            exact gx_iret X rfl dX10_isName_41
          · replace h := (if_neg q5).symm.trans h
            refine gx_iload_n X 0 rfl dX10_isName_30 ?_
            refine gx_bipush X (v := (113 : Int32)) dX10_isName_31 (by decide) ?_
            refine gx_icmp_ne X 40 dX10_isName_33 (by decide) (fun q6 => ?_) (fun q6 => ?_)
            · replace h := (if_neg q6).symm.trans h
              refine gx_iconst X (v := (0 : Int32)) dX10_isName_40 (by decide) ?_
              obtain ⟨rfl, rfl⟩ := ret_eq h
              exact gx_iret X rfl dX10_isName_41
            · replace h := (if_pos q6).symm.trans h
              refine gx_iconst X (v := (1 : Int32)) dX10_isName_36 (by decide) ?_
              refine gx_goto X 41 dX10_isName_37 (by decide) ?_
              obtain ⟨rfl, rfl⟩ := ret_eq h
              exact gx_iret X rfl dX10_isName_41
theorem dX10_named_0 : decode cX10_named 0 = .ok (.iload_n 1, 1) := by decide +kernel
theorem dX10_named_1 : decode cX10_named 1 = .ok (.bipush 104, 2) := by decide +kernel
theorem dX10_named_3 : decode cX10_named 3 = .ok (.if_icmp .ne 8, 3) := by decide +kernel
theorem dX10_named_6 : decode cX10_named 6 = .ok (.aload_n 0, 1) := by decide +kernel
theorem dX10_named_7 : decode cX10_named 7 = .ok (.getfield 157, 3) := by decide +kernel
theorem dX10_named_10 : decode cX10_named 10 = .ok (.ireturn, 1) := by decide +kernel
theorem dX10_named_11 : decode cX10_named 11 = .ok (.iload_n 1, 1) := by decide +kernel
theorem dX10_named_12 : decode cX10_named 12 = .ok (.bipush 98, 2) := by decide +kernel
theorem dX10_named_14 : decode cX10_named 14 = .ok (.if_icmp .ne 8, 3) := by decide +kernel
theorem dX10_named_17 : decode cX10_named 17 = .ok (.aload_n 0, 1) := by decide +kernel
theorem dX10_named_18 : decode cX10_named 18 = .ok (.getfield 160, 3) := by decide +kernel
theorem dX10_named_21 : decode cX10_named 21 = .ok (.ireturn, 1) := by decide +kernel
theorem dX10_named_22 : decode cX10_named 22 = .ok (.iload_n 1, 1) := by decide +kernel
theorem dX10_named_23 : decode cX10_named 23 = .ok (.bipush 109, 2) := by decide +kernel
theorem dX10_named_25 : decode cX10_named 25 = .ok (.if_icmp .ne 8, 3) := by decide +kernel
theorem dX10_named_28 : decode cX10_named 28 = .ok (.aload_n 0, 1) := by decide +kernel
theorem dX10_named_29 : decode cX10_named 29 = .ok (.getfield 163, 3) := by decide +kernel
theorem dX10_named_32 : decode cX10_named 32 = .ok (.ireturn, 1) := by decide +kernel
theorem dX10_named_33 : decode cX10_named 33 = .ok (.iload_n 1, 1) := by decide +kernel
theorem dX10_named_34 : decode cX10_named 34 = .ok (.bipush 110, 2) := by decide +kernel
theorem dX10_named_36 : decode cX10_named 36 = .ok (.if_icmp .ne 8, 3) := by decide +kernel
theorem dX10_named_39 : decode cX10_named 39 = .ok (.aload_n 0, 1) := by decide +kernel
theorem dX10_named_40 : decode cX10_named 40 = .ok (.getfield 166, 3) := by decide +kernel
theorem dX10_named_43 : decode cX10_named 43 = .ok (.ireturn, 1) := by decide +kernel
theorem dX10_named_44 : decode cX10_named 44 = .ok (.iload_n 1, 1) := by decide +kernel
theorem dX10_named_45 : decode cX10_named 45 = .ok (.bipush 112, 2) := by decide +kernel
theorem dX10_named_47 : decode cX10_named 47 = .ok (.if_icmp .ne 10, 3) := by decide +kernel
theorem dX10_named_50 : decode cX10_named 50 = .ok (.aload_n 0, 1) := by decide +kernel
theorem dX10_named_51 : decode cX10_named 51 = .ok (.getfield 169, 3) := by decide +kernel
theorem dX10_named_54 : decode cX10_named 54 = .ok (.goto 7, 3) := by decide +kernel
theorem dX10_named_57 : decode cX10_named 57 = .ok (.aload_n 0, 1) := by decide +kernel
theorem dX10_named_58 : decode cX10_named 58 = .ok (.getfield 172, 3) := by decide +kernel
theorem dX10_named_61 : decode cX10_named 61 = .ok (.ireturn, 1) := by decide +kernel
def m_X10_named (a1 : Int32) (g : Mm) : Option (Int32 × Mm) := (if a1 = (104 : Int32) then some ((rdI g 40 23), g) else (if a1 = (98 : Int32) then some ((rdI g 40 24), g) else (if a1 = (109 : Int32) then some ((rdI g 40 25), g) else (if a1 = (110 : Int32) then some ((rdI g 40 26), g) else (if a1 = (112 : Int32) then some ((rdI g 40 27), g) else some ((rdI g 40 28), g))))))
set_option maxHeartbeats 2000000 in
theorem c_X10_named {r2 : Int32} {g g2 : Mm} {a1 : Int32} (h : m_X10_named a1 g = some (r2, g2)) : gx_M 1 yX10_named cX10_named 2 (some .int) (fun al => [.ref (al (40)), .int (a1)]) g (some (.int r2)) g2 := by
  have hd : 1 ≤ 1 := Nat.le_refl _
  refine gx_M.of (by decide +kernel) (fun _ => Nat.le_of_ble_eq_true rfl) ?_
  intro p l e R s m args below meth c D al cI cJ A X
  refine gx_eq (pc' := 0) (ls' := [(0, .ref (al (40))), (1, .int (a1))]) (st' := []) (g' := g) ⟨rfl, rfl, rfl, rfl⟩ ?_
  unfold m_X10_named at h
  refine gx_iload_n X 1 rfl dX10_named_0 ?_
  refine gx_bipush X (v := (104 : Int32)) dX10_named_1 (by decide) ?_
  refine gx_icmp_ne X 11 dX10_named_3 (by decide) (fun q1 => ?_) (fun q1 => ?_)
  · replace h := (if_neg q1).symm.trans h
    refine gx_iload_n X 1 rfl dX10_named_11 ?_
    refine gx_bipush X (v := (98 : Int32)) dX10_named_12 (by decide) ?_
    refine gx_icmp_ne X 22 dX10_named_14 (by decide) (fun q2 => ?_) (fun q2 => ?_)
    · replace h := (if_neg q2).symm.trans h
      refine gx_iload_n X 1 rfl dX10_named_22 ?_
      refine gx_bipush X (v := (109 : Int32)) dX10_named_23 (by decide) ?_
      refine gx_icmp_ne X 33 dX10_named_25 (by decide) (fun q3 => ?_) (fun q3 => ?_)
      · replace h := (if_neg q3).symm.trans h
        refine gx_iload_n X 1 rfl dX10_named_33 ?_
        refine gx_bipush X (v := (110 : Int32)) dX10_named_34 (by decide) ?_
        refine gx_icmp_ne X 44 dX10_named_36 (by decide) (fun q4 => ?_) (fun q4 => ?_)
        · replace h := (if_neg q4).symm.trans h
          refine gx_iload_n X 1 rfl dX10_named_44 ?_
          refine gx_bipush X (v := (112 : Int32)) dX10_named_45 (by decide) ?_
          refine gx_icmp_ne X 57 dX10_named_47 (by decide) (fun q5 => ?_) (fun q5 => ?_)
          · replace h := (if_neg q5).symm.trans h
            refine gx_aload_n X 0 rfl dX10_named_57 ?_
            refine gx_getf X (40) lf_X10_172 (by decide) (cl_40 _ _) (v := .int ((rdI g 40 28))) rfl dX10_named_58 ?_
            obtain ⟨rfl, rfl⟩ := ret_eq h
            exact gx_iret X rfl dX10_named_61
          · replace h := (if_pos q5).symm.trans h
            refine gx_aload_n X 0 rfl dX10_named_50 ?_
            refine gx_getf X (40) lf_X10_169 (by decide) (cl_40 _ _) (v := .int ((rdI g 40 27))) rfl dX10_named_51 ?_
            refine gx_goto X 61 dX10_named_54 (by decide) ?_
            obtain ⟨rfl, rfl⟩ := ret_eq h
            exact gx_iret X rfl dX10_named_61
        · replace h := (if_pos q4).symm.trans h
          refine gx_aload_n X 0 rfl dX10_named_39 ?_
          refine gx_getf X (40) lf_X10_166 (by decide) (cl_40 _ _) (v := .int ((rdI g 40 26))) rfl dX10_named_40 ?_
          obtain ⟨rfl, rfl⟩ := ret_eq h
          exact gx_iret X rfl dX10_named_43
      · replace h := (if_pos q3).symm.trans h
        refine gx_aload_n X 0 rfl dX10_named_28 ?_
        refine gx_getf X (40) lf_X10_163 (by decide) (cl_40 _ _) (v := .int ((rdI g 40 25))) rfl dX10_named_29 ?_
        obtain ⟨rfl, rfl⟩ := ret_eq h
        exact gx_iret X rfl dX10_named_32
    · replace h := (if_pos q2).symm.trans h
      refine gx_aload_n X 0 rfl dX10_named_17 ?_
      refine gx_getf X (40) lf_X10_160 (by decide) (cl_40 _ _) (v := .int ((rdI g 40 24))) rfl dX10_named_18 ?_
      obtain ⟨rfl, rfl⟩ := ret_eq h
      exact gx_iret X rfl dX10_named_21
  · replace h := (if_pos q1).symm.trans h
    refine gx_aload_n X 0 rfl dX10_named_6 ?_
    refine gx_getf X (40) lf_X10_157 (by decide) (cl_40 _ _) (v := .int ((rdI g 40 23))) rfl dX10_named_7 ?_
    obtain ⟨rfl, rfl⟩ := ret_eq h
    exact gx_iret X rfl dX10_named_10
theorem dX10_number_0 : decode cX10_number 0 = .ok (.iconst 0, 1) := by decide +kernel
theorem dX10_number_1 : decode cX10_number 1 = .ok (.istore_n 1, 1) := by decide +kernel
theorem dX10_number_2 : decode cX10_number 2 = .ok (.iconst 0, 1) := by decide +kernel
theorem dX10_number_3 : decode cX10_number 3 = .ok (.istore_n 2, 1) := by decide +kernel
theorem dX10_number_4 : decode cX10_number 4 = .ok (.iload_n 2, 1) := by decide +kernel
theorem dX10_number_5 : decode cX10_number 5 = .ok (.iconst 4, 1) := by decide +kernel
theorem dX10_number_6 : decode cX10_number 6 = .ok (.if_icmp .ge 49, 3) := by decide +kernel
theorem dX10_number_9 : decode cX10_number 9 = .ok (.aload_n 0, 1) := by decide +kernel
theorem dX10_number_10 : decode cX10_number 10 = .ok (.invokevirtual 149, 3) := by decide +kernel
theorem dX10_number_13 : decode cX10_number 13 = .ok (.i2l, 1) := by decide +kernel
theorem dX10_number_14 : decode cX10_number 14 = .ok (.ldc2_w 153, 3) := by decide +kernel
theorem dX10_number_17 : decode cX10_number 17 = .ok (.ldc2_w 155, 3) := by decide +kernel
theorem dX10_number_20 : decode cX10_number 20 = .ok (.invokestatic 92, 3) := by decide +kernel
theorem dX10_number_23 : decode cX10_number 23 = .ok (.ifCond .eq 32, 3) := by decide +kernel
theorem dX10_number_26 : decode cX10_number 26 = .ok (.bipush 10, 2) := by decide +kernel
theorem dX10_number_28 : decode cX10_number 28 = .ok (.iload_n 1, 1) := by decide +kernel
theorem dX10_number_29 : decode cX10_number 29 = .ok (.imul, 1) := by decide +kernel
theorem dX10_number_30 : decode cX10_number 30 = .ok (.aload_n 0, 1) := by decide +kernel
theorem dX10_number_31 : decode cX10_number 31 = .ok (.invokevirtual 149, 3) := by decide +kernel
theorem dX10_number_34 : decode cX10_number 34 = .ok (.iadd, 1) := by decide +kernel
theorem dX10_number_35 : decode cX10_number 35 = .ok (.bipush 48, 2) := by decide +kernel
theorem dX10_number_37 : decode cX10_number 37 = .ok (.isub, 1) := by decide +kernel
theorem dX10_number_38 : decode cX10_number 38 = .ok (.istore_n 1, 1) := by decide +kernel
theorem dX10_number_39 : decode cX10_number 39 = .ok (.aload_n 0, 1) := by decide +kernel
theorem dX10_number_40 : decode cX10_number 40 = .ok (.dup, 1) := by decide +kernel
theorem dX10_number_41 : decode cX10_number 41 = .ok (.getfield 139, 3) := by decide +kernel
theorem dX10_number_44 : decode cX10_number 44 = .ok (.iconst 1, 1) := by decide +kernel
theorem dX10_number_45 : decode cX10_number 45 = .ok (.iadd, 1) := by decide +kernel
theorem dX10_number_46 : decode cX10_number 46 = .ok (.putfield 139, 3) := by decide +kernel
theorem dX10_number_49 : decode cX10_number 49 = .ok (.iinc 2 1, 3) := by decide +kernel
theorem dX10_number_52 : decode cX10_number 52 = .ok (.goto (-48), 3) := by decide +kernel
theorem dX10_number_55 : decode cX10_number 55 = .ok (.iload_n 1, 1) := by decide +kernel
theorem dX10_number_56 : decode cX10_number 56 = .ok (.ireturn, 1) := by decide +kernel
def m_X10_number_4 : Nat → Int32 → Int32 → Mm → Option (Int32 × Mm)
  | 0, _, _, _ => none
  | n + 1, x1, x2, g => (if (4 : Int32) ≤ x2 then some (x1, g) else bdd (m_X10_at  g) (fun ra2 ga3 => bdd (m_X10_in (ra2.toInt64) (48 : Int64) (57 : Int64) ga3) (fun ra5 ga6 => (if ra5 = (0 : Int32) then some (x1, ga6) else bdd (m_X10_at  ga6) (fun ra9 ga10 => lti ((((10 : Int32) * x1) + ra9) - (48 : Int32)) (fun v12 => m_X10_number_4 n v12 (x2 + (1 : Int32)) (wrI ga10 40 20 ((rdI ga10 40 20) + (1 : Int32)))))))))
set_option maxHeartbeats 2000000 in
theorem t_X10_number_4 {r2 : Int32} {g2 : Mm} (X : gx_X p R s m args meth c D al cI cJ A RX10 cX10_number 3 (some .int) d 0 0) (hd : 2 ≤ d) : ∀ (n : Nat) (x1 : Int32) (x2 : Int32) (g : Mm), m_X10_number_4 n x1 x2 g = some (r2, g2) → gx_G p l e R s m args below meth c (gx_Q below args s D al cI cJ A (some (.int r2)) g2) D al cI cJ A 3 0 0 4 [(0, .ref (al (40))), (1, .int (x1)), (2, .int (x2))] [] g := by
  intro n
  induction n with
  | zero => intro x1 x2 g h; cases h
  | succ n ih =>
    intro x1 x2 g h
    rw [m_X10_number_4] at h
    refine gx_iload_n X 2 rfl dX10_number_4 ?_
    refine gx_iconst X (v := (4 : Int32)) dX10_number_5 (by decide) ?_
    refine gx_icmp_ge X 55 dX10_number_6 (by decide) (fun q1 => ?_) (fun q1 => ?_)
    · replace h := (if_pos q1).symm.trans h
      refine gx_iload_n X 1 rfl dX10_number_55 ?_
      obtain ⟨rfl, rfl⟩ := ret_eq h
      exact gx_iret X rfl dX10_number_56
    · replace h := (if_neg q1).symm.trans h
      refine gx_aload_n X 0 rfl dX10_number_9 ?_
      obtain ⟨ra2, ga3, ca4, h⟩ := bdd_eq h
      refine gx_callVi X (40) (c_X10_at ca4) lc_X10_at li_X10_at lm_X10_149 (by decide) (cl_40 _ _) rfl rfl rfl (Nat.le_trans (by decide) hd) rfl (Nat.le_of_ble_eq_true rfl) dX10_number_10 ?_
      refine gx_i2l X dX10_number_13 ?_
      refine gx_ldc2 X (v := (48 : Int64)) lk_X10_153 dX10_number_14 ?_
      refine gx_ldc2 X (v := (57 : Int64)) lk_X10_155 dX10_number_17 ?_
      obtain ⟨ra5, ga6, ca7, h⟩ := bdd_eq h
      refine gx_callSi X (c_X10_in ca7) lc_X10_in li_X10_in lm_X10_92 rfl rfl (Nat.le_trans (by decide) hd) rfl (Nat.le_of_ble_eq_true rfl) dX10_number_20 ?_
      refine gx_if_eq X 55 dX10_number_23 (by decide) (fun q8 => ?_) (fun q8 => ?_)
      · replace h := (if_pos q8).symm.trans h
        refine gx_iload_n X 1 rfl dX10_number_55 ?_
        obtain ⟨rfl, rfl⟩ := ret_eq h
        exact gx_iret X rfl dX10_number_56
      · replace h := (if_neg q8).symm.trans h
        refine gx_bipush X (v := (10 : Int32)) dX10_number_26 (by decide) ?_
        refine gx_iload_n X 1 rfl dX10_number_28 ?_
        refine gx_imul X dX10_number_29 ?_
        refine gx_aload_n X 0 rfl dX10_number_30 ?_
        obtain ⟨ra9, ga10, ca11, h⟩ := bdd_eq h
        refine gx_callVi X (40) (c_X10_at ca11) lc_X10_at li_X10_at lm_X10_149 (by decide) (cl_40 _ _) rfl rfl rfl (Nat.le_trans (by decide) hd) rfl (Nat.le_of_ble_eq_true rfl) dX10_number_31 ?_
        refine gx_iadd X dX10_number_34 ?_
        refine gx_bipush X (v := (48 : Int32)) dX10_number_35 (by decide) ?_
        refine gx_isub X dX10_number_37 ?_
        obtain ⟨v12, ev12, h⟩ := lti_eq h
        refine gx_topi ev12 ?_
        refine gx_istore_n X [(1, .int (v12)), (0, .ref (al (40))), (2, .int (x2))] dX10_number_38 (by decide) rfl ?_
        refine gx_aload_n X 1 rfl dX10_number_39 ?_
        refine gx_dup X dX10_number_40 rfl ?_
        refine gx_getf X (40) lf_X10_139 (by decide) (cl_40 _ _) (v := .int ((rdI ga10 40 20))) rfl dX10_number_41 ?_
        refine gx_iconst X (v := (1 : Int32)) dX10_number_44 (by decide) ?_
        refine gx_iadd X dX10_number_45 ?_
        refine gx_putf X (40) ((rdI ga10 40 20) + (1 : Int32)) lf_X10_139 lp_X10_20 (by decide) (cl_40 _ _) (Nat.le_of_ble_eq_true rfl) rfl rfl rfl dX10_number_46 ?_
        refine gx_iinc X [(2, .int ((x2 + (1 : Int32)))), (1, .int (v12)), (0, .ref (al (40)))] 2 dX10_number_49 rfl rfl (by decide) rfl ?_
        refine gx_goto X 4 dX10_number_52 (by decide) ?_
        exact gx_sub [2, 1, 0] rfl (ih v12 (x2 + (1 : Int32)) (wrI ga10 40 20 ((rdI ga10 40 20) + (1 : Int32))) h)
def m_X10_number (g : Mm) : Option (Int32 × Mm) := m_X10_number_4 fuL (0 : Int32) (0 : Int32) g
set_option maxHeartbeats 2000000 in
theorem c_X10_number {r2 : Int32} {g g2 : Mm} (h : m_X10_number g = some (r2, g2)) : gx_M 2 yX10_number cX10_number 3 (some .int) (fun al => [.ref (al (40))]) g (some (.int r2)) g2 := by
  have hd : 2 ≤ 2 := Nat.le_refl _
  refine gx_M.of (by decide +kernel) (fun _ => Nat.le_of_ble_eq_true rfl) ?_
  intro p l e R s m args below meth c D al cI cJ A X
  refine gx_eq (pc' := 0) (ls' := [(0, .ref (al (40)))]) (st' := []) (g' := g) ⟨rfl, rfl, rfl, rfl⟩ ?_
  unfold m_X10_number at h
  refine gx_iconst X (v := (0 : Int32)) dX10_number_0 (by decide) ?_
  refine gx_istore_n X [(1, .int ((0 : Int32))), (0, .ref (al (40)))] dX10_number_1 (by decide) rfl ?_
  refine gx_iconst X (v := (0 : Int32)) dX10_number_2 (by decide) ?_
  refine gx_istore_n X [(2, .int ((0 : Int32))), (1, .int ((0 : Int32))), (0, .ref (al (40)))] dX10_number_3 (by decide) rfl ?_
  exact gx_sub [2, 1, 0] rfl (t_X10_number_4 X hd fuL (0 : Int32) (0 : Int32) g h)
theorem dX10_atom_0 : decode cX10_atom 0 = .ok (.aload_n 0, 1) := by decide +kernel
theorem dX10_atom_1 : decode cX10_atom 1 = .ok (.getfield 175, 3) := by decide +kernel
theorem dX10_atom_4 : decode cX10_atom 4 = .ok (.ifCond .eq 5, 3) := by decide +kernel
theorem dX10_atom_7 : decode cX10_atom 7 = .ok (.iconst 0, 1) := by decide +kernel
theorem dX10_atom_8 : decode cX10_atom 8 = .ok (.ireturn, 1) := by decide +kernel
theorem dX10_atom_9 : decode cX10_atom 9 = .ok (.aload_n 0, 1) := by decide +kernel
theorem dX10_atom_10 : decode cX10_atom 10 = .ok (.invokevirtual 149, 3) := by decide +kernel
theorem dX10_atom_13 : decode cX10_atom 13 = .ok (.istore_n 1, 1) := by decide +kernel
theorem dX10_atom_14 : decode cX10_atom 14 = .ok (.iload_n 1, 1) := by decide +kernel
theorem dX10_atom_15 : decode cX10_atom 15 = .ok (.bipush 33, 2) := by decide +kernel
theorem dX10_atom_17 : decode cX10_atom 17 = .ok (.if_icmp .eq 15, 3) := by decide +kernel
theorem dX10_atom_20 : decode cX10_atom 20 = .ok (.iload_n 1, 1) := by decide +kernel
theorem dX10_atom_21 : decode cX10_atom 21 = .ok (.bipush 45, 2) := by decide +kernel
theorem dX10_atom_23 : decode cX10_atom 23 = .ok (.if_icmp .eq 9, 3) := by decide +kernel
theorem dX10_atom_26 : decode cX10_atom 26 = .ok (.iload_n 1, 1) := by decide +kernel
theorem dX10_atom_27 : decode cX10_atom 27 = .ok (.bipush 40, 2) := by decide +kernel
theorem dX10_atom_29 : decode cX10_atom 29 = .ok (.if_icmp .ne 150, 3) := by decide +kernel
theorem dX10_atom_32 : decode cX10_atom 32 = .ok (.aload_n 0, 1) := by decide +kernel
theorem dX10_atom_33 : decode cX10_atom 33 = .ok (.getfield 178, 3) := by decide +kernel
theorem dX10_atom_36 : decode cX10_atom 36 = .ok (.bipush 6, 2) := by decide +kernel
theorem dX10_atom_38 : decode cX10_atom 38 = .ok (.if_icmp .ne 10, 3) := by decide +kernel
theorem dX10_atom_41 : decode cX10_atom 41 = .ok (.aload_n 0, 1) := by decide +kernel
theorem dX10_atom_42 : decode cX10_atom 42 = .ok (.iconst 1, 1) := by decide +kernel
theorem dX10_atom_43 : decode cX10_atom 43 = .ok (.putfield 175, 3) := by decide +kernel
theorem dX10_atom_46 : decode cX10_atom 46 = .ok (.iconst 0, 1) := by decide +kernel
theorem dX10_atom_47 : decode cX10_atom 47 = .ok (.ireturn, 1) := by decide +kernel
theorem dX10_atom_48 : decode cX10_atom 48 = .ok (.aload_n 0, 1) := by decide +kernel
theorem dX10_atom_49 : decode cX10_atom 49 = .ok (.dup, 1) := by decide +kernel
theorem dX10_atom_50 : decode cX10_atom 50 = .ok (.getfield 178, 3) := by decide +kernel
theorem dX10_atom_53 : decode cX10_atom 53 = .ok (.iconst 1, 1) := by decide +kernel
theorem dX10_atom_54 : decode cX10_atom 54 = .ok (.iadd, 1) := by decide +kernel
theorem dX10_atom_55 : decode cX10_atom 55 = .ok (.putfield 178, 3) := by decide +kernel
theorem dX10_atom_58 : decode cX10_atom 58 = .ok (.aload_n 0, 1) := by decide +kernel
theorem dX10_atom_59 : decode cX10_atom 59 = .ok (.dup, 1) := by decide +kernel
theorem dX10_atom_60 : decode cX10_atom 60 = .ok (.getfield 139, 3) := by decide +kernel
theorem dX10_atom_63 : decode cX10_atom 63 = .ok (.iconst 1, 1) := by decide +kernel
theorem dX10_atom_64 : decode cX10_atom 64 = .ok (.iadd, 1) := by decide +kernel
theorem dX10_atom_65 : decode cX10_atom 65 = .ok (.putfield 139, 3) := by decide +kernel
theorem dX10_atom_68 : decode cX10_atom 68 = .ok (.iload_n 1, 1) := by decide +kernel
theorem dX10_atom_69 : decode cX10_atom 69 = .ok (.bipush 40, 2) := by decide +kernel
theorem dX10_atom_71 : decode cX10_atom 71 = .ok (.if_icmp .ne 10, 3) := by decide +kernel
theorem dX10_atom_74 : decode cX10_atom 74 = .ok (.aload_n 0, 1) := by decide +kernel
theorem dX10_atom_75 : decode cX10_atom 75 = .ok (.invokevirtual 181, 3) := by decide +kernel
theorem dX10_atom_78 : decode cX10_atom 78 = .ok (.goto 7, 3) := by decide +kernel
theorem dX10_atom_81 : decode cX10_atom 81 = .ok (.aload_n 0, 1) := by decide +kernel
theorem dX10_atom_82 : decode cX10_atom 82 = .ok (.invokevirtual 184, 3) := by decide +kernel
theorem dX10_atom_85 : decode cX10_atom 85 = .ok (.istore_n 2, 1) := by decide +kernel
theorem dX10_atom_86 : decode cX10_atom 86 = .ok (.iload_n 1, 1) := by decide +kernel
theorem dX10_atom_87 : decode cX10_atom 87 = .ok (.bipush 40, 2) := by decide +kernel
theorem dX10_atom_89 : decode cX10_atom 89 = .ok (.if_icmp .ne 49, 3) := by decide +kernel
theorem dX10_atom_92 : decode cX10_atom 92 = .ok (.aload_n 0, 1) := by decide +kernel
theorem dX10_atom_93 : decode cX10_atom 93 = .ok (.getfield 175, 3) := by decide +kernel
theorem dX10_atom_96 : decode cX10_atom 96 = .ok (.ifCond .ne 42, 3) := by decide +kernel
theorem dX10_atom_99 : decode cX10_atom 99 = .ok (.aload_n 0, 1) := by decide +kernel
theorem dX10_atom_100 : decode cX10_atom 100 = .ok (.aload_n 0, 1) := by decide +kernel
theorem dX10_atom_101 : decode cX10_atom 101 = .ok (.invokevirtual 149, 3) := by decide +kernel
theorem dX10_atom_104 : decode cX10_atom 104 = .ok (.bipush 41, 2) := by decide +kernel
theorem dX10_atom_106 : decode cX10_atom 106 = .ok (.if_icmp .eq 7, 3) := by decide +kernel
theorem dX10_atom_109 : decode cX10_atom 109 = .ok (.iconst 1, 1) := by decide +kernel
theorem dX10_atom_110 : decode cX10_atom 110 = .ok (.goto 4, 3) := by decide +kernel
theorem dX10_atom_113 : decode cX10_atom 113 = .ok (.iconst 0, 1) := by decide +kernel
theorem dX10_atom_114 : decode cX10_atom 114 = .ok (.putfield 175, 3) := by decide +kernel
theorem dX10_atom_117 : decode cX10_atom 117 = .ok (.aload_n 0, 1) := by decide +kernel
theorem dX10_atom_118 : decode cX10_atom 118 = .ok (.dup, 1) := by decide +kernel
theorem dX10_atom_119 : decode cX10_atom 119 = .ok (.getfield 139, 3) := by decide +kernel
theorem dX10_atom_122 : decode cX10_atom 122 = .ok (.aload_n 0, 1) := by decide +kernel
theorem dX10_atom_123 : decode cX10_atom 123 = .ok (.getfield 175, 3) := by decide +kernel
theorem dX10_atom_126 : decode cX10_atom 126 = .ok (.ifCond .eq 7, 3) := by decide +kernel
theorem dX10_atom_129 : decode cX10_atom 129 = .ok (.iconst 0, 1) := by decide +kernel
theorem dX10_atom_130 : decode cX10_atom 130 = .ok (.goto 4, 3) := by decide +kernel
theorem dX10_atom_133 : decode cX10_atom 133 = .ok (.iconst 1, 1) := by decide +kernel
theorem dX10_atom_134 : decode cX10_atom 134 = .ok (.iadd, 1) := by decide +kernel
theorem dX10_atom_135 : decode cX10_atom 135 = .ok (.putfield 139, 3) := by decide +kernel
theorem dX10_atom_138 : decode cX10_atom 138 = .ok (.aload_n 0, 1) := by decide +kernel
theorem dX10_atom_139 : decode cX10_atom 139 = .ok (.dup, 1) := by decide +kernel
theorem dX10_atom_140 : decode cX10_atom 140 = .ok (.getfield 178, 3) := by decide +kernel
theorem dX10_atom_143 : decode cX10_atom 143 = .ok (.iconst 1, 1) := by decide +kernel
theorem dX10_atom_144 : decode cX10_atom 144 = .ok (.isub, 1) := by decide +kernel
theorem dX10_atom_145 : decode cX10_atom 145 = .ok (.putfield 178, 3) := by decide +kernel
theorem dX10_atom_148 : decode cX10_atom 148 = .ok (.iload_n 1, 1) := by decide +kernel
theorem dX10_atom_149 : decode cX10_atom 149 = .ok (.bipush 40, 2) := by decide +kernel
theorem dX10_atom_151 : decode cX10_atom 151 = .ok (.if_icmp .ne 7, 3) := by decide +kernel
theorem dX10_atom_154 : decode cX10_atom 154 = .ok (.iload_n 2, 1) := by decide +kernel
theorem dX10_atom_155 : decode cX10_atom 155 = .ok (.goto 23, 3) := by decide +kernel
theorem dX10_atom_158 : decode cX10_atom 158 = .ok (.iload_n 1, 1) := by decide +kernel
theorem dX10_atom_159 : decode cX10_atom 159 = .ok (.bipush 45, 2) := by decide +kernel
theorem dX10_atom_161 : decode cX10_atom 161 = .ok (.if_icmp .ne 8, 3) := by decide +kernel
theorem dX10_atom_164 : decode cX10_atom 164 = .ok (.iload_n 2, 1) := by decide +kernel
theorem dX10_atom_165 : decode cX10_atom 165 = .ok (.ineg, 1) := by decide +kernel
theorem dX10_atom_166 : decode cX10_atom 166 = .ok (.goto 12, 3) := by decide +kernel
theorem dX10_atom_169 : decode cX10_atom 169 = .ok (.iload_n 2, 1) := by decide +kernel
theorem dX10_atom_170 : decode cX10_atom 170 = .ok (.ifCond .ne 7, 3) := by decide +kernel
theorem dX10_atom_173 : decode cX10_atom 173 = .ok (.iconst 1, 1) := by decide +kernel
theorem dX10_atom_174 : decode cX10_atom 174 = .ok (.goto 4, 3) := by decide +kernel
theorem dX10_atom_177 : decode cX10_atom 177 = .ok (.iconst 0, 1) := by decide +kernel
theorem dX10_atom_178 : decode cX10_atom 178 = .ok (.ireturn, 1) := by decide +kernel
theorem dX10_atom_179 : decode cX10_atom 179 = .ok (.iload_n 1, 1) := by decide +kernel
theorem dX10_atom_180 : decode cX10_atom 180 = .ok (.i2l, 1) := by decide +kernel
theorem dX10_atom_181 : decode cX10_atom 181 = .ok (.ldc2_w 153, 3) := by decide +kernel
theorem dX10_atom_184 : decode cX10_atom 184 = .ok (.ldc2_w 155, 3) := by decide +kernel
theorem dX10_atom_187 : decode cX10_atom 187 = .ok (.invokestatic 92, 3) := by decide +kernel
theorem dX10_atom_190 : decode cX10_atom 190 = .ok (.ifCond .eq 8, 3) := by decide +kernel
theorem dX10_atom_193 : decode cX10_atom 193 = .ok (.aload_n 0, 1) := by decide +kernel
theorem dX10_atom_194 : decode cX10_atom 194 = .ok (.invokevirtual 187, 3) := by decide +kernel
theorem dX10_atom_197 : decode cX10_atom 197 = .ok (.ireturn, 1) := by decide +kernel
theorem dX10_atom_198 : decode cX10_atom 198 = .ok (.iload_n 1, 1) := by decide +kernel
theorem dX10_atom_199 : decode cX10_atom 199 = .ok (.invokestatic 190, 3) := by decide +kernel
theorem dX10_atom_202 : decode cX10_atom 202 = .ok (.ifCond .ne 10, 3) := by decide +kernel
theorem dX10_atom_205 : decode cX10_atom 205 = .ok (.aload_n 0, 1) := by decide +kernel
theorem dX10_atom_206 : decode cX10_atom 206 = .ok (.iconst 1, 1) := by decide +kernel
theorem dX10_atom_207 : decode cX10_atom 207 = .ok (.putfield 175, 3) := by decide +kernel
theorem dX10_atom_210 : decode cX10_atom 210 = .ok (.iconst 0, 1) := by decide +kernel
theorem dX10_atom_211 : decode cX10_atom 211 = .ok (.ireturn, 1) := by decide +kernel
theorem dX10_atom_212 : decode cX10_atom 212 = .ok (.aload_n 0, 1) := by decide +kernel
theorem dX10_atom_213 : decode cX10_atom 213 = .ok (.dup, 1) := by decide +kernel
theorem dX10_atom_214 : decode cX10_atom 214 = .ok (.getfield 139, 3) := by decide +kernel
theorem dX10_atom_217 : decode cX10_atom 217 = .ok (.iconst 1, 1) := by decide +kernel
theorem dX10_atom_218 : decode cX10_atom 218 = .ok (.iadd, 1) := by decide +kernel
theorem dX10_atom_219 : decode cX10_atom 219 = .ok (.putfield 139, 3) := by decide +kernel
theorem dX10_atom_222 : decode cX10_atom 222 = .ok (.aload_n 0, 1) := by decide +kernel
theorem dX10_atom_223 : decode cX10_atom 223 = .ok (.iload_n 1, 1) := by decide +kernel
theorem dX10_atom_224 : decode cX10_atom 224 = .ok (.invokevirtual 193, 3) := by decide +kernel
theorem dX10_atom_227 : decode cX10_atom 227 = .ok (.ireturn, 1) := by decide +kernel
def m_X10_atom_138 (C : Nat → Int32 → Int32 → Int32 → Int32 → Mm → Option (Int32 × Mm)) (x1 : Int32) (x2 : Int32) (g : Mm) : Option (Int32 × Mm) := (if x1 = (40 : Int32) then some (x2, (wrI g 40 22 ((rdI g 40 22) - (1 : Int32)))) else (if x1 = (45 : Int32) then some ((-x2), (wrI g 40 22 ((rdI g 40 22) - (1 : Int32)))) else (if x2 = (0 : Int32) then some ((1 : Int32), (wrI g 40 22 ((rdI g 40 22) - (1 : Int32)))) else some ((0 : Int32), (wrI g 40 22 ((rdI g 40 22) - (1 : Int32)))))))
set_option maxHeartbeats 2000000 in
theorem t_X10_atom_138 {r2 : Int32} {g2 : Mm} (X : gx_X p R s m args meth c D al cI cJ A RX10 cX10_atom 3 (some .int) d 0 0) (hd : 3 ≤ d) {dn : Nat} {C : Nat → Int32 → Int32 → Int32 → Int32 → Mm → Option (Int32 × Mm)} (hdn : dn + 1 ≤ d) (hC0 : ∀ (b0 b1 b2 b3 : Int32) (g : Mm) (rr : Int32) (gg : Mm), C 0 b0 b1 b2 b3 g = some (rr, gg) → gx_M dn yX10_atom cX10_atom 3 (some .int) (fun al => [.ref (al (40))]) g (some (.int rr)) gg) (hC1 : ∀ (b0 b1 b2 b3 : Int32) (g : Mm) (rr : Int32) (gg : Mm), C 1 b0 b1 b2 b3 g = some (rr, gg) → gx_M dn yX10_product cX10_product 4 (some .int) (fun al => [.ref (al (40))]) g (some (.int rr)) gg) (hC2 : ∀ (b0 b1 b2 b3 : Int32) (g : Mm) (rr : Int32) (gg : Mm), C 2 b0 b1 b2 b3 g = some (rr, gg) → gx_M dn yX10_added cX10_added 4 (some .int) (fun al => [.ref (al (40))]) g (some (.int rr)) gg) (hC3 : ∀ (b0 b1 b2 b3 : Int32) (g : Mm) (rr : Int32) (gg : Mm), C 3 b0 b1 b2 b3 g = some (rr, gg) → gx_M dn yX10_compared cX10_compared 4 (some .int) (fun al => [.ref (al (40))]) g (some (.int rr)) gg) (hC4 : ∀ (b0 b1 b2 b3 : Int32) (g : Mm) (rr : Int32) (gg : Mm), C 4 b0 b1 b2 b3 g = some (rr, gg) → gx_M dn yX10_both cX10_both 3 (some .int) (fun al => [.ref (al (40))]) g (some (.int rr)) gg) (hC5 : ∀ (b0 b1 b2 b3 : Int32) (g : Mm) (rr : Int32) (gg : Mm), C 5 b0 b1 b2 b3 g = some (rr, gg) → gx_M dn yX10_either cX10_either 3 (some .int) (fun al => [.ref (al (40))]) g (some (.int rr)) gg) : ∀ (x1 : Int32) (x2 : Int32) (g : Mm), m_X10_atom_138 C x1 x2 g = some (r2, g2) → gx_G p l e R s m args below meth c (gx_Q below args s D al cI cJ A (some (.int r2)) g2) D al cI cJ A 3 0 0 138 [(0, .ref (al (40))), (1, .int (x1)), (2, .int (x2))] [] g := by
  intro x1 x2 g h
  unfold m_X10_atom_138 at h
  refine gx_aload_n X 0 rfl dX10_atom_138 ?_
  refine gx_dup X dX10_atom_139 rfl ?_
  refine gx_getf X (40) lf_X10_178 (by decide) (cl_40 _ _) (v := .int ((rdI g 40 22))) rfl dX10_atom_140 ?_
  refine gx_iconst X (v := (1 : Int32)) dX10_atom_143 (by decide) ?_
  refine gx_isub X dX10_atom_144 ?_
  refine gx_putf X (40) ((rdI g 40 22) - (1 : Int32)) lf_X10_178 lp_X10_22 (by decide) (cl_40 _ _) (Nat.le_of_ble_eq_true rfl) rfl rfl rfl dX10_atom_145 ?_
  refine gx_iload_n X 1 rfl dX10_atom_148 ?_
  refine gx_bipush X (v := (40 : Int32)) dX10_atom_149 (by decide) ?_
  refine gx_icmp_ne X 158 dX10_atom_151 (by decide) (fun q1 => ?_) (fun q1 => ?_)
  · replace h := (if_neg q1).symm.trans h
    refine gx_iload_n X 1 rfl dX10_atom_158 ?_
    refine gx_bipush X (v := (45 : Int32)) dX10_atom_159 (by decide) ?_
    refine gx_icmp_ne X 169 dX10_atom_161 (by decide) (fun q2 => ?_) (fun q2 => ?_)
    · replace h := (if_neg q2).symm.trans h
      refine gx_iload_n X 2 rfl dX10_atom_169 ?_
      refine gx_if_ne X 177 dX10_atom_170 (by decide) (fun q3 => ?_) (fun q3 => ?_)
      · replace h := (if_neg q3).symm.trans h
        refine gx_iconst X (v := (0 : Int32)) dX10_atom_177 (by decide) ?_
        obtain ⟨rfl, rfl⟩ := ret_eq h
        exact gx_iret X rfl dX10_atom_178
      · replace h := (if_pos q3).symm.trans h
        refine gx_iconst X (v := (1 : Int32)) dX10_atom_173 (by decide) ?_
        refine gx_goto X 178 dX10_atom_174 (by decide) ?_
        obtain ⟨rfl, rfl⟩ := ret_eq h
        exact gx_iret X rfl dX10_atom_178
    · replace h := (if_pos q2).symm.trans h
      refine gx_iload_n X 2 rfl dX10_atom_164 ?_
      refine gx_ineg X dX10_atom_165 ?_
      refine gx_goto X 178 dX10_atom_166 (by decide) ?_
      obtain ⟨rfl, rfl⟩ := ret_eq h
      exact gx_iret X rfl dX10_atom_178
  · replace h := (if_pos q1).symm.trans h
    refine gx_iload_n X 2 rfl dX10_atom_154 ?_
    refine gx_goto X 178 dX10_atom_155 (by decide) ?_
    obtain ⟨rfl, rfl⟩ := ret_eq h
    exact gx_iret X rfl dX10_atom_178
def m_X10_atom_114 (C : Nat → Int32 → Int32 → Int32 → Int32 → Mm → Option (Int32 × Mm)) (K138 : Int32 → Int32 → Mm → Option (Int32 × Mm)) (x1 : Int32) (x2 : Int32) (k0 : Int32) (g : Mm) : Option (Int32 × Mm) := gdd (zbI k0) ((if (rdI (wrI g 40 21 k0) 40 21) = (0 : Int32) then K138 x1 x2 (wrI (wrI g 40 21 k0) 40 20 ((rdI (wrI g 40 21 k0) 40 20) + (1 : Int32))) else K138 x1 x2 (wrI (wrI g 40 21 k0) 40 20 ((rdI (wrI g 40 21 k0) 40 20) + (0 : Int32)))))
set_option maxHeartbeats 2000000 in
theorem t_X10_atom_114 {r2 : Int32} {g2 : Mm} (X : gx_X p R s m args meth c D al cI cJ A RX10 cX10_atom 3 (some .int) d 0 0) (hd : 3 ≤ d) {dn : Nat} {C : Nat → Int32 → Int32 → Int32 → Int32 → Mm → Option (Int32 × Mm)} (hdn : dn + 1 ≤ d) (hC0 : ∀ (b0 b1 b2 b3 : Int32) (g : Mm) (rr : Int32) (gg : Mm), C 0 b0 b1 b2 b3 g = some (rr, gg) → gx_M dn yX10_atom cX10_atom 3 (some .int) (fun al => [.ref (al (40))]) g (some (.int rr)) gg) (hC1 : ∀ (b0 b1 b2 b3 : Int32) (g : Mm) (rr : Int32) (gg : Mm), C 1 b0 b1 b2 b3 g = some (rr, gg) → gx_M dn yX10_product cX10_product 4 (some .int) (fun al => [.ref (al (40))]) g (some (.int rr)) gg) (hC2 : ∀ (b0 b1 b2 b3 : Int32) (g : Mm) (rr : Int32) (gg : Mm), C 2 b0 b1 b2 b3 g = some (rr, gg) → gx_M dn yX10_added cX10_added 4 (some .int) (fun al => [.ref (al (40))]) g (some (.int rr)) gg) (hC3 : ∀ (b0 b1 b2 b3 : Int32) (g : Mm) (rr : Int32) (gg : Mm), C 3 b0 b1 b2 b3 g = some (rr, gg) → gx_M dn yX10_compared cX10_compared 4 (some .int) (fun al => [.ref (al (40))]) g (some (.int rr)) gg) (hC4 : ∀ (b0 b1 b2 b3 : Int32) (g : Mm) (rr : Int32) (gg : Mm), C 4 b0 b1 b2 b3 g = some (rr, gg) → gx_M dn yX10_both cX10_both 3 (some .int) (fun al => [.ref (al (40))]) g (some (.int rr)) gg) (hC5 : ∀ (b0 b1 b2 b3 : Int32) (g : Mm) (rr : Int32) (gg : Mm), C 5 b0 b1 b2 b3 g = some (rr, gg) → gx_M dn yX10_either cX10_either 3 (some .int) (fun al => [.ref (al (40))]) g (some (.int rr)) gg) {K138 : Int32 → Int32 → Mm → Option (Int32 × Mm)} (hK138 : ∀ (u0 : Int32) (u1 : Int32) (g : Mm), K138 u0 u1 g = some (r2, g2) → gx_G p l e R s m args below meth c (gx_Q below args s D al cI cJ A (some (.int r2)) g2) D al cI cJ A 3 0 0 138 [(0, .ref (al (40))), (1, .int (u0)), (2, .int (u1))] [] g) : ∀ (x1 : Int32) (x2 : Int32) (k0 : Int32) (g : Mm), m_X10_atom_114 C K138 x1 x2 k0 g = some (r2, g2) → gx_G p l e R s m args below meth c (gx_Q below args s D al cI cJ A (some (.int r2)) g2) D al cI cJ A 3 0 0 114 [(0, .ref (al (40))), (1, .int (x1)), (2, .int (x2))] [.int (k0), .ref (al (40))] g := by
  intro x1 x2 k0 g h
  unfold m_X10_atom_114 at h
  obtain ⟨q1, h⟩ := gdd_eq h
  refine gx_putf X (40) k0 lf_X10_175 lp_X10_21 (by decide) (cl_40 _ _) (Nat.le_of_ble_eq_true rfl) (zbI_n q1) (zbI_f q1) rfl dX10_atom_114 ?_
  refine gx_aload_n X 0 rfl dX10_atom_117 ?_
  refine gx_dup X dX10_atom_118 rfl ?_
  refine gx_getf X (40) lf_X10_139 (by decide) (cl_40 _ _) (v := .int ((rdI (wrI g 40 21 k0) 40 20))) rfl dX10_atom_119 ?_
  refine gx_aload_n X 0 rfl dX10_atom_122 ?_
  refine gx_getf X (40) lf_X10_175 (by decide) (cl_40 _ _) (v := .int ((rdI (wrI g 40 21 k0) 40 21))) rfl dX10_atom_123 ?_
  refine gx_if_eq X 133 dX10_atom_126 (by decide) (fun q2 => ?_) (fun q2 => ?_)
  · replace h := (if_pos q2).symm.trans h
    refine gx_iconst X (v := (1 : Int32)) dX10_atom_133 (by decide) ?_
    refine gx_iadd X dX10_atom_134 ?_
    refine gx_putf X (40) ((rdI (wrI g 40 21 k0) 40 20) + (1 : Int32)) lf_X10_139 lp_X10_20 (by decide) (cl_40 _ _) (Nat.le_of_ble_eq_true rfl) rfl rfl rfl dX10_atom_135 ?_
    exact gx_sub [0, 1, 2] rfl (hK138 x1 x2 (wrI (wrI g 40 21 k0) 40 20 ((rdI (wrI g 40 21 k0) 40 20) + (1 : Int32))) h)
  · replace h := (if_neg q2).symm.trans h
    refine gx_iconst X (v := (0 : Int32)) dX10_atom_129 (by decide) ?_
    refine gx_goto X 134 dX10_atom_130 (by decide) ?_
    refine gx_iadd X dX10_atom_134 ?_
    refine gx_putf X (40) ((rdI (wrI g 40 21 k0) 40 20) + (0 : Int32)) lf_X10_139 lp_X10_20 (by decide) (cl_40 _ _) (Nat.le_of_ble_eq_true rfl) rfl rfl rfl dX10_atom_135 ?_
    exact gx_sub [0, 1, 2] rfl (hK138 x1 x2 (wrI (wrI g 40 21 k0) 40 20 ((rdI (wrI g 40 21 k0) 40 20) + (0 : Int32))) h)
def m_X10_atom_85 (C : Nat → Int32 → Int32 → Int32 → Int32 → Mm → Option (Int32 × Mm)) (x1 : Int32) (k0 : Int32) (g : Mm) : Option (Int32 × Mm) := (if x1 = (40 : Int32) then (if (rdI g 40 21) = (0 : Int32) then bdd (m_X10_at  g) (fun ra3 ga4 => (if ra3 = (41 : Int32) then m_X10_atom_114 C (m_X10_atom_138 C) x1 k0 (0 : Int32) ga4 else m_X10_atom_114 C (m_X10_atom_138 C) x1 k0 (1 : Int32) ga4)) else m_X10_atom_138 C x1 k0 g) else m_X10_atom_138 C x1 k0 g)
set_option maxHeartbeats 2000000 in
theorem t_X10_atom_85 {r2 : Int32} {g2 : Mm} (X : gx_X p R s m args meth c D al cI cJ A RX10 cX10_atom 3 (some .int) d 0 0) (hd : 3 ≤ d) {dn : Nat} {C : Nat → Int32 → Int32 → Int32 → Int32 → Mm → Option (Int32 × Mm)} (hdn : dn + 1 ≤ d) (hC0 : ∀ (b0 b1 b2 b3 : Int32) (g : Mm) (rr : Int32) (gg : Mm), C 0 b0 b1 b2 b3 g = some (rr, gg) → gx_M dn yX10_atom cX10_atom 3 (some .int) (fun al => [.ref (al (40))]) g (some (.int rr)) gg) (hC1 : ∀ (b0 b1 b2 b3 : Int32) (g : Mm) (rr : Int32) (gg : Mm), C 1 b0 b1 b2 b3 g = some (rr, gg) → gx_M dn yX10_product cX10_product 4 (some .int) (fun al => [.ref (al (40))]) g (some (.int rr)) gg) (hC2 : ∀ (b0 b1 b2 b3 : Int32) (g : Mm) (rr : Int32) (gg : Mm), C 2 b0 b1 b2 b3 g = some (rr, gg) → gx_M dn yX10_added cX10_added 4 (some .int) (fun al => [.ref (al (40))]) g (some (.int rr)) gg) (hC3 : ∀ (b0 b1 b2 b3 : Int32) (g : Mm) (rr : Int32) (gg : Mm), C 3 b0 b1 b2 b3 g = some (rr, gg) → gx_M dn yX10_compared cX10_compared 4 (some .int) (fun al => [.ref (al (40))]) g (some (.int rr)) gg) (hC4 : ∀ (b0 b1 b2 b3 : Int32) (g : Mm) (rr : Int32) (gg : Mm), C 4 b0 b1 b2 b3 g = some (rr, gg) → gx_M dn yX10_both cX10_both 3 (some .int) (fun al => [.ref (al (40))]) g (some (.int rr)) gg) (hC5 : ∀ (b0 b1 b2 b3 : Int32) (g : Mm) (rr : Int32) (gg : Mm), C 5 b0 b1 b2 b3 g = some (rr, gg) → gx_M dn yX10_either cX10_either 3 (some .int) (fun al => [.ref (al (40))]) g (some (.int rr)) gg) : ∀ (x1 : Int32) (k0 : Int32) (g : Mm), m_X10_atom_85 C x1 k0 g = some (r2, g2) → gx_G p l e R s m args below meth c (gx_Q below args s D al cI cJ A (some (.int r2)) g2) D al cI cJ A 3 0 0 85 [(0, .ref (al (40))), (1, .int (x1))] [.int (k0)] g := by
  intro x1 k0 g h
  unfold m_X10_atom_85 at h
  refine gx_istore_n X [(2, .int (k0)), (0, .ref (al (40))), (1, .int (x1))] dX10_atom_85 (by decide) rfl ?_
  refine gx_iload_n X 2 rfl dX10_atom_86 ?_
  refine gx_bipush X (v := (40 : Int32)) dX10_atom_87 (by decide) ?_
  refine gx_icmp_ne X 138 dX10_atom_89 (by decide) (fun q1 => ?_) (fun q1 => ?_)
  · replace h := (if_neg q1).symm.trans h
    exact gx_sub [1, 2, 0] rfl (t_X10_atom_138 X hd hdn hC0 hC1 hC2 hC3 hC4 hC5 x1 k0 g h)
  · replace h := (if_pos q1).symm.trans h
    refine gx_aload_n X 1 rfl dX10_atom_92 ?_
    refine gx_getf X (40) lf_X10_175 (by decide) (cl_40 _ _) (v := .int ((rdI g 40 21))) rfl dX10_atom_93 ?_
    refine gx_if_ne X 138 dX10_atom_96 (by decide) (fun q2 => ?_) (fun q2 => ?_)
    · replace h := (if_neg q2).symm.trans h
      exact gx_sub [1, 2, 0] rfl (t_X10_atom_138 X hd hdn hC0 hC1 hC2 hC3 hC4 hC5 x1 k0 g h)
    · replace h := (if_pos q2).symm.trans h
      refine gx_aload_n X 1 rfl dX10_atom_99 ?_
      refine gx_aload_n X 1 rfl dX10_atom_100 ?_
      obtain ⟨ra3, ga4, ca5, h⟩ := bdd_eq h
      refine gx_callVi X (40) (c_X10_at ca5) lc_X10_at li_X10_at lm_X10_149 (by decide) (cl_40 _ _) rfl rfl rfl (Nat.le_trans (by decide) hd) rfl (Nat.le_of_ble_eq_true rfl) dX10_atom_101 ?_
      refine gx_bipush X (v := (41 : Int32)) dX10_atom_104 (by decide) ?_
      refine gx_icmp_eq X 113 dX10_atom_106 (by decide) (fun q6 => ?_) (fun q6 => ?_)
      · replace h := (if_pos q6).symm.trans h
        refine gx_iconst X (v := (0 : Int32)) dX10_atom_113 (by decide) ?_
        exact gx_sub [1, 2, 0] rfl (t_X10_atom_114 X hd hdn hC0 hC1 hC2 hC3 hC4 hC5 (fun u0 u1 g h => t_X10_atom_138 X hd hdn hC0 hC1 hC2 hC3 hC4 hC5 u0 u1 g h) x1 k0 (0 : Int32) ga4 h)
      · replace h := (if_neg q6).symm.trans h
        refine gx_iconst X (v := (1 : Int32)) dX10_atom_109 (by decide) ?_
        refine gx_goto X 114 dX10_atom_110 (by decide) ?_
        exact gx_sub [1, 2, 0] rfl (t_X10_atom_114 X hd hdn hC0 hC1 hC2 hC3 hC4 hC5 (fun u0 u1 g h => t_X10_atom_138 X hd hdn hC0 hC1 hC2 hC3 hC4 hC5 u0 u1 g h) x1 k0 (1 : Int32) ga4 h)
def m_X10_atom_32 (C : Nat → Int32 → Int32 → Int32 → Int32 → Mm → Option (Int32 × Mm)) (x1 : Int32) (g : Mm) : Option (Int32 × Mm) := (if (rdI g 40 22) = (6 : Int32) then some ((0 : Int32), (wrI g 40 21 (1 : Int32))) else (if x1 = (40 : Int32) then bdd (C 5 (0 : Int32) (0 : Int32) (0 : Int32) (0 : Int32) (wrI (wrI g 40 22 ((rdI g 40 22) + (1 : Int32))) 40 20 ((rdI (wrI g 40 22 ((rdI g 40 22) + (1 : Int32))) 40 20) + (1 : Int32)))) (fun ra6 ga7 => m_X10_atom_85 C x1 ra6 ga7) else bdd (C 0 (0 : Int32) (0 : Int32) (0 : Int32) (0 : Int32) (wrI (wrI g 40 22 ((rdI g 40 22) + (1 : Int32))) 40 20 ((rdI (wrI g 40 22 ((rdI g 40 22) + (1 : Int32))) 40 20) + (1 : Int32)))) (fun ra3 ga4 => m_X10_atom_85 C x1 ra3 ga4)))
set_option maxHeartbeats 2000000 in
theorem t_X10_atom_32 {r2 : Int32} {g2 : Mm} (X : gx_X p R s m args meth c D al cI cJ A RX10 cX10_atom 3 (some .int) d 0 0) (hd : 3 ≤ d) {dn : Nat} {C : Nat → Int32 → Int32 → Int32 → Int32 → Mm → Option (Int32 × Mm)} (hdn : dn + 1 ≤ d) (hC0 : ∀ (b0 b1 b2 b3 : Int32) (g : Mm) (rr : Int32) (gg : Mm), C 0 b0 b1 b2 b3 g = some (rr, gg) → gx_M dn yX10_atom cX10_atom 3 (some .int) (fun al => [.ref (al (40))]) g (some (.int rr)) gg) (hC1 : ∀ (b0 b1 b2 b3 : Int32) (g : Mm) (rr : Int32) (gg : Mm), C 1 b0 b1 b2 b3 g = some (rr, gg) → gx_M dn yX10_product cX10_product 4 (some .int) (fun al => [.ref (al (40))]) g (some (.int rr)) gg) (hC2 : ∀ (b0 b1 b2 b3 : Int32) (g : Mm) (rr : Int32) (gg : Mm), C 2 b0 b1 b2 b3 g = some (rr, gg) → gx_M dn yX10_added cX10_added 4 (some .int) (fun al => [.ref (al (40))]) g (some (.int rr)) gg) (hC3 : ∀ (b0 b1 b2 b3 : Int32) (g : Mm) (rr : Int32) (gg : Mm), C 3 b0 b1 b2 b3 g = some (rr, gg) → gx_M dn yX10_compared cX10_compared 4 (some .int) (fun al => [.ref (al (40))]) g (some (.int rr)) gg) (hC4 : ∀ (b0 b1 b2 b3 : Int32) (g : Mm) (rr : Int32) (gg : Mm), C 4 b0 b1 b2 b3 g = some (rr, gg) → gx_M dn yX10_both cX10_both 3 (some .int) (fun al => [.ref (al (40))]) g (some (.int rr)) gg) (hC5 : ∀ (b0 b1 b2 b3 : Int32) (g : Mm) (rr : Int32) (gg : Mm), C 5 b0 b1 b2 b3 g = some (rr, gg) → gx_M dn yX10_either cX10_either 3 (some .int) (fun al => [.ref (al (40))]) g (some (.int rr)) gg) : ∀ (x1 : Int32) (g : Mm), m_X10_atom_32 C x1 g = some (r2, g2) → gx_G p l e R s m args below meth c (gx_Q below args s D al cI cJ A (some (.int r2)) g2) D al cI cJ A 3 0 0 32 [(0, .ref (al (40))), (1, .int (x1))] [] g := by
  intro x1 g h
  unfold m_X10_atom_32 at h
  refine gx_aload_n X 0 rfl dX10_atom_32 ?_
  refine gx_getf X (40) lf_X10_178 (by decide) (cl_40 _ _) (v := .int ((rdI g 40 22))) rfl dX10_atom_33 ?_
  refine gx_bipush X (v := (6 : Int32)) dX10_atom_36 (by decide) ?_
  refine gx_icmp_ne X 48 dX10_atom_38 (by decide) (fun q1 => ?_) (fun q1 => ?_)
  · replace h := (if_neg q1).symm.trans h
    refine gx_aload_n X 0 rfl dX10_atom_48 ?_
    refine gx_dup X dX10_atom_49 rfl ?_
    refine gx_getf X (40) lf_X10_178 (by decide) (cl_40 _ _) (v := .int ((rdI g 40 22))) rfl dX10_atom_50 ?_
    refine gx_iconst X (v := (1 : Int32)) dX10_atom_53 (by decide) ?_
    refine gx_iadd X dX10_atom_54 ?_
    refine gx_putf X (40) ((rdI g 40 22) + (1 : Int32)) lf_X10_178 lp_X10_22 (by decide) (cl_40 _ _) (Nat.le_of_ble_eq_true rfl) rfl rfl rfl dX10_atom_55 ?_
    refine gx_aload_n X 0 rfl dX10_atom_58 ?_
    refine gx_dup X dX10_atom_59 rfl ?_
    refine gx_getf X (40) lf_X10_139 (by decide) (cl_40 _ _) (v := .int ((rdI (wrI g 40 22 ((rdI g 40 22) + (1 : Int32))) 40 20))) rfl dX10_atom_60 ?_
    refine gx_iconst X (v := (1 : Int32)) dX10_atom_63 (by decide) ?_
    refine gx_iadd X dX10_atom_64 ?_
    refine gx_putf X (40) ((rdI (wrI g 40 22 ((rdI g 40 22) + (1 : Int32))) 40 20) + (1 : Int32)) lf_X10_139 lp_X10_20 (by decide) (cl_40 _ _) (Nat.le_of_ble_eq_true rfl) rfl rfl rfl dX10_atom_65 ?_
    refine gx_iload_n X 1 rfl dX10_atom_68 ?_
    refine gx_bipush X (v := (40 : Int32)) dX10_atom_69 (by decide) ?_
    refine gx_icmp_ne X 81 dX10_atom_71 (by decide) (fun q2 => ?_) (fun q2 => ?_)
    · replace h := (if_neg q2).symm.trans h
      refine gx_aload_n X 0 rfl dX10_atom_81 ?_
      obtain ⟨ra3, ga4, ca5, h⟩ := bdd_eq h
      refine gx_callVi X (40) (hC0 _ _ _ _ _ _ _ ca5) lc_X10_atom li_X10_atom lm_X10_184 (by decide) (cl_40 _ _) rfl rfl rfl hdn rfl (Nat.le_of_ble_eq_true rfl) dX10_atom_82 ?_
      exact gx_sub [0, 1] rfl (t_X10_atom_85 X hd hdn hC0 hC1 hC2 hC3 hC4 hC5 x1 ra3 ga4 h)
    · replace h := (if_pos q2).symm.trans h
      refine gx_aload_n X 0 rfl dX10_atom_74 ?_
      obtain ⟨ra6, ga7, ca8, h⟩ := bdd_eq h
      refine gx_callVi X (40) (hC5 _ _ _ _ _ _ _ ca8) lc_X10_either li_X10_either lm_X10_181 (by decide) (cl_40 _ _) rfl rfl rfl hdn rfl (Nat.le_of_ble_eq_true rfl) dX10_atom_75 ?_
      refine gx_goto X 85 dX10_atom_78 (by decide) ?_
      exact gx_sub [0, 1] rfl (t_X10_atom_85 X hd hdn hC0 hC1 hC2 hC3 hC4 hC5 x1 ra6 ga7 h)
  · replace h := (if_pos q1).symm.trans h
    refine gx_aload_n X 0 rfl dX10_atom_41 ?_
    refine gx_iconst X (v := (1 : Int32)) dX10_atom_42 (by decide) ?_
    refine gx_putf X (40) (1 : Int32) lf_X10_175 lp_X10_21 (by decide) (cl_40 _ _) (Nat.le_of_ble_eq_true rfl) rfl rfl rfl dX10_atom_43 ?_
    refine gx_iconst X (v := (0 : Int32)) dX10_atom_46 (by decide) ?_
    obtain ⟨rfl, rfl⟩ := ret_eq h
    exact gx_iret X rfl dX10_atom_47
def m_X10_atom (C : Nat → Int32 → Int32 → Int32 → Int32 → Mm → Option (Int32 × Mm)) (g : Mm) : Option (Int32 × Mm) := (if (rdI g 40 21) = (0 : Int32) then bdd (m_X10_at  g) (fun ra2 ga3 => (if ra2 = (33 : Int32) then m_X10_atom_32 C ra2 ga3 else (if ra2 = (45 : Int32) then m_X10_atom_32 C ra2 ga3 else (if ra2 = (40 : Int32) then m_X10_atom_32 C ra2 ga3 else bdd (m_X10_in (ra2.toInt64) (48 : Int64) (57 : Int64) ga3) (fun ra8 ga9 => (if ra8 = (0 : Int32) then bdd (m_X10_isName ra2 ga9) (fun ra12 ga13 => (if ra12 = (0 : Int32) then some ((0 : Int32), (wrI ga13 40 21 (1 : Int32))) else bdd (m_X10_named ra2 (wrI ga13 40 20 ((rdI ga13 40 20) + (1 : Int32)))) (fun ra16 ga17 => some (ra16, ga17)))) else bdd (m_X10_number  ga9) (fun ra19 ga20 => some (ra19, ga20)))))))) else some ((0 : Int32), g))
set_option maxHeartbeats 2000000 in
theorem b_X10_atom {d : Nat} {r2 : Int32} {g g2 : Mm} (hd : 3 ≤ d) {dn : Nat} {C : Nat → Int32 → Int32 → Int32 → Int32 → Mm → Option (Int32 × Mm)} (hdn : dn + 1 ≤ d) (hC0 : ∀ (b0 b1 b2 b3 : Int32) (g : Mm) (rr : Int32) (gg : Mm), C 0 b0 b1 b2 b3 g = some (rr, gg) → gx_M dn yX10_atom cX10_atom 3 (some .int) (fun al => [.ref (al (40))]) g (some (.int rr)) gg) (hC1 : ∀ (b0 b1 b2 b3 : Int32) (g : Mm) (rr : Int32) (gg : Mm), C 1 b0 b1 b2 b3 g = some (rr, gg) → gx_M dn yX10_product cX10_product 4 (some .int) (fun al => [.ref (al (40))]) g (some (.int rr)) gg) (hC2 : ∀ (b0 b1 b2 b3 : Int32) (g : Mm) (rr : Int32) (gg : Mm), C 2 b0 b1 b2 b3 g = some (rr, gg) → gx_M dn yX10_added cX10_added 4 (some .int) (fun al => [.ref (al (40))]) g (some (.int rr)) gg) (hC3 : ∀ (b0 b1 b2 b3 : Int32) (g : Mm) (rr : Int32) (gg : Mm), C 3 b0 b1 b2 b3 g = some (rr, gg) → gx_M dn yX10_compared cX10_compared 4 (some .int) (fun al => [.ref (al (40))]) g (some (.int rr)) gg) (hC4 : ∀ (b0 b1 b2 b3 : Int32) (g : Mm) (rr : Int32) (gg : Mm), C 4 b0 b1 b2 b3 g = some (rr, gg) → gx_M dn yX10_both cX10_both 3 (some .int) (fun al => [.ref (al (40))]) g (some (.int rr)) gg) (hC5 : ∀ (b0 b1 b2 b3 : Int32) (g : Mm) (rr : Int32) (gg : Mm), C 5 b0 b1 b2 b3 g = some (rr, gg) → gx_M dn yX10_either cX10_either 3 (some .int) (fun al => [.ref (al (40))]) g (some (.int rr)) gg) (h : m_X10_atom C g = some (r2, g2)) : gx_M d yX10_atom cX10_atom 3 (some .int) (fun al => [.ref (al (40))]) g (some (.int r2)) g2 := by
  refine gx_M.of (by decide +kernel) (fun _ => Nat.le_of_ble_eq_true rfl) ?_
  intro p l e R s m args below meth c D al cI cJ A X
  refine gx_eq (pc' := 0) (ls' := [(0, .ref (al (40)))]) (st' := []) (g' := g) ⟨rfl, rfl, rfl, rfl⟩ ?_
  unfold m_X10_atom at h
  refine gx_aload_n X 0 rfl dX10_atom_0 ?_
  refine gx_getf X (40) lf_X10_175 (by decide) (cl_40 _ _) (v := .int ((rdI g 40 21))) rfl dX10_atom_1 ?_
  refine gx_if_eq X 9 dX10_atom_4 (by decide) (fun q1 => ?_) (fun q1 => ?_)
  · replace h := (if_pos q1).symm.trans h
    refine gx_aload_n X 0 rfl dX10_atom_9 ?_
    obtain ⟨ra2, ga3, ca4, h⟩ := bdd_eq h
    refine gx_callVi X (40) (c_X10_at ca4) lc_X10_at li_X10_at lm_X10_149 (by decide) (cl_40 _ _) rfl rfl rfl (Nat.le_trans (by decide) hd) rfl (Nat.le_of_ble_eq_true rfl) dX10_atom_10 ?_
    refine gx_istore_n X [(1, .int (ra2)), (0, .ref (al (40)))] dX10_atom_13 (by decide) rfl ?_
    refine gx_iload_n X 0 rfl dX10_atom_14 ?_
    refine gx_bipush X (v := (33 : Int32)) dX10_atom_15 (by decide) ?_
    refine gx_icmp_eq X 32 dX10_atom_17 (by decide) (fun q5 => ?_) (fun q5 => ?_)
    · replace h := (if_pos q5).symm.trans h
      exact gx_sub [1, 0] rfl (t_X10_atom_32 X hd hdn hC0 hC1 hC2 hC3 hC4 hC5 ra2 ga3 h)
    · replace h := (if_neg q5).symm.trans h
      refine gx_iload_n X 0 rfl dX10_atom_20 ?_
      refine gx_bipush X (v := (45 : Int32)) dX10_atom_21 (by decide) ?_
      refine gx_icmp_eq X 32 dX10_atom_23 (by decide) (fun q6 => ?_) (fun q6 => ?_)
      · replace h := (if_pos q6).symm.trans h
        exact gx_sub [1, 0] rfl (t_X10_atom_32 X hd hdn hC0 hC1 hC2 hC3 hC4 hC5 ra2 ga3 h)
      · replace h := (if_neg q6).symm.trans h
        refine gx_iload_n X 0 rfl dX10_atom_26 ?_
        refine gx_bipush X (v := (40 : Int32)) dX10_atom_27 (by decide) ?_
        refine gx_icmp_ne X 179 dX10_atom_29 (by decide) (fun q7 => ?_) (fun q7 => ?_)
        · replace h := (if_neg q7).symm.trans h
          refine gx_iload_n X 0 rfl dX10_atom_179 ?_
          refine gx_i2l X dX10_atom_180 ?_
          refine gx_ldc2 X (v := (48 : Int64)) lk_X10_153 dX10_atom_181 ?_
          refine gx_ldc2 X (v := (57 : Int64)) lk_X10_155 dX10_atom_184 ?_
          obtain ⟨ra8, ga9, ca10, h⟩ := bdd_eq h
          refine gx_callSi X (c_X10_in ca10) lc_X10_in li_X10_in lm_X10_92 rfl rfl (Nat.le_trans (by decide) hd) rfl (Nat.le_of_ble_eq_true rfl) dX10_atom_187 ?_
          refine gx_if_eq X 198 dX10_atom_190 (by decide) (fun q11 => ?_) (fun q11 => ?_)
          · replace h := (if_pos q11).symm.trans h
            refine gx_iload_n X 0 rfl dX10_atom_198 ?_
            obtain ⟨ra12, ga13, ca14, h⟩ := bdd_eq h
            refine gx_callSi X (c_X10_isName ca14) lc_X10_isName li_X10_isName lm_X10_190 rfl rfl (Nat.le_trans (by decide) hd) rfl (Nat.le_of_ble_eq_true rfl) dX10_atom_199 ?_
            refine gx_if_ne X 212 dX10_atom_202 (by decide) (fun q15 => ?_) (fun q15 => ?_)
            · replace h := (if_neg q15).symm.trans h
              refine gx_aload_n X 1 rfl dX10_atom_212 ?_
              refine gx_dup X dX10_atom_213 rfl ?_
              refine gx_getf X (40) lf_X10_139 (by decide) (cl_40 _ _) (v := .int ((rdI ga13 40 20))) rfl dX10_atom_214 ?_
              refine gx_iconst X (v := (1 : Int32)) dX10_atom_217 (by decide) ?_
              refine gx_iadd X dX10_atom_218 ?_
              refine gx_putf X (40) ((rdI ga13 40 20) + (1 : Int32)) lf_X10_139 lp_X10_20 (by decide) (cl_40 _ _) (Nat.le_of_ble_eq_true rfl) rfl rfl rfl dX10_atom_219 ?_
              refine gx_aload_n X 1 rfl dX10_atom_222 ?_
              refine gx_iload_n X 0 rfl dX10_atom_223 ?_
              obtain ⟨ra16, ga17, ca18, h⟩ := bdd_eq h
              refine gx_callVi X (40) (c_X10_named ca18) lc_X10_named li_X10_named lm_X10_193 (by decide) (cl_40 _ _) rfl rfl rfl (Nat.le_trans (by decide) hd) rfl (Nat.le_of_ble_eq_true rfl) dX10_atom_224 ?_
              obtain ⟨rfl, rfl⟩ := ret_eq h
              exact gx_iret X rfl dX10_atom_227
            · replace h := (if_pos q15).symm.trans h
              refine gx_aload_n X 1 rfl dX10_atom_205 ?_
              refine gx_iconst X (v := (1 : Int32)) dX10_atom_206 (by decide) ?_
              refine gx_putf X (40) (1 : Int32) lf_X10_175 lp_X10_21 (by decide) (cl_40 _ _) (Nat.le_of_ble_eq_true rfl) rfl rfl rfl dX10_atom_207 ?_
              refine gx_iconst X (v := (0 : Int32)) dX10_atom_210 (by decide) ?_
              obtain ⟨rfl, rfl⟩ := ret_eq h
              exact gx_iret X rfl dX10_atom_211
          · replace h := (if_neg q11).symm.trans h
            refine gx_aload_n X 1 rfl dX10_atom_193 ?_
            obtain ⟨ra19, ga20, ca21, h⟩ := bdd_eq h
            refine gx_callVi X (40) (c_X10_number ca21) lc_X10_number li_X10_number lm_X10_187 (by decide) (cl_40 _ _) rfl rfl rfl (Nat.le_trans (by decide) hd) rfl (Nat.le_of_ble_eq_true rfl) dX10_atom_194 ?_
            obtain ⟨rfl, rfl⟩ := ret_eq h
            exact gx_iret X rfl dX10_atom_197
        · replace h := (if_pos q7).symm.trans h
          exact gx_sub [1, 0] rfl (t_X10_atom_32 X hd hdn hC0 hC1 hC2 hC3 hC4 hC5 ra2 ga3 h)
  · replace h := (if_neg q1).symm.trans h
    refine gx_iconst X (v := (0 : Int32)) dX10_atom_7 (by decide) ?_
    obtain ⟨rfl, rfl⟩ := ret_eq h
    exact gx_iret X rfl dX10_atom_8
theorem dX10_product_0 : decode cX10_product 0 = .ok (.aload_n 0, 1) := by decide +kernel
theorem dX10_product_1 : decode cX10_product 1 = .ok (.invokevirtual 184, 3) := by decide +kernel
theorem dX10_product_4 : decode cX10_product 4 = .ok (.istore_n 1, 1) := by decide +kernel
theorem dX10_product_5 : decode cX10_product 5 = .ok (.aload_n 0, 1) := by decide +kernel
theorem dX10_product_6 : decode cX10_product 6 = .ok (.getfield 175, 3) := by decide +kernel
theorem dX10_product_9 : decode cX10_product 9 = .ok (.ifCond .ne 89, 3) := by decide +kernel
theorem dX10_product_12 : decode cX10_product 12 = .ok (.aload_n 0, 1) := by decide +kernel
theorem dX10_product_13 : decode cX10_product 13 = .ok (.invokevirtual 149, 3) := by decide +kernel
theorem dX10_product_16 : decode cX10_product 16 = .ok (.bipush 42, 2) := by decide +kernel
theorem dX10_product_18 : decode cX10_product 18 = .ok (.if_icmp .eq 21, 3) := by decide +kernel
theorem dX10_product_21 : decode cX10_product 21 = .ok (.aload_n 0, 1) := by decide +kernel
theorem dX10_product_22 : decode cX10_product 22 = .ok (.invokevirtual 149, 3) := by decide +kernel
theorem dX10_product_25 : decode cX10_product 25 = .ok (.bipush 47, 2) := by decide +kernel
theorem dX10_product_27 : decode cX10_product 27 = .ok (.if_icmp .eq 12, 3) := by decide +kernel
theorem dX10_product_30 : decode cX10_product 30 = .ok (.aload_n 0, 1) := by decide +kernel
theorem dX10_product_31 : decode cX10_product 31 = .ok (.invokevirtual 149, 3) := by decide +kernel
theorem dX10_product_34 : decode cX10_product 34 = .ok (.bipush 37, 2) := by decide +kernel
theorem dX10_product_36 : decode cX10_product 36 = .ok (.if_icmp .ne 62, 3) := by decide +kernel
theorem dX10_product_39 : decode cX10_product 39 = .ok (.aload_n 0, 1) := by decide +kernel
theorem dX10_product_40 : decode cX10_product 40 = .ok (.invokevirtual 149, 3) := by decide +kernel
theorem dX10_product_43 : decode cX10_product 43 = .ok (.istore_n 2, 1) := by decide +kernel
theorem dX10_product_44 : decode cX10_product 44 = .ok (.aload_n 0, 1) := by decide +kernel
theorem dX10_product_45 : decode cX10_product 45 = .ok (.dup, 1) := by decide +kernel
theorem dX10_product_46 : decode cX10_product 46 = .ok (.getfield 139, 3) := by decide +kernel
theorem dX10_product_49 : decode cX10_product 49 = .ok (.iconst 1, 1) := by decide +kernel
theorem dX10_product_50 : decode cX10_product 50 = .ok (.iadd, 1) := by decide +kernel
theorem dX10_product_51 : decode cX10_product 51 = .ok (.putfield 139, 3) := by decide +kernel
theorem dX10_product_54 : decode cX10_product 54 = .ok (.aload_n 0, 1) := by decide +kernel
theorem dX10_product_55 : decode cX10_product 55 = .ok (.invokevirtual 184, 3) := by decide +kernel
theorem dX10_product_58 : decode cX10_product 58 = .ok (.istore_n 3, 1) := by decide +kernel
theorem dX10_product_59 : decode cX10_product 59 = .ok (.iload_n 2, 1) := by decide +kernel
theorem dX10_product_60 : decode cX10_product 60 = .ok (.bipush 42, 2) := by decide +kernel
theorem dX10_product_62 : decode cX10_product 62 = .ok (.if_icmp .ne 9, 3) := by decide +kernel
theorem dX10_product_65 : decode cX10_product 65 = .ok (.iload_n 1, 1) := by decide +kernel
theorem dX10_product_66 : decode cX10_product 66 = .ok (.iload_n 3, 1) := by decide +kernel
theorem dX10_product_67 : decode cX10_product 67 = .ok (.imul, 1) := by decide +kernel
theorem dX10_product_68 : decode cX10_product 68 = .ok (.goto 26, 3) := by decide +kernel
theorem dX10_product_71 : decode cX10_product 71 = .ok (.iload_n 3, 1) := by decide +kernel
theorem dX10_product_72 : decode cX10_product 72 = .ok (.ifCond .ne 7, 3) := by decide +kernel
theorem dX10_product_75 : decode cX10_product 75 = .ok (.iconst 0, 1) := by decide +kernel
theorem dX10_product_76 : decode cX10_product 76 = .ok (.goto 18, 3) := by decide +kernel
theorem dX10_product_79 : decode cX10_product 79 = .ok (.iload_n 2, 1) := by decide +kernel
theorem dX10_product_80 : decode cX10_product 80 = .ok (.bipush 47, 2) := by decide +kernel
theorem dX10_product_82 : decode cX10_product 82 = .ok (.if_icmp .ne 9, 3) := by decide +kernel
theorem dX10_product_85 : decode cX10_product 85 = .ok (.iload_n 1, 1) := by decide +kernel
theorem dX10_product_86 : decode cX10_product 86 = .ok (.iload_n 3, 1) := by decide +kernel
theorem dX10_product_87 : decode cX10_product 87 = .ok (.idiv, 1) := by decide +kernel
theorem dX10_product_88 : decode cX10_product 88 = .ok (.goto 6, 3) := by decide +kernel
theorem dX10_product_91 : decode cX10_product 91 = .ok (.iload_n 1, 1) := by decide +kernel
theorem dX10_product_92 : decode cX10_product 92 = .ok (.iload_n 3, 1) := by decide +kernel
theorem dX10_product_93 : decode cX10_product 93 = .ok (.irem, 1) := by decide +kernel
theorem dX10_product_94 : decode cX10_product 94 = .ok (.istore_n 1, 1) := by decide +kernel
theorem dX10_product_95 : decode cX10_product 95 = .ok (.goto (-90), 3) := by decide +kernel
theorem dX10_product_98 : decode cX10_product 98 = .ok (.iload_n 1, 1) := by decide +kernel
theorem dX10_product_99 : decode cX10_product 99 = .ok (.ireturn, 1) := by decide +kernel
def m_X10_product_39 (C : Nat → Int32 → Int32 → Int32 → Int32 → Mm → Option (Int32 × Mm)) (K5 : Int32 → Mm → Option (Int32 × Mm)) (x1 : Int32) (g : Mm) : Option (Int32 × Mm) := bdd (m_X10_at  g) (fun ra1 ga2 => bdd (C 0 (0 : Int32) (0 : Int32) (0 : Int32) (0 : Int32) (wrI ga2 40 20 ((rdI ga2 40 20) + (1 : Int32)))) (fun ra4 ga5 => (if ra1 = (42 : Int32) then K5 (x1 * ra4) ga5 else (if ra4 = (0 : Int32) then K5 (0 : Int32) ga5 else (if ra1 = (47 : Int32) then gdd (decide (¬ ra4 = 0)) (K5 (x1 / ra4) ga5) else gdd (decide (¬ ra4 = 0)) (K5 (rmI x1 ra4) ga5))))))
set_option maxHeartbeats 2000000 in
theorem t_X10_product_39 {r2 : Int32} {g2 : Mm} (X : gx_X p R s m args meth c D al cI cJ A RX10 cX10_product 4 (some .int) d 0 0) (hd : 3 ≤ d) {dn : Nat} {C : Nat → Int32 → Int32 → Int32 → Int32 → Mm → Option (Int32 × Mm)} (hdn : dn + 1 ≤ d) (hC0 : ∀ (b0 b1 b2 b3 : Int32) (g : Mm) (rr : Int32) (gg : Mm), C 0 b0 b1 b2 b3 g = some (rr, gg) → gx_M dn yX10_atom cX10_atom 3 (some .int) (fun al => [.ref (al (40))]) g (some (.int rr)) gg) (hC1 : ∀ (b0 b1 b2 b3 : Int32) (g : Mm) (rr : Int32) (gg : Mm), C 1 b0 b1 b2 b3 g = some (rr, gg) → gx_M dn yX10_product cX10_product 4 (some .int) (fun al => [.ref (al (40))]) g (some (.int rr)) gg) (hC2 : ∀ (b0 b1 b2 b3 : Int32) (g : Mm) (rr : Int32) (gg : Mm), C 2 b0 b1 b2 b3 g = some (rr, gg) → gx_M dn yX10_added cX10_added 4 (some .int) (fun al => [.ref (al (40))]) g (some (.int rr)) gg) (hC3 : ∀ (b0 b1 b2 b3 : Int32) (g : Mm) (rr : Int32) (gg : Mm), C 3 b0 b1 b2 b3 g = some (rr, gg) → gx_M dn yX10_compared cX10_compared 4 (some .int) (fun al => [.ref (al (40))]) g (some (.int rr)) gg) (hC4 : ∀ (b0 b1 b2 b3 : Int32) (g : Mm) (rr : Int32) (gg : Mm), C 4 b0 b1 b2 b3 g = some (rr, gg) → gx_M dn yX10_both cX10_both 3 (some .int) (fun al => [.ref (al (40))]) g (some (.int rr)) gg) (hC5 : ∀ (b0 b1 b2 b3 : Int32) (g : Mm) (rr : Int32) (gg : Mm), C 5 b0 b1 b2 b3 g = some (rr, gg) → gx_M dn yX10_either cX10_either 3 (some .int) (fun al => [.ref (al (40))]) g (some (.int rr)) gg) {K5 : Int32 → Mm → Option (Int32 × Mm)} (hK5 : ∀ (u0 : Int32) (g : Mm), K5 u0 g = some (r2, g2) → gx_G p l e R s m args below meth c (gx_Q below args s D al cI cJ A (some (.int r2)) g2) D al cI cJ A 4 0 0 5 [(0, .ref (al (40))), (1, .int (u0))] [] g) : ∀ (x1 : Int32) (g : Mm), m_X10_product_39 C K5 x1 g = some (r2, g2) → gx_G p l e R s m args below meth c (gx_Q below args s D al cI cJ A (some (.int r2)) g2) D al cI cJ A 4 0 0 39 [(0, .ref (al (40))), (1, .int (x1))] [] g := by
  intro x1 g h
  unfold m_X10_product_39 at h
  refine gx_aload_n X 0 rfl dX10_product_39 ?_
  obtain ⟨ra1, ga2, ca3, h⟩ := bdd_eq h
  refine gx_callVi X (40) (c_X10_at ca3) lc_X10_at li_X10_at lm_X10_149 (by decide) (cl_40 _ _) rfl rfl rfl (Nat.le_trans (by decide) hd) rfl (Nat.le_of_ble_eq_true rfl) dX10_product_40 ?_
  refine gx_istore_n X [(2, .int (ra1)), (0, .ref (al (40))), (1, .int (x1))] dX10_product_43 (by decide) rfl ?_
  refine gx_aload_n X 1 rfl dX10_product_44 ?_
  refine gx_dup X dX10_product_45 rfl ?_
  refine gx_getf X (40) lf_X10_139 (by decide) (cl_40 _ _) (v := .int ((rdI ga2 40 20))) rfl dX10_product_46 ?_
  refine gx_iconst X (v := (1 : Int32)) dX10_product_49 (by decide) ?_
  refine gx_iadd X dX10_product_50 ?_
  refine gx_putf X (40) ((rdI ga2 40 20) + (1 : Int32)) lf_X10_139 lp_X10_20 (by decide) (cl_40 _ _) (Nat.le_of_ble_eq_true rfl) rfl rfl rfl dX10_product_51 ?_
  refine gx_aload_n X 1 rfl dX10_product_54 ?_
  obtain ⟨ra4, ga5, ca6, h⟩ := bdd_eq h
  refine gx_callVi X (40) (hC0 _ _ _ _ _ _ _ ca6) lc_X10_atom li_X10_atom lm_X10_184 (by decide) (cl_40 _ _) rfl rfl rfl hdn rfl (Nat.le_of_ble_eq_true rfl) dX10_product_55 ?_
  refine gx_istore_n X [(3, .int (ra4)), (2, .int (ra1)), (0, .ref (al (40))), (1, .int (x1))] dX10_product_58 (by decide) rfl ?_
  refine gx_iload_n X 1 rfl dX10_product_59 ?_
  refine gx_bipush X (v := (42 : Int32)) dX10_product_60 (by decide) ?_
  refine gx_icmp_ne X 71 dX10_product_62 (by decide) (fun q7 => ?_) (fun q7 => ?_)
  · replace h := (if_neg q7).symm.trans h
    refine gx_iload_n X 0 rfl dX10_product_71 ?_
    refine gx_if_ne X 79 dX10_product_72 (by decide) (fun q8 => ?_) (fun q8 => ?_)
    · replace h := (if_neg q8).symm.trans h
      refine gx_iload_n X 1 rfl dX10_product_79 ?_
      refine gx_bipush X (v := (47 : Int32)) dX10_product_80 (by decide) ?_
      refine gx_icmp_ne X 91 dX10_product_82 (by decide) (fun q9 => ?_) (fun q9 => ?_)
      · replace h := (if_neg q9).symm.trans h
        refine gx_iload_n X 3 rfl dX10_product_91 ?_
        refine gx_iload_n X 0 rfl dX10_product_92 ?_
        obtain ⟨q10, h⟩ := gdd_eq h
        refine gx_irem X dX10_product_93 (of_decide_eq_true q10) ?_
        refine gx_istore_n X [(1, .int ((rmI x1 ra4))), (3, .int (ra4)), (2, .int (ra1)), (0, .ref (al (40)))] dX10_product_94 (by decide) rfl ?_
        refine gx_goto X 5 dX10_product_95 (by decide) ?_
        exact gx_sub [3, 0] rfl (hK5 (rmI x1 ra4) ga5 h)
      · replace h := (if_pos q9).symm.trans h
        refine gx_iload_n X 3 rfl dX10_product_85 ?_
        refine gx_iload_n X 0 rfl dX10_product_86 ?_
        obtain ⟨q11, h⟩ := gdd_eq h
        refine gx_idiv X dX10_product_87 (of_decide_eq_true q11) ?_
        refine gx_goto X 94 dX10_product_88 (by decide) ?_
        refine gx_istore_n X [(1, .int ((x1 / ra4))), (3, .int (ra4)), (2, .int (ra1)), (0, .ref (al (40)))] dX10_product_94 (by decide) rfl ?_
        refine gx_goto X 5 dX10_product_95 (by decide) ?_
        exact gx_sub [3, 0] rfl (hK5 (x1 / ra4) ga5 h)
    · replace h := (if_pos q8).symm.trans h
      refine gx_iconst X (v := (0 : Int32)) dX10_product_75 (by decide) ?_
      refine gx_goto X 94 dX10_product_76 (by decide) ?_
      refine gx_istore_n X [(1, .int ((0 : Int32))), (3, .int (ra4)), (2, .int (ra1)), (0, .ref (al (40)))] dX10_product_94 (by decide) rfl ?_
      refine gx_goto X 5 dX10_product_95 (by decide) ?_
      exact gx_sub [3, 0] rfl (hK5 (0 : Int32) ga5 h)
  · replace h := (if_pos q7).symm.trans h
    refine gx_iload_n X 3 rfl dX10_product_65 ?_
    refine gx_iload_n X 0 rfl dX10_product_66 ?_
    refine gx_imul X dX10_product_67 ?_
    refine gx_goto X 94 dX10_product_68 (by decide) ?_
    refine gx_istore_n X [(1, .int ((x1 * ra4))), (3, .int (ra4)), (2, .int (ra1)), (0, .ref (al (40)))] dX10_product_94 (by decide) rfl ?_
    refine gx_goto X 5 dX10_product_95 (by decide) ?_
    exact gx_sub [3, 0] rfl (hK5 (x1 * ra4) ga5 h)
def m_X10_product_5 (C : Nat → Int32 → Int32 → Int32 → Int32 → Mm → Option (Int32 × Mm)) : Nat → Int32 → Mm → Option (Int32 × Mm)
  | 0, _, _ => none
  | n + 1, x1, g => (if (rdI g 40 21) = (0 : Int32) then bdd (m_X10_at  g) (fun ra2 ga3 => (if ra2 = (42 : Int32) then m_X10_product_39 C (m_X10_product_5 C n) x1 ga3 else bdd (m_X10_at  ga3) (fun ra6 ga7 => (if ra6 = (47 : Int32) then m_X10_product_39 C (m_X10_product_5 C n) x1 ga7 else bdd (m_X10_at  ga7) (fun ra10 ga11 => (if ra10 = (37 : Int32) then m_X10_product_39 C (m_X10_product_5 C n) x1 ga11 else some (x1, ga11))))))) else some (x1, g))
set_option maxHeartbeats 2000000 in
theorem t_X10_product_5 {r2 : Int32} {g2 : Mm} (X : gx_X p R s m args meth c D al cI cJ A RX10 cX10_product 4 (some .int) d 0 0) (hd : 3 ≤ d) {dn : Nat} {C : Nat → Int32 → Int32 → Int32 → Int32 → Mm → Option (Int32 × Mm)} (hdn : dn + 1 ≤ d) (hC0 : ∀ (b0 b1 b2 b3 : Int32) (g : Mm) (rr : Int32) (gg : Mm), C 0 b0 b1 b2 b3 g = some (rr, gg) → gx_M dn yX10_atom cX10_atom 3 (some .int) (fun al => [.ref (al (40))]) g (some (.int rr)) gg) (hC1 : ∀ (b0 b1 b2 b3 : Int32) (g : Mm) (rr : Int32) (gg : Mm), C 1 b0 b1 b2 b3 g = some (rr, gg) → gx_M dn yX10_product cX10_product 4 (some .int) (fun al => [.ref (al (40))]) g (some (.int rr)) gg) (hC2 : ∀ (b0 b1 b2 b3 : Int32) (g : Mm) (rr : Int32) (gg : Mm), C 2 b0 b1 b2 b3 g = some (rr, gg) → gx_M dn yX10_added cX10_added 4 (some .int) (fun al => [.ref (al (40))]) g (some (.int rr)) gg) (hC3 : ∀ (b0 b1 b2 b3 : Int32) (g : Mm) (rr : Int32) (gg : Mm), C 3 b0 b1 b2 b3 g = some (rr, gg) → gx_M dn yX10_compared cX10_compared 4 (some .int) (fun al => [.ref (al (40))]) g (some (.int rr)) gg) (hC4 : ∀ (b0 b1 b2 b3 : Int32) (g : Mm) (rr : Int32) (gg : Mm), C 4 b0 b1 b2 b3 g = some (rr, gg) → gx_M dn yX10_both cX10_both 3 (some .int) (fun al => [.ref (al (40))]) g (some (.int rr)) gg) (hC5 : ∀ (b0 b1 b2 b3 : Int32) (g : Mm) (rr : Int32) (gg : Mm), C 5 b0 b1 b2 b3 g = some (rr, gg) → gx_M dn yX10_either cX10_either 3 (some .int) (fun al => [.ref (al (40))]) g (some (.int rr)) gg) : ∀ (n : Nat) (x1 : Int32) (g : Mm), m_X10_product_5 C n x1 g = some (r2, g2) → gx_G p l e R s m args below meth c (gx_Q below args s D al cI cJ A (some (.int r2)) g2) D al cI cJ A 4 0 0 5 [(0, .ref (al (40))), (1, .int (x1))] [] g := by
  intro n
  induction n with
  | zero => intro x1 g h; cases h
  | succ n ih =>
    intro x1 g h
    rw [m_X10_product_5] at h
    refine gx_aload_n X 0 rfl dX10_product_5 ?_
    refine gx_getf X (40) lf_X10_175 (by decide) (cl_40 _ _) (v := .int ((rdI g 40 21))) rfl dX10_product_6 ?_
    refine gx_if_ne X 98 dX10_product_9 (by decide) (fun q1 => ?_) (fun q1 => ?_)
    · replace h := (if_neg q1).symm.trans h
      refine gx_iload_n X 1 rfl dX10_product_98 ?_
      obtain ⟨rfl, rfl⟩ := ret_eq h
      exact gx_iret X rfl dX10_product_99
    · replace h := (if_pos q1).symm.trans h
      refine gx_aload_n X 0 rfl dX10_product_12 ?_
      obtain ⟨ra2, ga3, ca4, h⟩ := bdd_eq h
      refine gx_callVi X (40) (c_X10_at ca4) lc_X10_at li_X10_at lm_X10_149 (by decide) (cl_40 _ _) rfl rfl rfl (Nat.le_trans (by decide) hd) rfl (Nat.le_of_ble_eq_true rfl) dX10_product_13 ?_
      refine gx_bipush X (v := (42 : Int32)) dX10_product_16 (by decide) ?_
      refine gx_icmp_eq X 39 dX10_product_18 (by decide) (fun q5 => ?_) (fun q5 => ?_)
      · replace h := (if_pos q5).symm.trans h
        exact gx_sub [0, 1] rfl (t_X10_product_39 X hd hdn hC0 hC1 hC2 hC3 hC4 hC5 (fun u0 g h => ih u0 g h) x1 ga3 h)
      · replace h := (if_neg q5).symm.trans h
        refine gx_aload_n X 0 rfl dX10_product_21 ?_
        obtain ⟨ra6, ga7, ca8, h⟩ := bdd_eq h
        refine gx_callVi X (40) (c_X10_at ca8) lc_X10_at li_X10_at lm_X10_149 (by decide) (cl_40 _ _) rfl rfl rfl (Nat.le_trans (by decide) hd) rfl (Nat.le_of_ble_eq_true rfl) dX10_product_22 ?_
        refine gx_bipush X (v := (47 : Int32)) dX10_product_25 (by decide) ?_
        refine gx_icmp_eq X 39 dX10_product_27 (by decide) (fun q9 => ?_) (fun q9 => ?_)
        · replace h := (if_pos q9).symm.trans h
          exact gx_sub [0, 1] rfl (t_X10_product_39 X hd hdn hC0 hC1 hC2 hC3 hC4 hC5 (fun u0 g h => ih u0 g h) x1 ga7 h)
        · replace h := (if_neg q9).symm.trans h
          refine gx_aload_n X 0 rfl dX10_product_30 ?_
          obtain ⟨ra10, ga11, ca12, h⟩ := bdd_eq h
          refine gx_callVi X (40) (c_X10_at ca12) lc_X10_at li_X10_at lm_X10_149 (by decide) (cl_40 _ _) rfl rfl rfl (Nat.le_trans (by decide) hd) rfl (Nat.le_of_ble_eq_true rfl) dX10_product_31 ?_
          refine gx_bipush X (v := (37 : Int32)) dX10_product_34 (by decide) ?_
          refine gx_icmp_ne X 98 dX10_product_36 (by decide) (fun q13 => ?_) (fun q13 => ?_)
          · replace h := (if_neg q13).symm.trans h
            refine gx_iload_n X 1 rfl dX10_product_98 ?_
            obtain ⟨rfl, rfl⟩ := ret_eq h
            exact gx_iret X rfl dX10_product_99
          · replace h := (if_pos q13).symm.trans h
            exact gx_sub [0, 1] rfl (t_X10_product_39 X hd hdn hC0 hC1 hC2 hC3 hC4 hC5 (fun u0 g h => ih u0 g h) x1 ga11 h)
def m_X10_product (C : Nat → Int32 → Int32 → Int32 → Int32 → Mm → Option (Int32 × Mm)) (g : Mm) : Option (Int32 × Mm) := bdd (C 0 (0 : Int32) (0 : Int32) (0 : Int32) (0 : Int32) g) (fun ra1 ga2 => m_X10_product_5 C fuL ra1 ga2)
set_option maxHeartbeats 2000000 in
theorem b_X10_product {d : Nat} {r2 : Int32} {g g2 : Mm} (hd : 3 ≤ d) {dn : Nat} {C : Nat → Int32 → Int32 → Int32 → Int32 → Mm → Option (Int32 × Mm)} (hdn : dn + 1 ≤ d) (hC0 : ∀ (b0 b1 b2 b3 : Int32) (g : Mm) (rr : Int32) (gg : Mm), C 0 b0 b1 b2 b3 g = some (rr, gg) → gx_M dn yX10_atom cX10_atom 3 (some .int) (fun al => [.ref (al (40))]) g (some (.int rr)) gg) (hC1 : ∀ (b0 b1 b2 b3 : Int32) (g : Mm) (rr : Int32) (gg : Mm), C 1 b0 b1 b2 b3 g = some (rr, gg) → gx_M dn yX10_product cX10_product 4 (some .int) (fun al => [.ref (al (40))]) g (some (.int rr)) gg) (hC2 : ∀ (b0 b1 b2 b3 : Int32) (g : Mm) (rr : Int32) (gg : Mm), C 2 b0 b1 b2 b3 g = some (rr, gg) → gx_M dn yX10_added cX10_added 4 (some .int) (fun al => [.ref (al (40))]) g (some (.int rr)) gg) (hC3 : ∀ (b0 b1 b2 b3 : Int32) (g : Mm) (rr : Int32) (gg : Mm), C 3 b0 b1 b2 b3 g = some (rr, gg) → gx_M dn yX10_compared cX10_compared 4 (some .int) (fun al => [.ref (al (40))]) g (some (.int rr)) gg) (hC4 : ∀ (b0 b1 b2 b3 : Int32) (g : Mm) (rr : Int32) (gg : Mm), C 4 b0 b1 b2 b3 g = some (rr, gg) → gx_M dn yX10_both cX10_both 3 (some .int) (fun al => [.ref (al (40))]) g (some (.int rr)) gg) (hC5 : ∀ (b0 b1 b2 b3 : Int32) (g : Mm) (rr : Int32) (gg : Mm), C 5 b0 b1 b2 b3 g = some (rr, gg) → gx_M dn yX10_either cX10_either 3 (some .int) (fun al => [.ref (al (40))]) g (some (.int rr)) gg) (h : m_X10_product C g = some (r2, g2)) : gx_M d yX10_product cX10_product 4 (some .int) (fun al => [.ref (al (40))]) g (some (.int r2)) g2 := by
  refine gx_M.of (by decide +kernel) (fun _ => Nat.le_of_ble_eq_true rfl) ?_
  intro p l e R s m args below meth c D al cI cJ A X
  refine gx_eq (pc' := 0) (ls' := [(0, .ref (al (40)))]) (st' := []) (g' := g) ⟨rfl, rfl, rfl, rfl⟩ ?_
  unfold m_X10_product at h
  refine gx_aload_n X 0 rfl dX10_product_0 ?_
  obtain ⟨ra1, ga2, ca3, h⟩ := bdd_eq h
  refine gx_callVi X (40) (hC0 _ _ _ _ _ _ _ ca3) lc_X10_atom li_X10_atom lm_X10_184 (by decide) (cl_40 _ _) rfl rfl rfl hdn rfl (Nat.le_of_ble_eq_true rfl) dX10_product_1 ?_
  refine gx_istore_n X [(1, .int (ra1)), (0, .ref (al (40)))] dX10_product_4 (by decide) rfl ?_
  exact gx_sub [1, 0] rfl (t_X10_product_5 X hd hdn hC0 hC1 hC2 hC3 hC4 hC5 fuL ra1 ga2 h)
theorem dX10_added_0 : decode cX10_added 0 = .ok (.aload_n 0, 1) := by decide +kernel
theorem dX10_added_1 : decode cX10_added 1 = .ok (.invokevirtual 197, 3) := by decide +kernel
theorem dX10_added_4 : decode cX10_added 4 = .ok (.istore_n 1, 1) := by decide +kernel
theorem dX10_added_5 : decode cX10_added 5 = .ok (.aload_n 0, 1) := by decide +kernel
theorem dX10_added_6 : decode cX10_added 6 = .ok (.getfield 175, 3) := by decide +kernel
theorem dX10_added_9 : decode cX10_added 9 = .ok (.ifCond .ne 60, 3) := by decide +kernel
theorem dX10_added_12 : decode cX10_added 12 = .ok (.aload_n 0, 1) := by decide +kernel
theorem dX10_added_13 : decode cX10_added 13 = .ok (.invokevirtual 149, 3) := by decide +kernel
theorem dX10_added_16 : decode cX10_added 16 = .ok (.bipush 43, 2) := by decide +kernel
theorem dX10_added_18 : decode cX10_added 18 = .ok (.if_icmp .eq 12, 3) := by decide +kernel
theorem dX10_added_21 : decode cX10_added 21 = .ok (.aload_n 0, 1) := by decide +kernel
theorem dX10_added_22 : decode cX10_added 22 = .ok (.invokevirtual 149, 3) := by decide +kernel
theorem dX10_added_25 : decode cX10_added 25 = .ok (.bipush 45, 2) := by decide +kernel
theorem dX10_added_27 : decode cX10_added 27 = .ok (.if_icmp .ne 42, 3) := by decide +kernel
theorem dX10_added_30 : decode cX10_added 30 = .ok (.aload_n 0, 1) := by decide +kernel
theorem dX10_added_31 : decode cX10_added 31 = .ok (.invokevirtual 149, 3) := by decide +kernel
theorem dX10_added_34 : decode cX10_added 34 = .ok (.istore_n 2, 1) := by decide +kernel
theorem dX10_added_35 : decode cX10_added 35 = .ok (.aload_n 0, 1) := by decide +kernel
theorem dX10_added_36 : decode cX10_added 36 = .ok (.dup, 1) := by decide +kernel
theorem dX10_added_37 : decode cX10_added 37 = .ok (.getfield 139, 3) := by decide +kernel
theorem dX10_added_40 : decode cX10_added 40 = .ok (.iconst 1, 1) := by decide +kernel
theorem dX10_added_41 : decode cX10_added 41 = .ok (.iadd, 1) := by decide +kernel
theorem dX10_added_42 : decode cX10_added 42 = .ok (.putfield 139, 3) := by decide +kernel
theorem dX10_added_45 : decode cX10_added 45 = .ok (.aload_n 0, 1) := by decide +kernel
theorem dX10_added_46 : decode cX10_added 46 = .ok (.invokevirtual 197, 3) := by decide +kernel
theorem dX10_added_49 : decode cX10_added 49 = .ok (.istore_n 3, 1) := by decide +kernel
theorem dX10_added_50 : decode cX10_added 50 = .ok (.iload_n 2, 1) := by decide +kernel
theorem dX10_added_51 : decode cX10_added 51 = .ok (.bipush 43, 2) := by decide +kernel
theorem dX10_added_53 : decode cX10_added 53 = .ok (.if_icmp .ne 9, 3) := by decide +kernel
theorem dX10_added_56 : decode cX10_added 56 = .ok (.iload_n 1, 1) := by decide +kernel
theorem dX10_added_57 : decode cX10_added 57 = .ok (.iload_n 3, 1) := by decide +kernel
theorem dX10_added_58 : decode cX10_added 58 = .ok (.iadd, 1) := by decide +kernel
theorem dX10_added_59 : decode cX10_added 59 = .ok (.goto 6, 3) := by decide +kernel
theorem dX10_added_62 : decode cX10_added 62 = .ok (.iload_n 1, 1) := by decide +kernel
theorem dX10_added_63 : decode cX10_added 63 = .ok (.iload_n 3, 1) := by decide +kernel
theorem dX10_added_64 : decode cX10_added 64 = .ok (.isub, 1) := by decide +kernel
theorem dX10_added_65 : decode cX10_added 65 = .ok (.istore_n 1, 1) := by decide +kernel
theorem dX10_added_66 : decode cX10_added 66 = .ok (.goto (-61), 3) := by decide +kernel
theorem dX10_added_69 : decode cX10_added 69 = .ok (.iload_n 1, 1) := by decide +kernel
theorem dX10_added_70 : decode cX10_added 70 = .ok (.ireturn, 1) := by decide +kernel
def m_X10_added_30 (C : Nat → Int32 → Int32 → Int32 → Int32 → Mm → Option (Int32 × Mm)) (K5 : Int32 → Mm → Option (Int32 × Mm)) (x1 : Int32) (g : Mm) : Option (Int32 × Mm) := bdd (m_X10_at  g) (fun ra1 ga2 => bdd (C 1 (0 : Int32) (0 : Int32) (0 : Int32) (0 : Int32) (wrI ga2 40 20 ((rdI ga2 40 20) + (1 : Int32)))) (fun ra4 ga5 => (if ra1 = (43 : Int32) then K5 (x1 + ra4) ga5 else K5 (x1 - ra4) ga5)))
set_option maxHeartbeats 2000000 in
theorem t_X10_added_30 {r2 : Int32} {g2 : Mm} (X : gx_X p R s m args meth c D al cI cJ A RX10 cX10_added 4 (some .int) d 0 0) (hd : 3 ≤ d) {dn : Nat} {C : Nat → Int32 → Int32 → Int32 → Int32 → Mm → Option (Int32 × Mm)} (hdn : dn + 1 ≤ d) (hC0 : ∀ (b0 b1 b2 b3 : Int32) (g : Mm) (rr : Int32) (gg : Mm), C 0 b0 b1 b2 b3 g = some (rr, gg) → gx_M dn yX10_atom cX10_atom 3 (some .int) (fun al => [.ref (al (40))]) g (some (.int rr)) gg) (hC1 : ∀ (b0 b1 b2 b3 : Int32) (g : Mm) (rr : Int32) (gg : Mm), C 1 b0 b1 b2 b3 g = some (rr, gg) → gx_M dn yX10_product cX10_product 4 (some .int) (fun al => [.ref (al (40))]) g (some (.int rr)) gg) (hC2 : ∀ (b0 b1 b2 b3 : Int32) (g : Mm) (rr : Int32) (gg : Mm), C 2 b0 b1 b2 b3 g = some (rr, gg) → gx_M dn yX10_added cX10_added 4 (some .int) (fun al => [.ref (al (40))]) g (some (.int rr)) gg) (hC3 : ∀ (b0 b1 b2 b3 : Int32) (g : Mm) (rr : Int32) (gg : Mm), C 3 b0 b1 b2 b3 g = some (rr, gg) → gx_M dn yX10_compared cX10_compared 4 (some .int) (fun al => [.ref (al (40))]) g (some (.int rr)) gg) (hC4 : ∀ (b0 b1 b2 b3 : Int32) (g : Mm) (rr : Int32) (gg : Mm), C 4 b0 b1 b2 b3 g = some (rr, gg) → gx_M dn yX10_both cX10_both 3 (some .int) (fun al => [.ref (al (40))]) g (some (.int rr)) gg) (hC5 : ∀ (b0 b1 b2 b3 : Int32) (g : Mm) (rr : Int32) (gg : Mm), C 5 b0 b1 b2 b3 g = some (rr, gg) → gx_M dn yX10_either cX10_either 3 (some .int) (fun al => [.ref (al (40))]) g (some (.int rr)) gg) {K5 : Int32 → Mm → Option (Int32 × Mm)} (hK5 : ∀ (u0 : Int32) (g : Mm), K5 u0 g = some (r2, g2) → gx_G p l e R s m args below meth c (gx_Q below args s D al cI cJ A (some (.int r2)) g2) D al cI cJ A 4 0 0 5 [(0, .ref (al (40))), (1, .int (u0))] [] g) : ∀ (x1 : Int32) (g : Mm), m_X10_added_30 C K5 x1 g = some (r2, g2) → gx_G p l e R s m args below meth c (gx_Q below args s D al cI cJ A (some (.int r2)) g2) D al cI cJ A 4 0 0 30 [(0, .ref (al (40))), (1, .int (x1))] [] g := by
  intro x1 g h
  unfold m_X10_added_30 at h
  refine gx_aload_n X 0 rfl dX10_added_30 ?_
  obtain ⟨ra1, ga2, ca3, h⟩ := bdd_eq h
  refine gx_callVi X (40) (c_X10_at ca3) lc_X10_at li_X10_at lm_X10_149 (by decide) (cl_40 _ _) rfl rfl rfl (Nat.le_trans (by decide) hd) rfl (Nat.le_of_ble_eq_true rfl) dX10_added_31 ?_
  refine gx_istore_n X [(2, .int (ra1)), (0, .ref (al (40))), (1, .int (x1))] dX10_added_34 (by decide) rfl ?_
  refine gx_aload_n X 1 rfl dX10_added_35 ?_
  refine gx_dup X dX10_added_36 rfl ?_
  refine gx_getf X (40) lf_X10_139 (by decide) (cl_40 _ _) (v := .int ((rdI ga2 40 20))) rfl dX10_added_37 ?_
  refine gx_iconst X (v := (1 : Int32)) dX10_added_40 (by decide) ?_
  refine gx_iadd X dX10_added_41 ?_
  refine gx_putf X (40) ((rdI ga2 40 20) + (1 : Int32)) lf_X10_139 lp_X10_20 (by decide) (cl_40 _ _) (Nat.le_of_ble_eq_true rfl) rfl rfl rfl dX10_added_42 ?_
  refine gx_aload_n X 1 rfl dX10_added_45 ?_
  obtain ⟨ra4, ga5, ca6, h⟩ := bdd_eq h
  refine gx_callVi X (40) (hC1 _ _ _ _ _ _ _ ca6) lc_X10_product li_X10_product lm_X10_197 (by decide) (cl_40 _ _) rfl rfl rfl hdn rfl (Nat.le_of_ble_eq_true rfl) dX10_added_46 ?_
  refine gx_istore_n X [(3, .int (ra4)), (2, .int (ra1)), (0, .ref (al (40))), (1, .int (x1))] dX10_added_49 (by decide) rfl ?_
  refine gx_iload_n X 1 rfl dX10_added_50 ?_
  refine gx_bipush X (v := (43 : Int32)) dX10_added_51 (by decide) ?_
  refine gx_icmp_ne X 62 dX10_added_53 (by decide) (fun q7 => ?_) (fun q7 => ?_)
  · replace h := (if_neg q7).symm.trans h
    refine gx_iload_n X 3 rfl dX10_added_62 ?_
    refine gx_iload_n X 0 rfl dX10_added_63 ?_
    refine gx_isub X dX10_added_64 ?_
    refine gx_istore_n X [(1, .int ((x1 - ra4))), (3, .int (ra4)), (2, .int (ra1)), (0, .ref (al (40)))] dX10_added_65 (by decide) rfl ?_
    refine gx_goto X 5 dX10_added_66 (by decide) ?_
    exact gx_sub [3, 0] rfl (hK5 (x1 - ra4) ga5 h)
  · replace h := (if_pos q7).symm.trans h
    refine gx_iload_n X 3 rfl dX10_added_56 ?_
    refine gx_iload_n X 0 rfl dX10_added_57 ?_
    refine gx_iadd X dX10_added_58 ?_
    refine gx_goto X 65 dX10_added_59 (by decide) ?_
    refine gx_istore_n X [(1, .int ((x1 + ra4))), (3, .int (ra4)), (2, .int (ra1)), (0, .ref (al (40)))] dX10_added_65 (by decide) rfl ?_
    refine gx_goto X 5 dX10_added_66 (by decide) ?_
    exact gx_sub [3, 0] rfl (hK5 (x1 + ra4) ga5 h)
def m_X10_added_5 (C : Nat → Int32 → Int32 → Int32 → Int32 → Mm → Option (Int32 × Mm)) : Nat → Int32 → Mm → Option (Int32 × Mm)
  | 0, _, _ => none
  | n + 1, x1, g => (if (rdI g 40 21) = (0 : Int32) then bdd (m_X10_at  g) (fun ra2 ga3 => (if ra2 = (43 : Int32) then m_X10_added_30 C (m_X10_added_5 C n) x1 ga3 else bdd (m_X10_at  ga3) (fun ra6 ga7 => (if ra6 = (45 : Int32) then m_X10_added_30 C (m_X10_added_5 C n) x1 ga7 else some (x1, ga7))))) else some (x1, g))
set_option maxHeartbeats 2000000 in
theorem t_X10_added_5 {r2 : Int32} {g2 : Mm} (X : gx_X p R s m args meth c D al cI cJ A RX10 cX10_added 4 (some .int) d 0 0) (hd : 3 ≤ d) {dn : Nat} {C : Nat → Int32 → Int32 → Int32 → Int32 → Mm → Option (Int32 × Mm)} (hdn : dn + 1 ≤ d) (hC0 : ∀ (b0 b1 b2 b3 : Int32) (g : Mm) (rr : Int32) (gg : Mm), C 0 b0 b1 b2 b3 g = some (rr, gg) → gx_M dn yX10_atom cX10_atom 3 (some .int) (fun al => [.ref (al (40))]) g (some (.int rr)) gg) (hC1 : ∀ (b0 b1 b2 b3 : Int32) (g : Mm) (rr : Int32) (gg : Mm), C 1 b0 b1 b2 b3 g = some (rr, gg) → gx_M dn yX10_product cX10_product 4 (some .int) (fun al => [.ref (al (40))]) g (some (.int rr)) gg) (hC2 : ∀ (b0 b1 b2 b3 : Int32) (g : Mm) (rr : Int32) (gg : Mm), C 2 b0 b1 b2 b3 g = some (rr, gg) → gx_M dn yX10_added cX10_added 4 (some .int) (fun al => [.ref (al (40))]) g (some (.int rr)) gg) (hC3 : ∀ (b0 b1 b2 b3 : Int32) (g : Mm) (rr : Int32) (gg : Mm), C 3 b0 b1 b2 b3 g = some (rr, gg) → gx_M dn yX10_compared cX10_compared 4 (some .int) (fun al => [.ref (al (40))]) g (some (.int rr)) gg) (hC4 : ∀ (b0 b1 b2 b3 : Int32) (g : Mm) (rr : Int32) (gg : Mm), C 4 b0 b1 b2 b3 g = some (rr, gg) → gx_M dn yX10_both cX10_both 3 (some .int) (fun al => [.ref (al (40))]) g (some (.int rr)) gg) (hC5 : ∀ (b0 b1 b2 b3 : Int32) (g : Mm) (rr : Int32) (gg : Mm), C 5 b0 b1 b2 b3 g = some (rr, gg) → gx_M dn yX10_either cX10_either 3 (some .int) (fun al => [.ref (al (40))]) g (some (.int rr)) gg) : ∀ (n : Nat) (x1 : Int32) (g : Mm), m_X10_added_5 C n x1 g = some (r2, g2) → gx_G p l e R s m args below meth c (gx_Q below args s D al cI cJ A (some (.int r2)) g2) D al cI cJ A 4 0 0 5 [(0, .ref (al (40))), (1, .int (x1))] [] g := by
  intro n
  induction n with
  | zero => intro x1 g h; cases h
  | succ n ih =>
    intro x1 g h
    rw [m_X10_added_5] at h
    refine gx_aload_n X 0 rfl dX10_added_5 ?_
    refine gx_getf X (40) lf_X10_175 (by decide) (cl_40 _ _) (v := .int ((rdI g 40 21))) rfl dX10_added_6 ?_
    refine gx_if_ne X 69 dX10_added_9 (by decide) (fun q1 => ?_) (fun q1 => ?_)
    · replace h := (if_neg q1).symm.trans h
      refine gx_iload_n X 1 rfl dX10_added_69 ?_
      obtain ⟨rfl, rfl⟩ := ret_eq h
      exact gx_iret X rfl dX10_added_70
    · replace h := (if_pos q1).symm.trans h
      refine gx_aload_n X 0 rfl dX10_added_12 ?_
      obtain ⟨ra2, ga3, ca4, h⟩ := bdd_eq h
      refine gx_callVi X (40) (c_X10_at ca4) lc_X10_at li_X10_at lm_X10_149 (by decide) (cl_40 _ _) rfl rfl rfl (Nat.le_trans (by decide) hd) rfl (Nat.le_of_ble_eq_true rfl) dX10_added_13 ?_
      refine gx_bipush X (v := (43 : Int32)) dX10_added_16 (by decide) ?_
      refine gx_icmp_eq X 30 dX10_added_18 (by decide) (fun q5 => ?_) (fun q5 => ?_)
      · replace h := (if_pos q5).symm.trans h
        exact gx_sub [0, 1] rfl (t_X10_added_30 X hd hdn hC0 hC1 hC2 hC3 hC4 hC5 (fun u0 g h => ih u0 g h) x1 ga3 h)
      · replace h := (if_neg q5).symm.trans h
        refine gx_aload_n X 0 rfl dX10_added_21 ?_
        obtain ⟨ra6, ga7, ca8, h⟩ := bdd_eq h
        refine gx_callVi X (40) (c_X10_at ca8) lc_X10_at li_X10_at lm_X10_149 (by decide) (cl_40 _ _) rfl rfl rfl (Nat.le_trans (by decide) hd) rfl (Nat.le_of_ble_eq_true rfl) dX10_added_22 ?_
        refine gx_bipush X (v := (45 : Int32)) dX10_added_25 (by decide) ?_
        refine gx_icmp_ne X 69 dX10_added_27 (by decide) (fun q9 => ?_) (fun q9 => ?_)
        · replace h := (if_neg q9).symm.trans h
          refine gx_iload_n X 1 rfl dX10_added_69 ?_
          obtain ⟨rfl, rfl⟩ := ret_eq h
          exact gx_iret X rfl dX10_added_70
        · replace h := (if_pos q9).symm.trans h
          exact gx_sub [0, 1] rfl (t_X10_added_30 X hd hdn hC0 hC1 hC2 hC3 hC4 hC5 (fun u0 g h => ih u0 g h) x1 ga7 h)
def m_X10_added (C : Nat → Int32 → Int32 → Int32 → Int32 → Mm → Option (Int32 × Mm)) (g : Mm) : Option (Int32 × Mm) := bdd (C 1 (0 : Int32) (0 : Int32) (0 : Int32) (0 : Int32) g) (fun ra1 ga2 => m_X10_added_5 C fuL ra1 ga2)
set_option maxHeartbeats 2000000 in
theorem b_X10_added {d : Nat} {r2 : Int32} {g g2 : Mm} (hd : 3 ≤ d) {dn : Nat} {C : Nat → Int32 → Int32 → Int32 → Int32 → Mm → Option (Int32 × Mm)} (hdn : dn + 1 ≤ d) (hC0 : ∀ (b0 b1 b2 b3 : Int32) (g : Mm) (rr : Int32) (gg : Mm), C 0 b0 b1 b2 b3 g = some (rr, gg) → gx_M dn yX10_atom cX10_atom 3 (some .int) (fun al => [.ref (al (40))]) g (some (.int rr)) gg) (hC1 : ∀ (b0 b1 b2 b3 : Int32) (g : Mm) (rr : Int32) (gg : Mm), C 1 b0 b1 b2 b3 g = some (rr, gg) → gx_M dn yX10_product cX10_product 4 (some .int) (fun al => [.ref (al (40))]) g (some (.int rr)) gg) (hC2 : ∀ (b0 b1 b2 b3 : Int32) (g : Mm) (rr : Int32) (gg : Mm), C 2 b0 b1 b2 b3 g = some (rr, gg) → gx_M dn yX10_added cX10_added 4 (some .int) (fun al => [.ref (al (40))]) g (some (.int rr)) gg) (hC3 : ∀ (b0 b1 b2 b3 : Int32) (g : Mm) (rr : Int32) (gg : Mm), C 3 b0 b1 b2 b3 g = some (rr, gg) → gx_M dn yX10_compared cX10_compared 4 (some .int) (fun al => [.ref (al (40))]) g (some (.int rr)) gg) (hC4 : ∀ (b0 b1 b2 b3 : Int32) (g : Mm) (rr : Int32) (gg : Mm), C 4 b0 b1 b2 b3 g = some (rr, gg) → gx_M dn yX10_both cX10_both 3 (some .int) (fun al => [.ref (al (40))]) g (some (.int rr)) gg) (hC5 : ∀ (b0 b1 b2 b3 : Int32) (g : Mm) (rr : Int32) (gg : Mm), C 5 b0 b1 b2 b3 g = some (rr, gg) → gx_M dn yX10_either cX10_either 3 (some .int) (fun al => [.ref (al (40))]) g (some (.int rr)) gg) (h : m_X10_added C g = some (r2, g2)) : gx_M d yX10_added cX10_added 4 (some .int) (fun al => [.ref (al (40))]) g (some (.int r2)) g2 := by
  refine gx_M.of (by decide +kernel) (fun _ => Nat.le_of_ble_eq_true rfl) ?_
  intro p l e R s m args below meth c D al cI cJ A X
  refine gx_eq (pc' := 0) (ls' := [(0, .ref (al (40)))]) (st' := []) (g' := g) ⟨rfl, rfl, rfl, rfl⟩ ?_
  unfold m_X10_added at h
  refine gx_aload_n X 0 rfl dX10_added_0 ?_
  obtain ⟨ra1, ga2, ca3, h⟩ := bdd_eq h
  refine gx_callVi X (40) (hC1 _ _ _ _ _ _ _ ca3) lc_X10_product li_X10_product lm_X10_197 (by decide) (cl_40 _ _) rfl rfl rfl hdn rfl (Nat.le_of_ble_eq_true rfl) dX10_added_1 ?_
  refine gx_istore_n X [(1, .int (ra1)), (0, .ref (al (40)))] dX10_added_4 (by decide) rfl ?_
  exact gx_sub [1, 0] rfl (t_X10_added_5 X hd hdn hC0 hC1 hC2 hC3 hC4 hC5 fuL ra1 ga2 h)
theorem dX10_compared_0 : decode cX10_compared 0 = .ok (.aload_n 0, 1) := by decide +kernel
theorem dX10_compared_1 : decode cX10_compared 1 = .ok (.invokevirtual 200, 3) := by decide +kernel
theorem dX10_compared_4 : decode cX10_compared 4 = .ok (.istore_n 1, 1) := by decide +kernel
theorem dX10_compared_5 : decode cX10_compared 5 = .ok (.aload_n 0, 1) := by decide +kernel
theorem dX10_compared_6 : decode cX10_compared 6 = .ok (.getfield 175, 3) := by decide +kernel
theorem dX10_compared_9 : decode cX10_compared 9 = .ok (.ifCond .ne 30, 3) := by decide +kernel
theorem dX10_compared_12 : decode cX10_compared 12 = .ok (.aload_n 0, 1) := by decide +kernel
theorem dX10_compared_13 : decode cX10_compared 13 = .ok (.invokevirtual 149, 3) := by decide +kernel
theorem dX10_compared_16 : decode cX10_compared 16 = .ok (.bipush 60, 2) := by decide +kernel
theorem dX10_compared_18 : decode cX10_compared 18 = .ok (.if_icmp .eq 23, 3) := by decide +kernel
theorem dX10_compared_21 : decode cX10_compared 21 = .ok (.aload_n 0, 1) := by decide +kernel
theorem dX10_compared_22 : decode cX10_compared 22 = .ok (.invokevirtual 149, 3) := by decide +kernel
theorem dX10_compared_25 : decode cX10_compared 25 = .ok (.bipush 61, 2) := by decide +kernel
theorem dX10_compared_27 : decode cX10_compared 27 = .ok (.if_icmp .eq 14, 3) := by decide +kernel
theorem dX10_compared_30 : decode cX10_compared 30 = .ok (.aload_n 0, 1) := by decide +kernel
theorem dX10_compared_31 : decode cX10_compared 31 = .ok (.invokevirtual 149, 3) := by decide +kernel
theorem dX10_compared_34 : decode cX10_compared 34 = .ok (.bipush 62, 2) := by decide +kernel
theorem dX10_compared_36 : decode cX10_compared 36 = .ok (.if_icmp .eq 5, 3) := by decide +kernel
theorem dX10_compared_39 : decode cX10_compared 39 = .ok (.iload_n 1, 1) := by decide +kernel
theorem dX10_compared_40 : decode cX10_compared 40 = .ok (.ireturn, 1) := by decide +kernel
theorem dX10_compared_41 : decode cX10_compared 41 = .ok (.aload_n 0, 1) := by decide +kernel
theorem dX10_compared_42 : decode cX10_compared 42 = .ok (.invokevirtual 149, 3) := by decide +kernel
theorem dX10_compared_45 : decode cX10_compared 45 = .ok (.istore_n 2, 1) := by decide +kernel
theorem dX10_compared_46 : decode cX10_compared 46 = .ok (.aload_n 0, 1) := by decide +kernel
theorem dX10_compared_47 : decode cX10_compared 47 = .ok (.dup, 1) := by decide +kernel
theorem dX10_compared_48 : decode cX10_compared 48 = .ok (.getfield 139, 3) := by decide +kernel
theorem dX10_compared_51 : decode cX10_compared 51 = .ok (.iconst 1, 1) := by decide +kernel
theorem dX10_compared_52 : decode cX10_compared 52 = .ok (.iadd, 1) := by decide +kernel
theorem dX10_compared_53 : decode cX10_compared 53 = .ok (.putfield 139, 3) := by decide +kernel
theorem dX10_compared_56 : decode cX10_compared 56 = .ok (.aload_n 0, 1) := by decide +kernel
theorem dX10_compared_57 : decode cX10_compared 57 = .ok (.invokevirtual 200, 3) := by decide +kernel
theorem dX10_compared_60 : decode cX10_compared 60 = .ok (.istore_n 3, 1) := by decide +kernel
theorem dX10_compared_61 : decode cX10_compared 61 = .ok (.iload_n 2, 1) := by decide +kernel
theorem dX10_compared_62 : decode cX10_compared 62 = .ok (.bipush 60, 2) := by decide +kernel
theorem dX10_compared_64 : decode cX10_compared 64 = .ok (.if_icmp .ne 11, 3) := by decide +kernel
theorem dX10_compared_67 : decode cX10_compared 67 = .ok (.iload_n 1, 1) := by decide +kernel
theorem dX10_compared_68 : decode cX10_compared 68 = .ok (.iload_n 3, 1) := by decide +kernel
theorem dX10_compared_69 : decode cX10_compared 69 = .ok (.if_icmp .ge 29, 3) := by decide +kernel
theorem dX10_compared_72 : decode cX10_compared 72 = .ok (.goto 22, 3) := by decide +kernel
theorem dX10_compared_75 : decode cX10_compared 75 = .ok (.iload_n 2, 1) := by decide +kernel
theorem dX10_compared_76 : decode cX10_compared 76 = .ok (.bipush 61, 2) := by decide +kernel
theorem dX10_compared_78 : decode cX10_compared 78 = .ok (.if_icmp .ne 11, 3) := by decide +kernel
theorem dX10_compared_81 : decode cX10_compared 81 = .ok (.iload_n 1, 1) := by decide +kernel
theorem dX10_compared_82 : decode cX10_compared 82 = .ok (.iload_n 3, 1) := by decide +kernel
theorem dX10_compared_83 : decode cX10_compared 83 = .ok (.if_icmp .ne 15, 3) := by decide +kernel
theorem dX10_compared_86 : decode cX10_compared 86 = .ok (.goto 8, 3) := by decide +kernel
theorem dX10_compared_89 : decode cX10_compared 89 = .ok (.iload_n 1, 1) := by decide +kernel
theorem dX10_compared_90 : decode cX10_compared 90 = .ok (.iload_n 3, 1) := by decide +kernel
theorem dX10_compared_91 : decode cX10_compared 91 = .ok (.if_icmp .le 7, 3) := by decide +kernel
theorem dX10_compared_94 : decode cX10_compared 94 = .ok (.iconst 1, 1) := by decide +kernel
theorem dX10_compared_95 : decode cX10_compared 95 = .ok (.goto 4, 3) := by decide +kernel
theorem dX10_compared_98 : decode cX10_compared 98 = .ok (.iconst 0, 1) := by decide +kernel
theorem dX10_compared_99 : decode cX10_compared 99 = .ok (.ireturn, 1) := by decide +kernel
def m_X10_compared_41 (C : Nat → Int32 → Int32 → Int32 → Int32 → Mm → Option (Int32 × Mm)) (x1 : Int32) (g : Mm) : Option (Int32 × Mm) := bdd (m_X10_at  g) (fun ra1 ga2 => bdd (C 2 (0 : Int32) (0 : Int32) (0 : Int32) (0 : Int32) (wrI ga2 40 20 ((rdI ga2 40 20) + (1 : Int32)))) (fun ra4 ga5 => (if ra1 = (60 : Int32) then (if ra4 ≤ x1 then some ((0 : Int32), ga5) else some ((1 : Int32), ga5)) else (if ra1 = (61 : Int32) then (if x1 = ra4 then some ((1 : Int32), ga5) else some ((0 : Int32), ga5)) else (if x1 ≤ ra4 then some ((0 : Int32), ga5) else some ((1 : Int32), ga5))))))
set_option maxHeartbeats 2000000 in
theorem t_X10_compared_41 {r2 : Int32} {g2 : Mm} (X : gx_X p R s m args meth c D al cI cJ A RX10 cX10_compared 4 (some .int) d 0 0) (hd : 3 ≤ d) {dn : Nat} {C : Nat → Int32 → Int32 → Int32 → Int32 → Mm → Option (Int32 × Mm)} (hdn : dn + 1 ≤ d) (hC0 : ∀ (b0 b1 b2 b3 : Int32) (g : Mm) (rr : Int32) (gg : Mm), C 0 b0 b1 b2 b3 g = some (rr, gg) → gx_M dn yX10_atom cX10_atom 3 (some .int) (fun al => [.ref (al (40))]) g (some (.int rr)) gg) (hC1 : ∀ (b0 b1 b2 b3 : Int32) (g : Mm) (rr : Int32) (gg : Mm), C 1 b0 b1 b2 b3 g = some (rr, gg) → gx_M dn yX10_product cX10_product 4 (some .int) (fun al => [.ref (al (40))]) g (some (.int rr)) gg) (hC2 : ∀ (b0 b1 b2 b3 : Int32) (g : Mm) (rr : Int32) (gg : Mm), C 2 b0 b1 b2 b3 g = some (rr, gg) → gx_M dn yX10_added cX10_added 4 (some .int) (fun al => [.ref (al (40))]) g (some (.int rr)) gg) (hC3 : ∀ (b0 b1 b2 b3 : Int32) (g : Mm) (rr : Int32) (gg : Mm), C 3 b0 b1 b2 b3 g = some (rr, gg) → gx_M dn yX10_compared cX10_compared 4 (some .int) (fun al => [.ref (al (40))]) g (some (.int rr)) gg) (hC4 : ∀ (b0 b1 b2 b3 : Int32) (g : Mm) (rr : Int32) (gg : Mm), C 4 b0 b1 b2 b3 g = some (rr, gg) → gx_M dn yX10_both cX10_both 3 (some .int) (fun al => [.ref (al (40))]) g (some (.int rr)) gg) (hC5 : ∀ (b0 b1 b2 b3 : Int32) (g : Mm) (rr : Int32) (gg : Mm), C 5 b0 b1 b2 b3 g = some (rr, gg) → gx_M dn yX10_either cX10_either 3 (some .int) (fun al => [.ref (al (40))]) g (some (.int rr)) gg) : ∀ (x1 : Int32) (g : Mm), m_X10_compared_41 C x1 g = some (r2, g2) → gx_G p l e R s m args below meth c (gx_Q below args s D al cI cJ A (some (.int r2)) g2) D al cI cJ A 4 0 0 41 [(0, .ref (al (40))), (1, .int (x1))] [] g := by
  intro x1 g h
  unfold m_X10_compared_41 at h
  refine gx_aload_n X 0 rfl dX10_compared_41 ?_
  obtain ⟨ra1, ga2, ca3, h⟩ := bdd_eq h
  refine gx_callVi X (40) (c_X10_at ca3) lc_X10_at li_X10_at lm_X10_149 (by decide) (cl_40 _ _) rfl rfl rfl (Nat.le_trans (by decide) hd) rfl (Nat.le_of_ble_eq_true rfl) dX10_compared_42 ?_
  refine gx_istore_n X [(2, .int (ra1)), (0, .ref (al (40))), (1, .int (x1))] dX10_compared_45 (by decide) rfl ?_
  refine gx_aload_n X 1 rfl dX10_compared_46 ?_
  refine gx_dup X dX10_compared_47 rfl ?_
  refine gx_getf X (40) lf_X10_139 (by decide) (cl_40 _ _) (v := .int ((rdI ga2 40 20))) rfl dX10_compared_48 ?_
  refine gx_iconst X (v := (1 : Int32)) dX10_compared_51 (by decide) ?_
  refine gx_iadd X dX10_compared_52 ?_
  refine gx_putf X (40) ((rdI ga2 40 20) + (1 : Int32)) lf_X10_139 lp_X10_20 (by decide) (cl_40 _ _) (Nat.le_of_ble_eq_true rfl) rfl rfl rfl dX10_compared_53 ?_
  refine gx_aload_n X 1 rfl dX10_compared_56 ?_
  obtain ⟨ra4, ga5, ca6, h⟩ := bdd_eq h
  refine gx_callVi X (40) (hC2 _ _ _ _ _ _ _ ca6) lc_X10_added li_X10_added lm_X10_200 (by decide) (cl_40 _ _) rfl rfl rfl hdn rfl (Nat.le_of_ble_eq_true rfl) dX10_compared_57 ?_
  refine gx_istore_n X [(3, .int (ra4)), (2, .int (ra1)), (0, .ref (al (40))), (1, .int (x1))] dX10_compared_60 (by decide) rfl ?_
  refine gx_iload_n X 1 rfl dX10_compared_61 ?_
  refine gx_bipush X (v := (60 : Int32)) dX10_compared_62 (by decide) ?_
  refine gx_icmp_ne X 75 dX10_compared_64 (by decide) (fun q7 => ?_) (fun q7 => ?_)
  · replace h := (if_neg q7).symm.trans h
    refine gx_iload_n X 1 rfl dX10_compared_75 ?_
    refine gx_bipush X (v := (61 : Int32)) dX10_compared_76 (by decide) ?_
    refine gx_icmp_ne X 89 dX10_compared_78 (by decide) (fun q8 => ?_) (fun q8 => ?_)
    · replace h := (if_neg q8).symm.trans h
      refine gx_iload_n X 3 rfl dX10_compared_89 ?_
      refine gx_iload_n X 0 rfl dX10_compared_90 ?_
      refine gx_icmp_le X 98 dX10_compared_91 (by decide) (fun q9 => ?_) (fun q9 => ?_)
      · replace h := (if_pos q9).symm.trans h
        refine gx_iconst X (v := (0 : Int32)) dX10_compared_98 (by decide) ?_
        obtain ⟨rfl, rfl⟩ := ret_eq h
        exact gx_iret X rfl dX10_compared_99
      · replace h := (if_neg q9).symm.trans h
        refine gx_iconst X (v := (1 : Int32)) dX10_compared_94 (by decide) ?_
        refine gx_goto X 99 dX10_compared_95 (by decide) ?_
        obtain ⟨rfl, rfl⟩ := ret_eq h
        exact gx_iret X rfl dX10_compared_99
    · replace h := (if_pos q8).symm.trans h
      refine gx_iload_n X 3 rfl dX10_compared_81 ?_
      refine gx_iload_n X 0 rfl dX10_compared_82 ?_
      refine gx_icmp_ne X 98 dX10_compared_83 (by decide) (fun q10 => ?_) (fun q10 => ?_)
      · replace h := (if_neg q10).symm.trans h
        refine gx_iconst X (v := (0 : Int32)) dX10_compared_98 (by decide) ?_
        obtain ⟨rfl, rfl⟩ := ret_eq h
        exact gx_iret X rfl dX10_compared_99
      · replace h := (if_pos q10).symm.trans h
        refine gx_goto X 94 dX10_compared_86 (by decide) ?_
        refine gx_iconst X (v := (1 : Int32)) dX10_compared_94 (by decide) ?_
        refine gx_goto X 99 dX10_compared_95 (by decide) ?_
        obtain ⟨rfl, rfl⟩ := ret_eq h
        exact gx_iret X rfl dX10_compared_99
  · replace h := (if_pos q7).symm.trans h
    refine gx_iload_n X 3 rfl dX10_compared_67 ?_
    refine gx_iload_n X 0 rfl dX10_compared_68 ?_
    refine gx_icmp_ge X 98 dX10_compared_69 (by decide) (fun q11 => ?_) (fun q11 => ?_)
    · replace h := (if_pos q11).symm.trans h
      refine gx_iconst X (v := (0 : Int32)) dX10_compared_98 (by decide) ?_
      obtain ⟨rfl, rfl⟩ := ret_eq h
      exact gx_iret X rfl dX10_compared_99
    · replace h := (if_neg q11).symm.trans h
      refine gx_goto X 94 dX10_compared_72 (by decide) ?_
      refine gx_iconst X (v := (1 : Int32)) dX10_compared_94 (by decide) ?_
      refine gx_goto X 99 dX10_compared_95 (by decide) ?_
      obtain ⟨rfl, rfl⟩ := ret_eq h
      exact gx_iret X rfl dX10_compared_99
def m_X10_compared (C : Nat → Int32 → Int32 → Int32 → Int32 → Mm → Option (Int32 × Mm)) (g : Mm) : Option (Int32 × Mm) := bdd (C 2 (0 : Int32) (0 : Int32) (0 : Int32) (0 : Int32) g) (fun ra1 ga2 => (if (rdI ga2 40 21) = (0 : Int32) then bdd (m_X10_at  ga2) (fun ra5 ga6 => (if ra5 = (60 : Int32) then m_X10_compared_41 C ra1 ga6 else bdd (m_X10_at  ga6) (fun ra9 ga10 => (if ra9 = (61 : Int32) then m_X10_compared_41 C ra1 ga10 else bdd (m_X10_at  ga10) (fun ra13 ga14 => (if ra13 = (62 : Int32) then m_X10_compared_41 C ra1 ga14 else some (ra1, ga14))))))) else some (ra1, ga2)))
set_option maxHeartbeats 2000000 in
theorem b_X10_compared {d : Nat} {r2 : Int32} {g g2 : Mm} (hd : 3 ≤ d) {dn : Nat} {C : Nat → Int32 → Int32 → Int32 → Int32 → Mm → Option (Int32 × Mm)} (hdn : dn + 1 ≤ d) (hC0 : ∀ (b0 b1 b2 b3 : Int32) (g : Mm) (rr : Int32) (gg : Mm), C 0 b0 b1 b2 b3 g = some (rr, gg) → gx_M dn yX10_atom cX10_atom 3 (some .int) (fun al => [.ref (al (40))]) g (some (.int rr)) gg) (hC1 : ∀ (b0 b1 b2 b3 : Int32) (g : Mm) (rr : Int32) (gg : Mm), C 1 b0 b1 b2 b3 g = some (rr, gg) → gx_M dn yX10_product cX10_product 4 (some .int) (fun al => [.ref (al (40))]) g (some (.int rr)) gg) (hC2 : ∀ (b0 b1 b2 b3 : Int32) (g : Mm) (rr : Int32) (gg : Mm), C 2 b0 b1 b2 b3 g = some (rr, gg) → gx_M dn yX10_added cX10_added 4 (some .int) (fun al => [.ref (al (40))]) g (some (.int rr)) gg) (hC3 : ∀ (b0 b1 b2 b3 : Int32) (g : Mm) (rr : Int32) (gg : Mm), C 3 b0 b1 b2 b3 g = some (rr, gg) → gx_M dn yX10_compared cX10_compared 4 (some .int) (fun al => [.ref (al (40))]) g (some (.int rr)) gg) (hC4 : ∀ (b0 b1 b2 b3 : Int32) (g : Mm) (rr : Int32) (gg : Mm), C 4 b0 b1 b2 b3 g = some (rr, gg) → gx_M dn yX10_both cX10_both 3 (some .int) (fun al => [.ref (al (40))]) g (some (.int rr)) gg) (hC5 : ∀ (b0 b1 b2 b3 : Int32) (g : Mm) (rr : Int32) (gg : Mm), C 5 b0 b1 b2 b3 g = some (rr, gg) → gx_M dn yX10_either cX10_either 3 (some .int) (fun al => [.ref (al (40))]) g (some (.int rr)) gg) (h : m_X10_compared C g = some (r2, g2)) : gx_M d yX10_compared cX10_compared 4 (some .int) (fun al => [.ref (al (40))]) g (some (.int r2)) g2 := by
  refine gx_M.of (by decide +kernel) (fun _ => Nat.le_of_ble_eq_true rfl) ?_
  intro p l e R s m args below meth c D al cI cJ A X
  refine gx_eq (pc' := 0) (ls' := [(0, .ref (al (40)))]) (st' := []) (g' := g) ⟨rfl, rfl, rfl, rfl⟩ ?_
  unfold m_X10_compared at h
  refine gx_aload_n X 0 rfl dX10_compared_0 ?_
  obtain ⟨ra1, ga2, ca3, h⟩ := bdd_eq h
  refine gx_callVi X (40) (hC2 _ _ _ _ _ _ _ ca3) lc_X10_added li_X10_added lm_X10_200 (by decide) (cl_40 _ _) rfl rfl rfl hdn rfl (Nat.le_of_ble_eq_true rfl) dX10_compared_1 ?_
  refine gx_istore_n X [(1, .int (ra1)), (0, .ref (al (40)))] dX10_compared_4 (by decide) rfl ?_
  refine gx_aload_n X 1 rfl dX10_compared_5 ?_
  refine gx_getf X (40) lf_X10_175 (by decide) (cl_40 _ _) (v := .int ((rdI ga2 40 21))) rfl dX10_compared_6 ?_
  refine gx_if_ne X 39 dX10_compared_9 (by decide) (fun q4 => ?_) (fun q4 => ?_)
  · replace h := (if_neg q4).symm.trans h
    refine gx_iload_n X 0 rfl dX10_compared_39 ?_
    obtain ⟨rfl, rfl⟩ := ret_eq h
    exact gx_iret X rfl dX10_compared_40
  · replace h := (if_pos q4).symm.trans h
    refine gx_aload_n X 1 rfl dX10_compared_12 ?_
    obtain ⟨ra5, ga6, ca7, h⟩ := bdd_eq h
    refine gx_callVi X (40) (c_X10_at ca7) lc_X10_at li_X10_at lm_X10_149 (by decide) (cl_40 _ _) rfl rfl rfl (Nat.le_trans (by decide) hd) rfl (Nat.le_of_ble_eq_true rfl) dX10_compared_13 ?_
    refine gx_bipush X (v := (60 : Int32)) dX10_compared_16 (by decide) ?_
    refine gx_icmp_eq X 41 dX10_compared_18 (by decide) (fun q8 => ?_) (fun q8 => ?_)
    · replace h := (if_pos q8).symm.trans h
      exact gx_sub [1, 0] rfl (t_X10_compared_41 X hd hdn hC0 hC1 hC2 hC3 hC4 hC5 ra1 ga6 h)
    · replace h := (if_neg q8).symm.trans h
      refine gx_aload_n X 1 rfl dX10_compared_21 ?_
      obtain ⟨ra9, ga10, ca11, h⟩ := bdd_eq h
      refine gx_callVi X (40) (c_X10_at ca11) lc_X10_at li_X10_at lm_X10_149 (by decide) (cl_40 _ _) rfl rfl rfl (Nat.le_trans (by decide) hd) rfl (Nat.le_of_ble_eq_true rfl) dX10_compared_22 ?_
      refine gx_bipush X (v := (61 : Int32)) dX10_compared_25 (by decide) ?_
      refine gx_icmp_eq X 41 dX10_compared_27 (by decide) (fun q12 => ?_) (fun q12 => ?_)
      · replace h := (if_pos q12).symm.trans h
        exact gx_sub [1, 0] rfl (t_X10_compared_41 X hd hdn hC0 hC1 hC2 hC3 hC4 hC5 ra1 ga10 h)
      · replace h := (if_neg q12).symm.trans h
        refine gx_aload_n X 1 rfl dX10_compared_30 ?_
        obtain ⟨ra13, ga14, ca15, h⟩ := bdd_eq h
        refine gx_callVi X (40) (c_X10_at ca15) lc_X10_at li_X10_at lm_X10_149 (by decide) (cl_40 _ _) rfl rfl rfl (Nat.le_trans (by decide) hd) rfl (Nat.le_of_ble_eq_true rfl) dX10_compared_31 ?_
        refine gx_bipush X (v := (62 : Int32)) dX10_compared_34 (by decide) ?_
        refine gx_icmp_eq X 41 dX10_compared_36 (by decide) (fun q16 => ?_) (fun q16 => ?_)
        · replace h := (if_pos q16).symm.trans h
          exact gx_sub [1, 0] rfl (t_X10_compared_41 X hd hdn hC0 hC1 hC2 hC3 hC4 hC5 ra1 ga14 h)
        · replace h := (if_neg q16).symm.trans h
          refine gx_iload_n X 0 rfl dX10_compared_39 ?_
          obtain ⟨rfl, rfl⟩ := ret_eq h
          exact gx_iret X rfl dX10_compared_40
theorem dX10_both_0 : decode cX10_both 0 = .ok (.aload_n 0, 1) := by decide +kernel
theorem dX10_both_1 : decode cX10_both 1 = .ok (.invokevirtual 203, 3) := by decide +kernel
theorem dX10_both_4 : decode cX10_both 4 = .ok (.istore_n 1, 1) := by decide +kernel
theorem dX10_both_5 : decode cX10_both 5 = .ok (.aload_n 0, 1) := by decide +kernel
theorem dX10_both_6 : decode cX10_both 6 = .ok (.getfield 175, 3) := by decide +kernel
theorem dX10_both_9 : decode cX10_both 9 = .ok (.ifCond .ne 44, 3) := by decide +kernel
theorem dX10_both_12 : decode cX10_both 12 = .ok (.aload_n 0, 1) := by decide +kernel
theorem dX10_both_13 : decode cX10_both 13 = .ok (.invokevirtual 149, 3) := by decide +kernel
theorem dX10_both_16 : decode cX10_both 16 = .ok (.bipush 38, 2) := by decide +kernel
theorem dX10_both_18 : decode cX10_both 18 = .ok (.if_icmp .ne 35, 3) := by decide +kernel
theorem dX10_both_21 : decode cX10_both 21 = .ok (.aload_n 0, 1) := by decide +kernel
theorem dX10_both_22 : decode cX10_both 22 = .ok (.dup, 1) := by decide +kernel
theorem dX10_both_23 : decode cX10_both 23 = .ok (.getfield 139, 3) := by decide +kernel
theorem dX10_both_26 : decode cX10_both 26 = .ok (.iconst 1, 1) := by decide +kernel
theorem dX10_both_27 : decode cX10_both 27 = .ok (.iadd, 1) := by decide +kernel
theorem dX10_both_28 : decode cX10_both 28 = .ok (.putfield 139, 3) := by decide +kernel
theorem dX10_both_31 : decode cX10_both 31 = .ok (.aload_n 0, 1) := by decide +kernel
theorem dX10_both_32 : decode cX10_both 32 = .ok (.invokevirtual 203, 3) := by decide +kernel
theorem dX10_both_35 : decode cX10_both 35 = .ok (.istore_n 2, 1) := by decide +kernel
theorem dX10_both_36 : decode cX10_both 36 = .ok (.iload_n 1, 1) := by decide +kernel
theorem dX10_both_37 : decode cX10_both 37 = .ok (.ifCond .eq 11, 3) := by decide +kernel
theorem dX10_both_40 : decode cX10_both 40 = .ok (.iload_n 2, 1) := by decide +kernel
theorem dX10_both_41 : decode cX10_both 41 = .ok (.ifCond .eq 7, 3) := by decide +kernel
theorem dX10_both_44 : decode cX10_both 44 = .ok (.iconst 1, 1) := by decide +kernel
theorem dX10_both_45 : decode cX10_both 45 = .ok (.goto 4, 3) := by decide +kernel
theorem dX10_both_48 : decode cX10_both 48 = .ok (.iconst 0, 1) := by decide +kernel
theorem dX10_both_49 : decode cX10_both 49 = .ok (.istore_n 1, 1) := by decide +kernel
theorem dX10_both_50 : decode cX10_both 50 = .ok (.goto (-45), 3) := by decide +kernel
theorem dX10_both_53 : decode cX10_both 53 = .ok (.iload_n 1, 1) := by decide +kernel
theorem dX10_both_54 : decode cX10_both 54 = .ok (.ireturn, 1) := by decide +kernel
def m_X10_both_5 (C : Nat → Int32 → Int32 → Int32 → Int32 → Mm → Option (Int32 × Mm)) : Nat → Int32 → Mm → Option (Int32 × Mm)
  | 0, _, _ => none
  | n + 1, x1, g => (if (rdI g 40 21) = (0 : Int32) then bdd (m_X10_at  g) (fun ra2 ga3 => (if ra2 = (38 : Int32) then bdd (C 3 (0 : Int32) (0 : Int32) (0 : Int32) (0 : Int32) (wrI ga3 40 20 ((rdI ga3 40 20) + (1 : Int32)))) (fun ra6 ga7 => (if x1 = (0 : Int32) then m_X10_both_5 C n (0 : Int32) ga7 else (if ra6 = (0 : Int32) then m_X10_both_5 C n (0 : Int32) ga7 else m_X10_both_5 C n (1 : Int32) ga7))) else some (x1, ga3))) else some (x1, g))
set_option maxHeartbeats 2000000 in
theorem t_X10_both_5 {r2 : Int32} {g2 : Mm} (X : gx_X p R s m args meth c D al cI cJ A RX10 cX10_both 3 (some .int) d 0 0) (hd : 3 ≤ d) {dn : Nat} {C : Nat → Int32 → Int32 → Int32 → Int32 → Mm → Option (Int32 × Mm)} (hdn : dn + 1 ≤ d) (hC0 : ∀ (b0 b1 b2 b3 : Int32) (g : Mm) (rr : Int32) (gg : Mm), C 0 b0 b1 b2 b3 g = some (rr, gg) → gx_M dn yX10_atom cX10_atom 3 (some .int) (fun al => [.ref (al (40))]) g (some (.int rr)) gg) (hC1 : ∀ (b0 b1 b2 b3 : Int32) (g : Mm) (rr : Int32) (gg : Mm), C 1 b0 b1 b2 b3 g = some (rr, gg) → gx_M dn yX10_product cX10_product 4 (some .int) (fun al => [.ref (al (40))]) g (some (.int rr)) gg) (hC2 : ∀ (b0 b1 b2 b3 : Int32) (g : Mm) (rr : Int32) (gg : Mm), C 2 b0 b1 b2 b3 g = some (rr, gg) → gx_M dn yX10_added cX10_added 4 (some .int) (fun al => [.ref (al (40))]) g (some (.int rr)) gg) (hC3 : ∀ (b0 b1 b2 b3 : Int32) (g : Mm) (rr : Int32) (gg : Mm), C 3 b0 b1 b2 b3 g = some (rr, gg) → gx_M dn yX10_compared cX10_compared 4 (some .int) (fun al => [.ref (al (40))]) g (some (.int rr)) gg) (hC4 : ∀ (b0 b1 b2 b3 : Int32) (g : Mm) (rr : Int32) (gg : Mm), C 4 b0 b1 b2 b3 g = some (rr, gg) → gx_M dn yX10_both cX10_both 3 (some .int) (fun al => [.ref (al (40))]) g (some (.int rr)) gg) (hC5 : ∀ (b0 b1 b2 b3 : Int32) (g : Mm) (rr : Int32) (gg : Mm), C 5 b0 b1 b2 b3 g = some (rr, gg) → gx_M dn yX10_either cX10_either 3 (some .int) (fun al => [.ref (al (40))]) g (some (.int rr)) gg) : ∀ (n : Nat) (x1 : Int32) (g : Mm), m_X10_both_5 C n x1 g = some (r2, g2) → gx_G p l e R s m args below meth c (gx_Q below args s D al cI cJ A (some (.int r2)) g2) D al cI cJ A 3 0 0 5 [(0, .ref (al (40))), (1, .int (x1))] [] g := by
  intro n
  induction n with
  | zero => intro x1 g h; cases h
  | succ n ih =>
    intro x1 g h
    rw [m_X10_both_5] at h
    refine gx_aload_n X 0 rfl dX10_both_5 ?_
    refine gx_getf X (40) lf_X10_175 (by decide) (cl_40 _ _) (v := .int ((rdI g 40 21))) rfl dX10_both_6 ?_
    refine gx_if_ne X 53 dX10_both_9 (by decide) (fun q1 => ?_) (fun q1 => ?_)
    · replace h := (if_neg q1).symm.trans h
      refine gx_iload_n X 1 rfl dX10_both_53 ?_
      obtain ⟨rfl, rfl⟩ := ret_eq h
      exact gx_iret X rfl dX10_both_54
    · replace h := (if_pos q1).symm.trans h
      refine gx_aload_n X 0 rfl dX10_both_12 ?_
      obtain ⟨ra2, ga3, ca4, h⟩ := bdd_eq h
      refine gx_callVi X (40) (c_X10_at ca4) lc_X10_at li_X10_at lm_X10_149 (by decide) (cl_40 _ _) rfl rfl rfl (Nat.le_trans (by decide) hd) rfl (Nat.le_of_ble_eq_true rfl) dX10_both_13 ?_
      refine gx_bipush X (v := (38 : Int32)) dX10_both_16 (by decide) ?_
      refine gx_icmp_ne X 53 dX10_both_18 (by decide) (fun q5 => ?_) (fun q5 => ?_)
      · replace h := (if_neg q5).symm.trans h
        refine gx_iload_n X 1 rfl dX10_both_53 ?_
        obtain ⟨rfl, rfl⟩ := ret_eq h
        exact gx_iret X rfl dX10_both_54
      · replace h := (if_pos q5).symm.trans h
        refine gx_aload_n X 0 rfl dX10_both_21 ?_
        refine gx_dup X dX10_both_22 rfl ?_
        refine gx_getf X (40) lf_X10_139 (by decide) (cl_40 _ _) (v := .int ((rdI ga3 40 20))) rfl dX10_both_23 ?_
        refine gx_iconst X (v := (1 : Int32)) dX10_both_26 (by decide) ?_
        refine gx_iadd X dX10_both_27 ?_
        refine gx_putf X (40) ((rdI ga3 40 20) + (1 : Int32)) lf_X10_139 lp_X10_20 (by decide) (cl_40 _ _) (Nat.le_of_ble_eq_true rfl) rfl rfl rfl dX10_both_28 ?_
        refine gx_aload_n X 0 rfl dX10_both_31 ?_
        obtain ⟨ra6, ga7, ca8, h⟩ := bdd_eq h
        refine gx_callVi X (40) (hC3 _ _ _ _ _ _ _ ca8) lc_X10_compared li_X10_compared lm_X10_203 (by decide) (cl_40 _ _) rfl rfl rfl hdn rfl (Nat.le_of_ble_eq_true rfl) dX10_both_32 ?_
        refine gx_istore_n X [(2, .int (ra6)), (0, .ref (al (40))), (1, .int (x1))] dX10_both_35 (by decide) rfl ?_
        refine gx_iload_n X 2 rfl dX10_both_36 ?_
        refine gx_if_eq X 48 dX10_both_37 (by decide) (fun q9 => ?_) (fun q9 => ?_)
        · replace h := (if_pos q9).symm.trans h
          refine gx_iconst X (v := (0 : Int32)) dX10_both_48 (by decide) ?_
          refine gx_istore_n X [(1, .int ((0 : Int32))), (2, .int (ra6)), (0, .ref (al (40)))] dX10_both_49 (by decide) rfl ?_
          refine gx_goto X 5 dX10_both_50 (by decide) ?_
          exact gx_sub [2, 0] rfl (ih (0 : Int32) ga7 h)
        · replace h := (if_neg q9).symm.trans h
          refine gx_iload_n X 0 rfl dX10_both_40 ?_
          refine gx_if_eq X 48 dX10_both_41 (by decide) (fun q10 => ?_) (fun q10 => ?_)
          · replace h := (if_pos q10).symm.trans h
            refine gx_iconst X (v := (0 : Int32)) dX10_both_48 (by decide) ?_
            refine gx_istore_n X [(1, .int ((0 : Int32))), (2, .int (ra6)), (0, .ref (al (40)))] dX10_both_49 (by decide) rfl ?_
            refine gx_goto X 5 dX10_both_50 (by decide) ?_
            exact gx_sub [2, 0] rfl (ih (0 : Int32) ga7 h)
          · replace h := (if_neg q10).symm.trans h
            refine gx_iconst X (v := (1 : Int32)) dX10_both_44 (by decide) ?_
            refine gx_goto X 49 dX10_both_45 (by decide) ?_
            refine gx_istore_n X [(1, .int ((1 : Int32))), (2, .int (ra6)), (0, .ref (al (40)))] dX10_both_49 (by decide) rfl ?_
            refine gx_goto X 5 dX10_both_50 (by decide) ?_
            exact gx_sub [2, 0] rfl (ih (1 : Int32) ga7 h)
def m_X10_both (C : Nat → Int32 → Int32 → Int32 → Int32 → Mm → Option (Int32 × Mm)) (g : Mm) : Option (Int32 × Mm) := bdd (C 3 (0 : Int32) (0 : Int32) (0 : Int32) (0 : Int32) g) (fun ra1 ga2 => m_X10_both_5 C fuL ra1 ga2)
set_option maxHeartbeats 2000000 in
theorem b_X10_both {d : Nat} {r2 : Int32} {g g2 : Mm} (hd : 3 ≤ d) {dn : Nat} {C : Nat → Int32 → Int32 → Int32 → Int32 → Mm → Option (Int32 × Mm)} (hdn : dn + 1 ≤ d) (hC0 : ∀ (b0 b1 b2 b3 : Int32) (g : Mm) (rr : Int32) (gg : Mm), C 0 b0 b1 b2 b3 g = some (rr, gg) → gx_M dn yX10_atom cX10_atom 3 (some .int) (fun al => [.ref (al (40))]) g (some (.int rr)) gg) (hC1 : ∀ (b0 b1 b2 b3 : Int32) (g : Mm) (rr : Int32) (gg : Mm), C 1 b0 b1 b2 b3 g = some (rr, gg) → gx_M dn yX10_product cX10_product 4 (some .int) (fun al => [.ref (al (40))]) g (some (.int rr)) gg) (hC2 : ∀ (b0 b1 b2 b3 : Int32) (g : Mm) (rr : Int32) (gg : Mm), C 2 b0 b1 b2 b3 g = some (rr, gg) → gx_M dn yX10_added cX10_added 4 (some .int) (fun al => [.ref (al (40))]) g (some (.int rr)) gg) (hC3 : ∀ (b0 b1 b2 b3 : Int32) (g : Mm) (rr : Int32) (gg : Mm), C 3 b0 b1 b2 b3 g = some (rr, gg) → gx_M dn yX10_compared cX10_compared 4 (some .int) (fun al => [.ref (al (40))]) g (some (.int rr)) gg) (hC4 : ∀ (b0 b1 b2 b3 : Int32) (g : Mm) (rr : Int32) (gg : Mm), C 4 b0 b1 b2 b3 g = some (rr, gg) → gx_M dn yX10_both cX10_both 3 (some .int) (fun al => [.ref (al (40))]) g (some (.int rr)) gg) (hC5 : ∀ (b0 b1 b2 b3 : Int32) (g : Mm) (rr : Int32) (gg : Mm), C 5 b0 b1 b2 b3 g = some (rr, gg) → gx_M dn yX10_either cX10_either 3 (some .int) (fun al => [.ref (al (40))]) g (some (.int rr)) gg) (h : m_X10_both C g = some (r2, g2)) : gx_M d yX10_both cX10_both 3 (some .int) (fun al => [.ref (al (40))]) g (some (.int r2)) g2 := by
  refine gx_M.of (by decide +kernel) (fun _ => Nat.le_of_ble_eq_true rfl) ?_
  intro p l e R s m args below meth c D al cI cJ A X
  refine gx_eq (pc' := 0) (ls' := [(0, .ref (al (40)))]) (st' := []) (g' := g) ⟨rfl, rfl, rfl, rfl⟩ ?_
  unfold m_X10_both at h
  refine gx_aload_n X 0 rfl dX10_both_0 ?_
  obtain ⟨ra1, ga2, ca3, h⟩ := bdd_eq h
  refine gx_callVi X (40) (hC3 _ _ _ _ _ _ _ ca3) lc_X10_compared li_X10_compared lm_X10_203 (by decide) (cl_40 _ _) rfl rfl rfl hdn rfl (Nat.le_of_ble_eq_true rfl) dX10_both_1 ?_
  refine gx_istore_n X [(1, .int (ra1)), (0, .ref (al (40)))] dX10_both_4 (by decide) rfl ?_
  exact gx_sub [1, 0] rfl (t_X10_both_5 X hd hdn hC0 hC1 hC2 hC3 hC4 hC5 fuL ra1 ga2 h)
theorem dX10_either_0 : decode cX10_either 0 = .ok (.aload_n 0, 1) := by decide +kernel
theorem dX10_either_1 : decode cX10_either 1 = .ok (.invokevirtual 206, 3) := by decide +kernel
theorem dX10_either_4 : decode cX10_either 4 = .ok (.istore_n 1, 1) := by decide +kernel
theorem dX10_either_5 : decode cX10_either 5 = .ok (.aload_n 0, 1) := by decide +kernel
theorem dX10_either_6 : decode cX10_either 6 = .ok (.getfield 175, 3) := by decide +kernel
theorem dX10_either_9 : decode cX10_either 9 = .ok (.ifCond .ne 44, 3) := by decide +kernel
theorem dX10_either_12 : decode cX10_either 12 = .ok (.aload_n 0, 1) := by decide +kernel
theorem dX10_either_13 : decode cX10_either 13 = .ok (.invokevirtual 149, 3) := by decide +kernel
theorem dX10_either_16 : decode cX10_either 16 = .ok (.bipush 124, 2) := by decide +kernel
theorem dX10_either_18 : decode cX10_either 18 = .ok (.if_icmp .ne 35, 3) := by decide +kernel
theorem dX10_either_21 : decode cX10_either 21 = .ok (.aload_n 0, 1) := by decide +kernel
theorem dX10_either_22 : decode cX10_either 22 = .ok (.dup, 1) := by decide +kernel
theorem dX10_either_23 : decode cX10_either 23 = .ok (.getfield 139, 3) := by decide +kernel
theorem dX10_either_26 : decode cX10_either 26 = .ok (.iconst 1, 1) := by decide +kernel
theorem dX10_either_27 : decode cX10_either 27 = .ok (.iadd, 1) := by decide +kernel
theorem dX10_either_28 : decode cX10_either 28 = .ok (.putfield 139, 3) := by decide +kernel
theorem dX10_either_31 : decode cX10_either 31 = .ok (.aload_n 0, 1) := by decide +kernel
theorem dX10_either_32 : decode cX10_either 32 = .ok (.invokevirtual 206, 3) := by decide +kernel
theorem dX10_either_35 : decode cX10_either 35 = .ok (.istore_n 2, 1) := by decide +kernel
theorem dX10_either_36 : decode cX10_either 36 = .ok (.iload_n 1, 1) := by decide +kernel
theorem dX10_either_37 : decode cX10_either 37 = .ok (.ifCond .ne 7, 3) := by decide +kernel
theorem dX10_either_40 : decode cX10_either 40 = .ok (.iload_n 2, 1) := by decide +kernel
theorem dX10_either_41 : decode cX10_either 41 = .ok (.ifCond .eq 7, 3) := by decide +kernel
theorem dX10_either_44 : decode cX10_either 44 = .ok (.iconst 1, 1) := by decide +kernel
theorem dX10_either_45 : decode cX10_either 45 = .ok (.goto 4, 3) := by decide +kernel
theorem dX10_either_48 : decode cX10_either 48 = .ok (.iconst 0, 1) := by decide +kernel
theorem dX10_either_49 : decode cX10_either 49 = .ok (.istore_n 1, 1) := by decide +kernel
theorem dX10_either_50 : decode cX10_either 50 = .ok (.goto (-45), 3) := by decide +kernel
theorem dX10_either_53 : decode cX10_either 53 = .ok (.iload_n 1, 1) := by decide +kernel
theorem dX10_either_54 : decode cX10_either 54 = .ok (.ireturn, 1) := by decide +kernel
def m_X10_either_5 (C : Nat → Int32 → Int32 → Int32 → Int32 → Mm → Option (Int32 × Mm)) : Nat → Int32 → Mm → Option (Int32 × Mm)
  | 0, _, _ => none
  | n + 1, x1, g => (if (rdI g 40 21) = (0 : Int32) then bdd (m_X10_at  g) (fun ra2 ga3 => (if ra2 = (124 : Int32) then bdd (C 4 (0 : Int32) (0 : Int32) (0 : Int32) (0 : Int32) (wrI ga3 40 20 ((rdI ga3 40 20) + (1 : Int32)))) (fun ra6 ga7 => (if x1 = (0 : Int32) then (if ra6 = (0 : Int32) then m_X10_either_5 C n (0 : Int32) ga7 else m_X10_either_5 C n (1 : Int32) ga7) else m_X10_either_5 C n (1 : Int32) ga7)) else some (x1, ga3))) else some (x1, g))
set_option maxHeartbeats 2000000 in
theorem t_X10_either_5 {r2 : Int32} {g2 : Mm} (X : gx_X p R s m args meth c D al cI cJ A RX10 cX10_either 3 (some .int) d 0 0) (hd : 3 ≤ d) {dn : Nat} {C : Nat → Int32 → Int32 → Int32 → Int32 → Mm → Option (Int32 × Mm)} (hdn : dn + 1 ≤ d) (hC0 : ∀ (b0 b1 b2 b3 : Int32) (g : Mm) (rr : Int32) (gg : Mm), C 0 b0 b1 b2 b3 g = some (rr, gg) → gx_M dn yX10_atom cX10_atom 3 (some .int) (fun al => [.ref (al (40))]) g (some (.int rr)) gg) (hC1 : ∀ (b0 b1 b2 b3 : Int32) (g : Mm) (rr : Int32) (gg : Mm), C 1 b0 b1 b2 b3 g = some (rr, gg) → gx_M dn yX10_product cX10_product 4 (some .int) (fun al => [.ref (al (40))]) g (some (.int rr)) gg) (hC2 : ∀ (b0 b1 b2 b3 : Int32) (g : Mm) (rr : Int32) (gg : Mm), C 2 b0 b1 b2 b3 g = some (rr, gg) → gx_M dn yX10_added cX10_added 4 (some .int) (fun al => [.ref (al (40))]) g (some (.int rr)) gg) (hC3 : ∀ (b0 b1 b2 b3 : Int32) (g : Mm) (rr : Int32) (gg : Mm), C 3 b0 b1 b2 b3 g = some (rr, gg) → gx_M dn yX10_compared cX10_compared 4 (some .int) (fun al => [.ref (al (40))]) g (some (.int rr)) gg) (hC4 : ∀ (b0 b1 b2 b3 : Int32) (g : Mm) (rr : Int32) (gg : Mm), C 4 b0 b1 b2 b3 g = some (rr, gg) → gx_M dn yX10_both cX10_both 3 (some .int) (fun al => [.ref (al (40))]) g (some (.int rr)) gg) (hC5 : ∀ (b0 b1 b2 b3 : Int32) (g : Mm) (rr : Int32) (gg : Mm), C 5 b0 b1 b2 b3 g = some (rr, gg) → gx_M dn yX10_either cX10_either 3 (some .int) (fun al => [.ref (al (40))]) g (some (.int rr)) gg) : ∀ (n : Nat) (x1 : Int32) (g : Mm), m_X10_either_5 C n x1 g = some (r2, g2) → gx_G p l e R s m args below meth c (gx_Q below args s D al cI cJ A (some (.int r2)) g2) D al cI cJ A 3 0 0 5 [(0, .ref (al (40))), (1, .int (x1))] [] g := by
  intro n
  induction n with
  | zero => intro x1 g h; cases h
  | succ n ih =>
    intro x1 g h
    rw [m_X10_either_5] at h
    refine gx_aload_n X 0 rfl dX10_either_5 ?_
    refine gx_getf X (40) lf_X10_175 (by decide) (cl_40 _ _) (v := .int ((rdI g 40 21))) rfl dX10_either_6 ?_
    refine gx_if_ne X 53 dX10_either_9 (by decide) (fun q1 => ?_) (fun q1 => ?_)
    · replace h := (if_neg q1).symm.trans h
      refine gx_iload_n X 1 rfl dX10_either_53 ?_
      obtain ⟨rfl, rfl⟩ := ret_eq h
      exact gx_iret X rfl dX10_either_54
    · replace h := (if_pos q1).symm.trans h
      refine gx_aload_n X 0 rfl dX10_either_12 ?_
      obtain ⟨ra2, ga3, ca4, h⟩ := bdd_eq h
      refine gx_callVi X (40) (c_X10_at ca4) lc_X10_at li_X10_at lm_X10_149 (by decide) (cl_40 _ _) rfl rfl rfl (Nat.le_trans (by decide) hd) rfl (Nat.le_of_ble_eq_true rfl) dX10_either_13 ?_
      refine gx_bipush X (v := (124 : Int32)) dX10_either_16 (by decide) ?_
      refine gx_icmp_ne X 53 dX10_either_18 (by decide) (fun q5 => ?_) (fun q5 => ?_)
      · replace h := (if_neg q5).symm.trans h
        refine gx_iload_n X 1 rfl dX10_either_53 ?_
        obtain ⟨rfl, rfl⟩ := ret_eq h
        exact gx_iret X rfl dX10_either_54
      · replace h := (if_pos q5).symm.trans h
        refine gx_aload_n X 0 rfl dX10_either_21 ?_
        refine gx_dup X dX10_either_22 rfl ?_
        refine gx_getf X (40) lf_X10_139 (by decide) (cl_40 _ _) (v := .int ((rdI ga3 40 20))) rfl dX10_either_23 ?_
        refine gx_iconst X (v := (1 : Int32)) dX10_either_26 (by decide) ?_
        refine gx_iadd X dX10_either_27 ?_
        refine gx_putf X (40) ((rdI ga3 40 20) + (1 : Int32)) lf_X10_139 lp_X10_20 (by decide) (cl_40 _ _) (Nat.le_of_ble_eq_true rfl) rfl rfl rfl dX10_either_28 ?_
        refine gx_aload_n X 0 rfl dX10_either_31 ?_
        obtain ⟨ra6, ga7, ca8, h⟩ := bdd_eq h
        refine gx_callVi X (40) (hC4 _ _ _ _ _ _ _ ca8) lc_X10_both li_X10_both lm_X10_206 (by decide) (cl_40 _ _) rfl rfl rfl hdn rfl (Nat.le_of_ble_eq_true rfl) dX10_either_32 ?_
        refine gx_istore_n X [(2, .int (ra6)), (0, .ref (al (40))), (1, .int (x1))] dX10_either_35 (by decide) rfl ?_
        refine gx_iload_n X 2 rfl dX10_either_36 ?_
        refine gx_if_ne X 44 dX10_either_37 (by decide) (fun q9 => ?_) (fun q9 => ?_)
        · replace h := (if_neg q9).symm.trans h
          refine gx_iconst X (v := (1 : Int32)) dX10_either_44 (by decide) ?_
          refine gx_goto X 49 dX10_either_45 (by decide) ?_
          refine gx_istore_n X [(1, .int ((1 : Int32))), (2, .int (ra6)), (0, .ref (al (40)))] dX10_either_49 (by decide) rfl ?_
          refine gx_goto X 5 dX10_either_50 (by decide) ?_
          exact gx_sub [2, 0] rfl (ih (1 : Int32) ga7 h)
        · replace h := (if_pos q9).symm.trans h
          refine gx_iload_n X 0 rfl dX10_either_40 ?_
          refine gx_if_eq X 48 dX10_either_41 (by decide) (fun q10 => ?_) (fun q10 => ?_)
          · replace h := (if_pos q10).symm.trans h
            refine gx_iconst X (v := (0 : Int32)) dX10_either_48 (by decide) ?_
            refine gx_istore_n X [(1, .int ((0 : Int32))), (2, .int (ra6)), (0, .ref (al (40)))] dX10_either_49 (by decide) rfl ?_
            refine gx_goto X 5 dX10_either_50 (by decide) ?_
            exact gx_sub [2, 0] rfl (ih (0 : Int32) ga7 h)
          · replace h := (if_neg q10).symm.trans h
            refine gx_iconst X (v := (1 : Int32)) dX10_either_44 (by decide) ?_
            refine gx_goto X 49 dX10_either_45 (by decide) ?_
            refine gx_istore_n X [(1, .int ((1 : Int32))), (2, .int (ra6)), (0, .ref (al (40)))] dX10_either_49 (by decide) rfl ?_
            refine gx_goto X 5 dX10_either_50 (by decide) ?_
            exact gx_sub [2, 0] rfl (ih (1 : Int32) ga7 h)
def m_X10_either (C : Nat → Int32 → Int32 → Int32 → Int32 → Mm → Option (Int32 × Mm)) (g : Mm) : Option (Int32 × Mm) := bdd (C 4 (0 : Int32) (0 : Int32) (0 : Int32) (0 : Int32) g) (fun ra1 ga2 => m_X10_either_5 C fuL ra1 ga2)
set_option maxHeartbeats 2000000 in
theorem b_X10_either {d : Nat} {r2 : Int32} {g g2 : Mm} (hd : 3 ≤ d) {dn : Nat} {C : Nat → Int32 → Int32 → Int32 → Int32 → Mm → Option (Int32 × Mm)} (hdn : dn + 1 ≤ d) (hC0 : ∀ (b0 b1 b2 b3 : Int32) (g : Mm) (rr : Int32) (gg : Mm), C 0 b0 b1 b2 b3 g = some (rr, gg) → gx_M dn yX10_atom cX10_atom 3 (some .int) (fun al => [.ref (al (40))]) g (some (.int rr)) gg) (hC1 : ∀ (b0 b1 b2 b3 : Int32) (g : Mm) (rr : Int32) (gg : Mm), C 1 b0 b1 b2 b3 g = some (rr, gg) → gx_M dn yX10_product cX10_product 4 (some .int) (fun al => [.ref (al (40))]) g (some (.int rr)) gg) (hC2 : ∀ (b0 b1 b2 b3 : Int32) (g : Mm) (rr : Int32) (gg : Mm), C 2 b0 b1 b2 b3 g = some (rr, gg) → gx_M dn yX10_added cX10_added 4 (some .int) (fun al => [.ref (al (40))]) g (some (.int rr)) gg) (hC3 : ∀ (b0 b1 b2 b3 : Int32) (g : Mm) (rr : Int32) (gg : Mm), C 3 b0 b1 b2 b3 g = some (rr, gg) → gx_M dn yX10_compared cX10_compared 4 (some .int) (fun al => [.ref (al (40))]) g (some (.int rr)) gg) (hC4 : ∀ (b0 b1 b2 b3 : Int32) (g : Mm) (rr : Int32) (gg : Mm), C 4 b0 b1 b2 b3 g = some (rr, gg) → gx_M dn yX10_both cX10_both 3 (some .int) (fun al => [.ref (al (40))]) g (some (.int rr)) gg) (hC5 : ∀ (b0 b1 b2 b3 : Int32) (g : Mm) (rr : Int32) (gg : Mm), C 5 b0 b1 b2 b3 g = some (rr, gg) → gx_M dn yX10_either cX10_either 3 (some .int) (fun al => [.ref (al (40))]) g (some (.int rr)) gg) (h : m_X10_either C g = some (r2, g2)) : gx_M d yX10_either cX10_either 3 (some .int) (fun al => [.ref (al (40))]) g (some (.int r2)) g2 := by
  refine gx_M.of (by decide +kernel) (fun _ => Nat.le_of_ble_eq_true rfl) ?_
  intro p l e R s m args below meth c D al cI cJ A X
  refine gx_eq (pc' := 0) (ls' := [(0, .ref (al (40)))]) (st' := []) (g' := g) ⟨rfl, rfl, rfl, rfl⟩ ?_
  unfold m_X10_either at h
  refine gx_aload_n X 0 rfl dX10_either_0 ?_
  obtain ⟨ra1, ga2, ca3, h⟩ := bdd_eq h
  refine gx_callVi X (40) (hC4 _ _ _ _ _ _ _ ca3) lc_X10_both li_X10_both lm_X10_206 (by decide) (cl_40 _ _) rfl rfl rfl hdn rfl (Nat.le_of_ble_eq_true rfl) dX10_either_1 ?_
  refine gx_istore_n X [(1, .int (ra1)), (0, .ref (al (40)))] dX10_either_4 (by decide) rfl ?_
  exact gx_sub [1, 0] rfl (t_X10_either_5 X hd hdn hC0 hC1 hC2 hC3 hC4 hC5 fuL ra1 ga2 h)
def gm_ : Nat → Nat → Int32 → Int32 → Int32 → Int32 → Mm → Option (Int32 × Mm)
  | 0, _, _, _, _, _, _ => none
  | n + 1, t, b0, b1, b2, b3, g => if t = 0 then m_X10_atom (gm_ n) g else if t = 1 then m_X10_product (gm_ n) g else if t = 2 then m_X10_added (gm_ n) g else if t = 3 then m_X10_compared (gm_ n) g else if t = 4 then m_X10_both (gm_ n) g else if t = 5 then m_X10_either (gm_ n) g else none
set_option maxHeartbeats 2000000 in
theorem gm_all : ∀ n : Nat, (∀ (b0 b1 b2 b3 : Int32) (g : Mm) (rr : Int32) (gg : Mm), gm_ n 0 b0 b1 b2 b3 g = some (rr, gg) → gx_M (3 + n) yX10_atom cX10_atom 3 (some .int) (fun al => [.ref (al (40))]) g (some (.int rr)) gg) ∧ (∀ (b0 b1 b2 b3 : Int32) (g : Mm) (rr : Int32) (gg : Mm), gm_ n 1 b0 b1 b2 b3 g = some (rr, gg) → gx_M (3 + n) yX10_product cX10_product 4 (some .int) (fun al => [.ref (al (40))]) g (some (.int rr)) gg) ∧ (∀ (b0 b1 b2 b3 : Int32) (g : Mm) (rr : Int32) (gg : Mm), gm_ n 2 b0 b1 b2 b3 g = some (rr, gg) → gx_M (3 + n) yX10_added cX10_added 4 (some .int) (fun al => [.ref (al (40))]) g (some (.int rr)) gg) ∧ (∀ (b0 b1 b2 b3 : Int32) (g : Mm) (rr : Int32) (gg : Mm), gm_ n 3 b0 b1 b2 b3 g = some (rr, gg) → gx_M (3 + n) yX10_compared cX10_compared 4 (some .int) (fun al => [.ref (al (40))]) g (some (.int rr)) gg) ∧ (∀ (b0 b1 b2 b3 : Int32) (g : Mm) (rr : Int32) (gg : Mm), gm_ n 4 b0 b1 b2 b3 g = some (rr, gg) → gx_M (3 + n) yX10_both cX10_both 3 (some .int) (fun al => [.ref (al (40))]) g (some (.int rr)) gg) ∧ (∀ (b0 b1 b2 b3 : Int32) (g : Mm) (rr : Int32) (gg : Mm), gm_ n 5 b0 b1 b2 b3 g = some (rr, gg) → gx_M (3 + n) yX10_either cX10_either 3 (some .int) (fun al => [.ref (al (40))]) g (some (.int rr)) gg) := by
  intro n
  induction n with
  | zero => exact ⟨fun b0 b1 b2 b3 g rr gg h => (by cases h), fun b0 b1 b2 b3 g rr gg h => (by cases h), fun b0 b1 b2 b3 g rr gg h => (by cases h), fun b0 b1 b2 b3 g rr gg h => (by cases h), fun b0 b1 b2 b3 g rr gg h => (by cases h), fun b0 b1 b2 b3 g rr gg h => (by cases h)⟩
  | succ n ih =>
    obtain ⟨i0, i1, i2, i3, i4, i5⟩ := ih
    have hd : 3 ≤ 3 + (n + 1) := Nat.le_add_right _ _
    have hdn : (3 + n) + 1 ≤ 3 + (n + 1) := Nat.le_refl _
    exact ⟨fun b0 b1 b2 b3 g rr gg h => b_X10_atom hd hdn i0 i1 i2 i3 i4 i5 h, fun b0 b1 b2 b3 g rr gg h => b_X10_product hd hdn i0 i1 i2 i3 i4 i5 h, fun b0 b1 b2 b3 g rr gg h => b_X10_added hd hdn i0 i1 i2 i3 i4 i5 h, fun b0 b1 b2 b3 g rr gg h => b_X10_compared hd hdn i0 i1 i2 i3 i4 i5 h, fun b0 b1 b2 b3 g rr gg h => b_X10_both hd hdn i0 i1 i2 i3 i4 i5 h, fun b0 b1 b2 b3 g rr gg h => b_X10_either hd hdn i0 i1 i2 i3 i4 i5 h⟩
theorem c_X10_atom {b0 b1 b2 b3 : Int32} {g : Mm} {rr : Int32} {gg : Mm} (h : gm_ 80 0 b0 b1 b2 b3 g = some (rr, gg)) : gx_M 83 yX10_atom cX10_atom 3 (some .int) (fun al => [.ref (al (40))]) g (some (.int rr)) gg := (gm_all 80).1 _ _ _ _ _ _ _ h
theorem c_X10_product {b0 b1 b2 b3 : Int32} {g : Mm} {rr : Int32} {gg : Mm} (h : gm_ 80 1 b0 b1 b2 b3 g = some (rr, gg)) : gx_M 83 yX10_product cX10_product 4 (some .int) (fun al => [.ref (al (40))]) g (some (.int rr)) gg := (gm_all 80).2.1 _ _ _ _ _ _ _ h
theorem c_X10_added {b0 b1 b2 b3 : Int32} {g : Mm} {rr : Int32} {gg : Mm} (h : gm_ 80 2 b0 b1 b2 b3 g = some (rr, gg)) : gx_M 83 yX10_added cX10_added 4 (some .int) (fun al => [.ref (al (40))]) g (some (.int rr)) gg := (gm_all 80).2.2.1 _ _ _ _ _ _ _ h
theorem c_X10_compared {b0 b1 b2 b3 : Int32} {g : Mm} {rr : Int32} {gg : Mm} (h : gm_ 80 3 b0 b1 b2 b3 g = some (rr, gg)) : gx_M 83 yX10_compared cX10_compared 4 (some .int) (fun al => [.ref (al (40))]) g (some (.int rr)) gg := (gm_all 80).2.2.2.1 _ _ _ _ _ _ _ h
theorem c_X10_both {b0 b1 b2 b3 : Int32} {g : Mm} {rr : Int32} {gg : Mm} (h : gm_ 80 4 b0 b1 b2 b3 g = some (rr, gg)) : gx_M 83 yX10_both cX10_both 3 (some .int) (fun al => [.ref (al (40))]) g (some (.int rr)) gg := (gm_all 80).2.2.2.2.1 _ _ _ _ _ _ _ h
theorem c_X10_either {b0 b1 b2 b3 : Int32} {g : Mm} {rr : Int32} {gg : Mm} (h : gm_ 80 5 b0 b1 b2 b3 g = some (rr, gg)) : gx_M 83 yX10_either cX10_either 3 (some .int) (fun al => [.ref (al (40))]) g (some (.int rr)) gg := (gm_all 80).2.2.2.2.2 _ _ _ _ _ _ _ h
theorem dX10_heardNow_0 : decode cX10_heardNow 0 = .ok (.aload_n 0, 1) := by decide +kernel
theorem dX10_heardNow_1 : decode cX10_heardNow 1 = .ok (.getfield 25, 3) := by decide +kernel
theorem dX10_heardNow_4 : decode cX10_heardNow 4 = .ok (.aload_n 0, 1) := by decide +kernel
theorem dX10_heardNow_5 : decode cX10_heardNow 5 = .ok (.getfield 89, 3) := by decide +kernel
theorem dX10_heardNow_8 : decode cX10_heardNow 8 = .ok (.if_icmp .ge 10, 3) := by decide +kernel
theorem dX10_heardNow_11 : decode cX10_heardNow 11 = .ok (.aload_n 0, 1) := by decide +kernel
theorem dX10_heardNow_12 : decode cX10_heardNow 12 = .ok (.getfield 25, 3) := by decide +kernel
theorem dX10_heardNow_15 : decode cX10_heardNow 15 = .ok (.goto 7, 3) := by decide +kernel
theorem dX10_heardNow_18 : decode cX10_heardNow 18 = .ok (.aload_n 0, 1) := by decide +kernel
theorem dX10_heardNow_19 : decode cX10_heardNow 19 = .ok (.getfield 89, 3) := by decide +kernel
theorem dX10_heardNow_22 : decode cX10_heardNow 22 = .ok (.ireturn, 1) := by decide +kernel
def m_X10_heardNow (g : Mm) : Option (Int32 × Mm) := (if (rdI g 40 4) ≤ (rdI g 40 6) then some ((rdI g 40 4), g) else some ((rdI g 40 6), g))
set_option maxHeartbeats 2000000 in
theorem c_X10_heardNow {r2 : Int32} {g g2 : Mm} (h : m_X10_heardNow g = some (r2, g2)) : gx_M 1 yX10_heardNow cX10_heardNow 1 (some .int) (fun al => [.ref (al (40))]) g (some (.int r2)) g2 := by
  have hd : 1 ≤ 1 := Nat.le_refl _
  refine gx_M.of (by decide +kernel) (fun _ => Nat.le_of_ble_eq_true rfl) ?_
  intro p l e R s m args below meth c D al cI cJ A X
  refine gx_eq (pc' := 0) (ls' := [(0, .ref (al (40)))]) (st' := []) (g' := g) ⟨rfl, rfl, rfl, rfl⟩ ?_
  unfold m_X10_heardNow at h
  refine gx_aload_n X 0 rfl dX10_heardNow_0 ?_
  refine gx_getf X (40) lf_X10_25 (by decide) (cl_40 _ _) (v := .int ((rdI g 40 6))) rfl dX10_heardNow_1 ?_
  refine gx_aload_n X 0 rfl dX10_heardNow_4 ?_
  refine gx_getf X (40) lf_X10_89 (by decide) (cl_40 _ _) (v := .int ((rdI g 40 4))) rfl dX10_heardNow_5 ?_
  refine gx_icmp_ge X 18 dX10_heardNow_8 (by decide) (fun q1 => ?_) (fun q1 => ?_)
  · replace h := (if_pos q1).symm.trans h
    refine gx_aload_n X 0 rfl dX10_heardNow_18 ?_
    refine gx_getf X (40) lf_X10_89 (by decide) (cl_40 _ _) (v := .int ((rdI g 40 4))) rfl dX10_heardNow_19 ?_
    obtain ⟨rfl, rfl⟩ := ret_eq h
    exact gx_iret X rfl dX10_heardNow_22
  · replace h := (if_neg q1).symm.trans h
    refine gx_aload_n X 0 rfl dX10_heardNow_11 ?_
    refine gx_getf X (40) lf_X10_25 (by decide) (cl_40 _ _) (v := .int ((rdI g 40 6))) rfl dX10_heardNow_12 ?_
    refine gx_goto X 22 dX10_heardNow_15 (by decide) ?_
    obtain ⟨rfl, rfl⟩ := ret_eq h
    exact gx_iret X rfl dX10_heardNow_22
theorem dX10_isAlarm_0 : decode cX10_isAlarm 0 = .ok (.aload_n 0, 1) := by decide +kernel
theorem dX10_isAlarm_1 : decode cX10_isAlarm 1 = .ok (.getfield 89, 3) := by decide +kernel
theorem dX10_isAlarm_4 : decode cX10_isAlarm 4 = .ok (.aload_n 0, 1) := by decide +kernel
theorem dX10_isAlarm_5 : decode cX10_isAlarm 5 = .ok (.invokevirtual 251, 3) := by decide +kernel
theorem dX10_isAlarm_8 : decode cX10_isAlarm 8 = .ok (.isub, 1) := by decide +kernel
theorem dX10_isAlarm_9 : decode cX10_isAlarm 9 = .ok (.iconst 1, 1) := by decide +kernel
theorem dX10_isAlarm_10 : decode cX10_isAlarm 10 = .ok (.iadd, 1) := by decide +kernel
theorem dX10_isAlarm_11 : decode cX10_isAlarm 11 = .ok (.istore_n 1, 1) := by decide +kernel
theorem dX10_isAlarm_12 : decode cX10_isAlarm 12 = .ok (.iconst 0, 1) := by decide +kernel
theorem dX10_isAlarm_13 : decode cX10_isAlarm 13 = .ok (.istore_n 2, 1) := by decide +kernel
theorem dX10_isAlarm_14 : decode cX10_isAlarm 14 = .ok (.iload_n 2, 1) := by decide +kernel
theorem dX10_isAlarm_15 : decode cX10_isAlarm 15 = .ok (.aload_n 0, 1) := by decide +kernel
theorem dX10_isAlarm_16 : decode cX10_isAlarm 16 = .ok (.getfield 21, 3) := by decide +kernel
theorem dX10_isAlarm_19 : decode cX10_isAlarm 19 = .ok (.if_icmp .ge 66, 3) := by decide +kernel
theorem dX10_isAlarm_22 : decode cX10_isAlarm 22 = .ok (.iconst 0, 1) := by decide +kernel
theorem dX10_isAlarm_23 : decode cX10_isAlarm 23 = .ok (.istore_n 3, 1) := by decide +kernel
theorem dX10_isAlarm_24 : decode cX10_isAlarm 24 = .ok (.iconst 0, 1) := by decide +kernel
theorem dX10_isAlarm_25 : decode cX10_isAlarm 25 = .ok (.istore 4, 2) := by decide +kernel
theorem dX10_isAlarm_27 : decode cX10_isAlarm 27 = .ok (.iload 4, 2) := by decide +kernel
theorem dX10_isAlarm_29 : decode cX10_isAlarm 29 = .ok (.aload_n 0, 1) := by decide +kernel
theorem dX10_isAlarm_30 : decode cX10_isAlarm 30 = .ok (.getfield 89, 3) := by decide +kernel
theorem dX10_isAlarm_33 : decode cX10_isAlarm 33 = .ok (.if_icmp .ge 39, 3) := by decide +kernel
theorem dX10_isAlarm_36 : decode cX10_isAlarm 36 = .ok (.iload_n 3, 1) := by decide +kernel
theorem dX10_isAlarm_37 : decode cX10_isAlarm 37 = .ok (.aload_n 0, 1) := by decide +kernel
theorem dX10_isAlarm_38 : decode cX10_isAlarm 38 = .ok (.getfield 58, 3) := by decide +kernel
theorem dX10_isAlarm_41 : decode cX10_isAlarm 41 = .ok (.iload 4, 2) := by decide +kernel
theorem dX10_isAlarm_43 : decode cX10_isAlarm 43 = .ok (.iaload, 1) := by decide +kernel
theorem dX10_isAlarm_44 : decode cX10_isAlarm 44 = .ok (.aload_n 0, 1) := by decide +kernel
theorem dX10_isAlarm_45 : decode cX10_isAlarm 45 = .ok (.getfield 28, 3) := by decide +kernel
theorem dX10_isAlarm_48 : decode cX10_isAlarm 48 = .ok (.bipush 6, 2) := by decide +kernel
theorem dX10_isAlarm_50 : decode cX10_isAlarm 50 = .ok (.iload_n 2, 1) := by decide +kernel
theorem dX10_isAlarm_51 : decode cX10_isAlarm 51 = .ok (.imul, 1) := by decide +kernel
theorem dX10_isAlarm_52 : decode cX10_isAlarm 52 = .ok (.iload 4, 2) := by decide +kernel
theorem dX10_isAlarm_54 : decode cX10_isAlarm 54 = .ok (.iadd, 1) := by decide +kernel
theorem dX10_isAlarm_55 : decode cX10_isAlarm 55 = .ok (.iaload, 1) := by decide +kernel
theorem dX10_isAlarm_56 : decode cX10_isAlarm 56 = .ok (.if_icmp .ne 7, 3) := by decide +kernel
theorem dX10_isAlarm_59 : decode cX10_isAlarm 59 = .ok (.iconst 0, 1) := by decide +kernel
theorem dX10_isAlarm_60 : decode cX10_isAlarm 60 = .ok (.goto 4, 3) := by decide +kernel
theorem dX10_isAlarm_63 : decode cX10_isAlarm 63 = .ok (.iconst 1, 1) := by decide +kernel
theorem dX10_isAlarm_64 : decode cX10_isAlarm 64 = .ok (.iadd, 1) := by decide +kernel
theorem dX10_isAlarm_65 : decode cX10_isAlarm 65 = .ok (.istore_n 3, 1) := by decide +kernel
theorem dX10_isAlarm_66 : decode cX10_isAlarm 66 = .ok (.iinc 4 1, 3) := by decide +kernel
theorem dX10_isAlarm_69 : decode cX10_isAlarm 69 = .ok (.goto (-42), 3) := by decide +kernel
theorem dX10_isAlarm_72 : decode cX10_isAlarm 72 = .ok (.iload_n 3, 1) := by decide +kernel
theorem dX10_isAlarm_73 : decode cX10_isAlarm 73 = .ok (.iload_n 1, 1) := by decide +kernel
theorem dX10_isAlarm_74 : decode cX10_isAlarm 74 = .ok (.if_icmp .ge 5, 3) := by decide +kernel
theorem dX10_isAlarm_77 : decode cX10_isAlarm 77 = .ok (.iconst 0, 1) := by decide +kernel
theorem dX10_isAlarm_78 : decode cX10_isAlarm 78 = .ok (.ireturn, 1) := by decide +kernel
theorem dX10_isAlarm_79 : decode cX10_isAlarm 79 = .ok (.iinc 2 1, 3) := by decide +kernel
theorem dX10_isAlarm_82 : decode cX10_isAlarm 82 = .ok (.goto (-68), 3) := by decide +kernel
theorem dX10_isAlarm_85 : decode cX10_isAlarm 85 = .ok (.iconst 1, 1) := by decide +kernel
theorem dX10_isAlarm_86 : decode cX10_isAlarm 86 = .ok (.ireturn, 1) := by decide +kernel
def m_X10_isAlarm_27 (K14 : Int32 → Int32 → Mm → Option (Int32 × Mm)) : Nat → Int32 → Int32 → Int32 → Int32 → Mm → Option (Int32 × Mm)
  | 0, _, _, _, _, _ => none
  | n + 1, x1, x2, x3, x4, g => (if (rdI g 40 4) ≤ x4 then (if x1 ≤ x3 then K14 x1 (x2 + (1 : Int32)) g else some ((0 : Int32), g)) else gdd (ixo x4 6) (gdd (ixo (((6 : Int32) * x2) + x4) 144) ((if (rdI g 54 x4.toNatClampNeg) = (rdI g 44 (((6 : Int32) * x2) + x4).toNatClampNeg) then m_X10_isAlarm_27 K14 n x1 x2 (x3 + (0 : Int32)) (x4 + (1 : Int32)) g else m_X10_isAlarm_27 K14 n x1 x2 (x3 + (1 : Int32)) (x4 + (1 : Int32)) g))))
set_option maxHeartbeats 2000000 in
theorem t_X10_isAlarm_27 {r2 : Int32} {g2 : Mm} (X : gx_X p R s m args meth c D al cI cJ A RX10 cX10_isAlarm 5 (some .boolean) d 0 0) (hd : 2 ≤ d) {K14 : Int32 → Int32 → Mm → Option (Int32 × Mm)} (hK14 : ∀ (u0 : Int32) (u1 : Int32) (g : Mm), K14 u0 u1 g = some (r2, g2) → gx_G p l e R s m args below meth c (gx_Q below args s D al cI cJ A (some (.int r2)) g2) D al cI cJ A 5 0 0 14 [(0, .ref (al (40))), (1, .int (u0)), (2, .int (u1))] [] g) : ∀ (n : Nat) (x1 : Int32) (x2 : Int32) (x3 : Int32) (x4 : Int32) (g : Mm), m_X10_isAlarm_27 K14 n x1 x2 x3 x4 g = some (r2, g2) → gx_G p l e R s m args below meth c (gx_Q below args s D al cI cJ A (some (.int r2)) g2) D al cI cJ A 5 0 0 27 [(0, .ref (al (40))), (1, .int (x1)), (2, .int (x2)), (3, .int (x3)), (4, .int (x4))] [] g := by
  intro n
  induction n with
  | zero => intro x1 x2 x3 x4 g h; cases h
  | succ n ih =>
    intro x1 x2 x3 x4 g h
    rw [m_X10_isAlarm_27] at h
    refine gx_iload X 4 rfl dX10_isAlarm_27 ?_
    refine gx_aload_n X 0 rfl dX10_isAlarm_29 ?_
    refine gx_getf X (40) lf_X10_89 (by decide) (cl_40 _ _) (v := .int ((rdI g 40 4))) rfl dX10_isAlarm_30 ?_
    refine gx_icmp_ge X 72 dX10_isAlarm_33 (by decide) (fun q1 => ?_) (fun q1 => ?_)
    · replace h := (if_pos q1).symm.trans h
      refine gx_iload_n X 3 rfl dX10_isAlarm_72 ?_
      refine gx_iload_n X 1 rfl dX10_isAlarm_73 ?_
      refine gx_icmp_ge X 79 dX10_isAlarm_74 (by decide) (fun q2 => ?_) (fun q2 => ?_)
      · replace h := (if_pos q2).symm.trans h
        refine gx_iinc X [(2, .int ((x2 + (1 : Int32)))), (0, .ref (al (40))), (1, .int (x1)), (3, .int (x3)), (4, .int (x4))] 2 dX10_isAlarm_79 rfl rfl (by decide) rfl ?_
        refine gx_goto X 14 dX10_isAlarm_82 (by decide) ?_
        exact gx_sub [1, 2, 0] rfl (hK14 x1 (x2 + (1 : Int32)) g h)
      · replace h := (if_neg q2).symm.trans h
        refine gx_iconst X (v := (0 : Int32)) dX10_isAlarm_77 (by decide) ?_
        obtain ⟨rfl, rfl⟩ := ret_eq h
        exact gx_iret X rfl dX10_isAlarm_78
    · replace h := (if_neg q1).symm.trans h
      refine gx_iload_n X 3 rfl dX10_isAlarm_36 ?_
      refine gx_aload_n X 0 rfl dX10_isAlarm_37 ?_
      refine gx_getf X (40) lf_X10_58 (by decide) (cl_40 _ _) (v := .ref (al (54))) rfl dX10_isAlarm_38 ?_
      refine gx_iload X 4 rfl dX10_isAlarm_41 ?_
      obtain ⟨q3, h⟩ := gdd_eq h
      refine gx_iald X (54) 6 (by decide) (cl_54 _ _) q3 dX10_isAlarm_43 ?_
      refine gx_aload_n X 0 rfl dX10_isAlarm_44 ?_
      refine gx_getf X (40) lf_X10_28 (by decide) (cl_40 _ _) (v := .ref (al (44))) rfl dX10_isAlarm_45 ?_
      refine gx_bipush X (v := (6 : Int32)) dX10_isAlarm_48 (by decide) ?_
      refine gx_iload_n X 2 rfl dX10_isAlarm_50 ?_
      refine gx_imul X dX10_isAlarm_51 ?_
      refine gx_iload X 4 rfl dX10_isAlarm_52 ?_
      refine gx_iadd X dX10_isAlarm_54 ?_
      obtain ⟨q4, h⟩ := gdd_eq h
      refine gx_iald X (44) 144 (by decide) (cl_44 _ _) q4 dX10_isAlarm_55 ?_
      refine gx_icmp_ne X 63 dX10_isAlarm_56 (by decide) (fun q5 => ?_) (fun q5 => ?_)
      · replace h := (if_neg q5).symm.trans h
        refine gx_iconst X (v := (1 : Int32)) dX10_isAlarm_63 (by decide) ?_
        refine gx_iadd X dX10_isAlarm_64 ?_
        refine gx_istore_n X [(3, .int ((x3 + (1 : Int32)))), (0, .ref (al (40))), (1, .int (x1)), (2, .int (x2)), (4, .int (x4))] dX10_isAlarm_65 (by decide) rfl ?_
        refine gx_iinc X [(4, .int ((x4 + (1 : Int32)))), (3, .int ((x3 + (1 : Int32)))), (0, .ref (al (40))), (1, .int (x1)), (2, .int (x2))] 4 dX10_isAlarm_66 rfl rfl (by decide) rfl ?_
        refine gx_goto X 27 dX10_isAlarm_69 (by decide) ?_
        exact gx_sub [2, 3, 4, 1, 0] rfl (ih x1 x2 (x3 + (1 : Int32)) (x4 + (1 : Int32)) g h)
      · replace h := (if_pos q5).symm.trans h
        refine gx_iconst X (v := (0 : Int32)) dX10_isAlarm_59 (by decide) ?_
        refine gx_goto X 64 dX10_isAlarm_60 (by decide) ?_
        refine gx_iadd X dX10_isAlarm_64 ?_
        refine gx_istore_n X [(3, .int ((x3 + (0 : Int32)))), (0, .ref (al (40))), (1, .int (x1)), (2, .int (x2)), (4, .int (x4))] dX10_isAlarm_65 (by decide) rfl ?_
        refine gx_iinc X [(4, .int ((x4 + (1 : Int32)))), (3, .int ((x3 + (0 : Int32)))), (0, .ref (al (40))), (1, .int (x1)), (2, .int (x2))] 4 dX10_isAlarm_66 rfl rfl (by decide) rfl ?_
        refine gx_goto X 27 dX10_isAlarm_69 (by decide) ?_
        exact gx_sub [2, 3, 4, 1, 0] rfl (ih x1 x2 (x3 + (0 : Int32)) (x4 + (1 : Int32)) g h)
def m_X10_isAlarm_14 : Nat → Int32 → Int32 → Mm → Option (Int32 × Mm)
  | 0, _, _, _ => none
  | n + 1, x1, x2, g => (if (rdI g 40 5) ≤ x2 then some ((1 : Int32), g) else m_X10_isAlarm_27 (m_X10_isAlarm_14 n) fuL x1 x2 (0 : Int32) (0 : Int32) g)
set_option maxHeartbeats 2000000 in
theorem t_X10_isAlarm_14 {r2 : Int32} {g2 : Mm} (X : gx_X p R s m args meth c D al cI cJ A RX10 cX10_isAlarm 5 (some .boolean) d 0 0) (hd : 2 ≤ d) : ∀ (n : Nat) (x1 : Int32) (x2 : Int32) (g : Mm), m_X10_isAlarm_14 n x1 x2 g = some (r2, g2) → gx_G p l e R s m args below meth c (gx_Q below args s D al cI cJ A (some (.int r2)) g2) D al cI cJ A 5 0 0 14 [(0, .ref (al (40))), (1, .int (x1)), (2, .int (x2))] [] g := by
  intro n
  induction n with
  | zero => intro x1 x2 g h; cases h
  | succ n ih =>
    intro x1 x2 g h
    rw [m_X10_isAlarm_14] at h
    refine gx_iload_n X 2 rfl dX10_isAlarm_14 ?_
    refine gx_aload_n X 0 rfl dX10_isAlarm_15 ?_
    refine gx_getf X (40) lf_X10_21 (by decide) (cl_40 _ _) (v := .int ((rdI g 40 5))) rfl dX10_isAlarm_16 ?_
    refine gx_icmp_ge X 85 dX10_isAlarm_19 (by decide) (fun q1 => ?_) (fun q1 => ?_)
    · replace h := (if_pos q1).symm.trans h
      refine gx_iconst X (v := (1 : Int32)) dX10_isAlarm_85 (by decide) ?_
      obtain ⟨rfl, rfl⟩ := ret_eq h
      exact gx_iret X rfl dX10_isAlarm_86
    · replace h := (if_neg q1).symm.trans h
      refine gx_iconst X (v := (0 : Int32)) dX10_isAlarm_22 (by decide) ?_
      refine gx_istore_n X [(3, .int ((0 : Int32))), (0, .ref (al (40))), (1, .int (x1)), (2, .int (x2))] dX10_isAlarm_23 (by decide) rfl ?_
      refine gx_iconst X (v := (0 : Int32)) dX10_isAlarm_24 (by decide) ?_
      refine gx_istore X [(4, .int ((0 : Int32))), (3, .int ((0 : Int32))), (0, .ref (al (40))), (1, .int (x1)), (2, .int (x2))] dX10_isAlarm_25 (by decide) rfl ?_
      exact gx_sub [2, 3, 4, 1, 0] rfl (t_X10_isAlarm_27 X hd (fun u0 u1 g h => ih u0 u1 g h) fuL x1 x2 (0 : Int32) (0 : Int32) g h)
def m_X10_isAlarm (g : Mm) : Option (Int32 × Mm) := bdd (m_X10_heardNow  g) (fun ra1 ga2 => m_X10_isAlarm_14 fuL (((rdI g 40 4) - ra1) + (1 : Int32)) (0 : Int32) ga2)
set_option maxHeartbeats 2000000 in
theorem c_X10_isAlarm {r2 : Int32} {g g2 : Mm} (h : m_X10_isAlarm g = some (r2, g2)) : gx_M 2 yX10_isAlarm cX10_isAlarm 5 (some .boolean) (fun al => [.ref (al (40))]) g (some (.int r2)) g2 := by
  have hd : 2 ≤ 2 := Nat.le_refl _
  refine gx_M.of (by decide +kernel) (fun _ => Nat.le_of_ble_eq_true rfl) ?_
  intro p l e R s m args below meth c D al cI cJ A X
  refine gx_eq (pc' := 0) (ls' := [(0, .ref (al (40)))]) (st' := []) (g' := g) ⟨rfl, rfl, rfl, rfl⟩ ?_
  unfold m_X10_isAlarm at h
  refine gx_aload_n X 0 rfl dX10_isAlarm_0 ?_
  refine gx_getf X (40) lf_X10_89 (by decide) (cl_40 _ _) (v := .int ((rdI g 40 4))) rfl dX10_isAlarm_1 ?_
  refine gx_aload_n X 0 rfl dX10_isAlarm_4 ?_
  obtain ⟨ra1, ga2, ca3, h⟩ := bdd_eq h
  refine gx_callVi X (40) (c_X10_heardNow ca3) lc_X10_heardNow li_X10_heardNow lm_X10_251 (by decide) (cl_40 _ _) rfl rfl rfl (Nat.le_trans (by decide) hd) rfl (Nat.le_of_ble_eq_true rfl) dX10_isAlarm_5 ?_
  refine gx_isub X dX10_isAlarm_8 ?_
  refine gx_iconst X (v := (1 : Int32)) dX10_isAlarm_9 (by decide) ?_
  refine gx_iadd X dX10_isAlarm_10 ?_
  refine gx_istore_n X [(1, .int ((((rdI g 40 4) - ra1) + (1 : Int32)))), (0, .ref (al (40)))] dX10_isAlarm_11 (by decide) rfl ?_
  refine gx_iconst X (v := (0 : Int32)) dX10_isAlarm_12 (by decide) ?_
  refine gx_istore_n X [(2, .int ((0 : Int32))), (1, .int ((((rdI g 40 4) - ra1) + (1 : Int32)))), (0, .ref (al (40)))] dX10_isAlarm_13 (by decide) rfl ?_
  exact gx_sub [2, 1, 0] rfl (t_X10_isAlarm_14 X hd fuL (((rdI g 40 4) - ra1) + (1 : Int32)) (0 : Int32) ga2 h)
theorem dX10_isBell_0 : decode cX10_isBell 0 = .ok (.iload_n 1, 1) := by decide +kernel
theorem dX10_isBell_1 : decode cX10_isBell 1 = .ok (.i2l, 1) := by decide +kernel
theorem dX10_isBell_2 : decode cX10_isBell 2 = .ok (.lconst 0, 1) := by decide +kernel
theorem dX10_isBell_3 : decode cX10_isBell 3 = .ok (.aload_n 0, 1) := by decide +kernel
theorem dX10_isBell_4 : decode cX10_isBell 4 = .ok (.getfield 89, 3) := by decide +kernel
theorem dX10_isBell_7 : decode cX10_isBell 7 = .ok (.iconst 1, 1) := by decide +kernel
theorem dX10_isBell_8 : decode cX10_isBell 8 = .ok (.isub, 1) := by decide +kernel
theorem dX10_isBell_9 : decode cX10_isBell 9 = .ok (.i2l, 1) := by decide +kernel
theorem dX10_isBell_10 : decode cX10_isBell 10 = .ok (.invokestatic 92, 3) := by decide +kernel
theorem dX10_isBell_13 : decode cX10_isBell 13 = .ok (.ireturn, 1) := by decide +kernel
def m_X10_isBell (a1 : Int32) (g : Mm) : Option (Int32 × Mm) := bdd (m_X10_in (a1.toInt64) (0 : Int64) (((rdI g 40 4) - (1 : Int32)).toInt64) g) (fun ra1 ga2 => gdd (zbI ra1) (some (ra1, ga2)))
set_option maxHeartbeats 2000000 in
theorem c_X10_isBell {r2 : Int32} {g g2 : Mm} {a1 : Int32} (h : m_X10_isBell a1 g = some (r2, g2)) : gx_M 2 yX10_isBell cX10_isBell 2 (some .boolean) (fun al => [.ref (al (40)), .int (a1)]) g (some (.int r2)) g2 := by
  have hd : 2 ≤ 2 := Nat.le_refl _
  refine gx_M.of (by decide +kernel) (fun _ => Nat.le_of_ble_eq_true rfl) ?_
  intro p l e R s m args below meth c D al cI cJ A X
  refine gx_eq (pc' := 0) (ls' := [(0, .ref (al (40))), (1, .int (a1))]) (st' := []) (g' := g) ⟨rfl, rfl, rfl, rfl⟩ ?_
  unfold m_X10_isBell at h
  refine gx_iload_n X 1 rfl dX10_isBell_0 ?_
  refine gx_i2l X dX10_isBell_1 ?_
  refine gx_lconst X (v := (0 : Int64)) dX10_isBell_2 (by decide) ?_
  refine gx_aload_n X 0 rfl dX10_isBell_3 ?_
  refine gx_getf X (40) lf_X10_89 (by decide) (cl_40 _ _) (v := .int ((rdI g 40 4))) rfl dX10_isBell_4 ?_
  refine gx_iconst X (v := (1 : Int32)) dX10_isBell_7 (by decide) ?_
  refine gx_isub X dX10_isBell_8 ?_
  refine gx_i2l X dX10_isBell_9 ?_
  obtain ⟨ra1, ga2, ca3, h⟩ := bdd_eq h
  refine gx_callSi X (c_X10_in ca3) lc_X10_in li_X10_in lm_X10_92 rfl rfl (Nat.le_trans (by decide) hd) rfl (Nat.le_of_ble_eq_true rfl) dX10_isBell_10 ?_
  obtain ⟨q4, h⟩ := gdd_eq h
  obtain ⟨rfl, rfl⟩ := ret_eq h
  exact gx_iret X (zbI_n q4) dX10_isBell_13
theorem dX10_mostStrokes_0 : decode cX10_mostStrokes 0 = .ok (.iconst 0, 1) := by decide +kernel
theorem dX10_mostStrokes_1 : decode cX10_mostStrokes 1 = .ok (.istore_n 1, 1) := by decide +kernel
theorem dX10_mostStrokes_2 : decode cX10_mostStrokes 2 = .ok (.iconst 0, 1) := by decide +kernel
theorem dX10_mostStrokes_3 : decode cX10_mostStrokes 3 = .ok (.istore_n 2, 1) := by decide +kernel
theorem dX10_mostStrokes_4 : decode cX10_mostStrokes 4 = .ok (.iload_n 2, 1) := by decide +kernel
theorem dX10_mostStrokes_5 : decode cX10_mostStrokes 5 = .ok (.aload_n 0, 1) := by decide +kernel
theorem dX10_mostStrokes_6 : decode cX10_mostStrokes 6 = .ok (.getfield 89, 3) := by decide +kernel
theorem dX10_mostStrokes_9 : decode cX10_mostStrokes 9 = .ok (.if_icmp .ge 18, 3) := by decide +kernel
theorem dX10_mostStrokes_12 : decode cX10_mostStrokes 12 = .ok (.iload_n 1, 1) := by decide +kernel
theorem dX10_mostStrokes_13 : decode cX10_mostStrokes 13 = .ok (.aload_n 0, 1) := by decide +kernel
theorem dX10_mostStrokes_14 : decode cX10_mostStrokes 14 = .ok (.getfield 9, 3) := by decide +kernel
theorem dX10_mostStrokes_17 : decode cX10_mostStrokes 17 = .ok (.iload_n 2, 1) := by decide +kernel
theorem dX10_mostStrokes_18 : decode cX10_mostStrokes 18 = .ok (.iaload, 1) := by decide +kernel
theorem dX10_mostStrokes_19 : decode cX10_mostStrokes 19 = .ok (.iadd, 1) := by decide +kernel
theorem dX10_mostStrokes_20 : decode cX10_mostStrokes 20 = .ok (.istore_n 1, 1) := by decide +kernel
theorem dX10_mostStrokes_21 : decode cX10_mostStrokes 21 = .ok (.iinc 2 1, 3) := by decide +kernel
theorem dX10_mostStrokes_24 : decode cX10_mostStrokes 24 = .ok (.goto (-20), 3) := by decide +kernel
theorem dX10_mostStrokes_27 : decode cX10_mostStrokes 27 = .ok (.iload_n 1, 1) := by decide +kernel
theorem dX10_mostStrokes_28 : decode cX10_mostStrokes 28 = .ok (.ireturn, 1) := by decide +kernel
def m_X10_mostStrokes_4 : Nat → Int32 → Int32 → Mm → Option (Int32 × Mm)
  | 0, _, _, _ => none
  | n + 1, x1, x2, g => (if (rdI g 40 4) ≤ x2 then some (x1, g) else gdd (ixo x2 6) (m_X10_mostStrokes_4 n (x1 + (rdI g 41 x2.toNatClampNeg)) (x2 + (1 : Int32)) g))
set_option maxHeartbeats 2000000 in
theorem t_X10_mostStrokes_4 {r2 : Int32} {g2 : Mm} (X : gx_X p R s m args meth c D al cI cJ A RX10 cX10_mostStrokes 3 (some .int) d 0 0) (hd : 1 ≤ d) : ∀ (n : Nat) (x1 : Int32) (x2 : Int32) (g : Mm), m_X10_mostStrokes_4 n x1 x2 g = some (r2, g2) → gx_G p l e R s m args below meth c (gx_Q below args s D al cI cJ A (some (.int r2)) g2) D al cI cJ A 3 0 0 4 [(0, .ref (al (40))), (1, .int (x1)), (2, .int (x2))] [] g := by
  intro n
  induction n with
  | zero => intro x1 x2 g h; cases h
  | succ n ih =>
    intro x1 x2 g h
    rw [m_X10_mostStrokes_4] at h
    refine gx_iload_n X 2 rfl dX10_mostStrokes_4 ?_
    refine gx_aload_n X 0 rfl dX10_mostStrokes_5 ?_
    refine gx_getf X (40) lf_X10_89 (by decide) (cl_40 _ _) (v := .int ((rdI g 40 4))) rfl dX10_mostStrokes_6 ?_
    refine gx_icmp_ge X 27 dX10_mostStrokes_9 (by decide) (fun q1 => ?_) (fun q1 => ?_)
    · replace h := (if_pos q1).symm.trans h
      refine gx_iload_n X 1 rfl dX10_mostStrokes_27 ?_
      obtain ⟨rfl, rfl⟩ := ret_eq h
      exact gx_iret X rfl dX10_mostStrokes_28
    · replace h := (if_neg q1).symm.trans h
      refine gx_iload_n X 1 rfl dX10_mostStrokes_12 ?_
      refine gx_aload_n X 0 rfl dX10_mostStrokes_13 ?_
      refine gx_getf X (40) lf_X10_9 (by decide) (cl_40 _ _) (v := .ref (al (41))) rfl dX10_mostStrokes_14 ?_
      refine gx_iload_n X 2 rfl dX10_mostStrokes_17 ?_
      obtain ⟨q2, h⟩ := gdd_eq h
      refine gx_iald X (41) 6 (by decide) (cl_41 _ _) q2 dX10_mostStrokes_18 ?_
      refine gx_iadd X dX10_mostStrokes_19 ?_
      refine gx_istore_n X [(1, .int ((x1 + (rdI g 41 x2.toNatClampNeg)))), (0, .ref (al (40))), (2, .int (x2))] dX10_mostStrokes_20 (by decide) rfl ?_
      refine gx_iinc X [(2, .int ((x2 + (1 : Int32)))), (1, .int ((x1 + (rdI g 41 x2.toNatClampNeg)))), (0, .ref (al (40)))] 2 dX10_mostStrokes_21 rfl rfl (by decide) rfl ?_
      refine gx_goto X 4 dX10_mostStrokes_24 (by decide) ?_
      exact gx_sub [2, 1, 0] rfl (ih (x1 + (rdI g 41 x2.toNatClampNeg)) (x2 + (1 : Int32)) g h)
def m_X10_mostStrokes (g : Mm) : Option (Int32 × Mm) := m_X10_mostStrokes_4 fuL (0 : Int32) (0 : Int32) g
set_option maxHeartbeats 2000000 in
theorem c_X10_mostStrokes {r2 : Int32} {g g2 : Mm} (h : m_X10_mostStrokes g = some (r2, g2)) : gx_M 1 yX10_mostStrokes cX10_mostStrokes 3 (some .int) (fun al => [.ref (al (40))]) g (some (.int r2)) g2 := by
  have hd : 1 ≤ 1 := Nat.le_refl _
  refine gx_M.of (by decide +kernel) (fun _ => Nat.le_of_ble_eq_true rfl) ?_
  intro p l e R s m args below meth c D al cI cJ A X
  refine gx_eq (pc' := 0) (ls' := [(0, .ref (al (40)))]) (st' := []) (g' := g) ⟨rfl, rfl, rfl, rfl⟩ ?_
  unfold m_X10_mostStrokes at h
  refine gx_iconst X (v := (0 : Int32)) dX10_mostStrokes_0 (by decide) ?_
  refine gx_istore_n X [(1, .int ((0 : Int32))), (0, .ref (al (40)))] dX10_mostStrokes_1 (by decide) rfl ?_
  refine gx_iconst X (v := (0 : Int32)) dX10_mostStrokes_2 (by decide) ?_
  refine gx_istore_n X [(2, .int ((0 : Int32))), (1, .int ((0 : Int32))), (0, .ref (al (40)))] dX10_mostStrokes_3 (by decide) rfl ?_
  exact gx_sub [2, 1, 0] rfl (t_X10_mostStrokes_4 X hd fuL (0 : Int32) (0 : Int32) g h)
theorem dX10_alarm_0 : decode cX10_alarm 0 = .ok (.aload_n 0, 1) := by decide +kernel
theorem dX10_alarm_1 : decode cX10_alarm 1 = .ok (.iload_n 1, 1) := by decide +kernel
theorem dX10_alarm_2 : decode cX10_alarm 2 = .ok (.invokevirtual 100, 3) := by decide +kernel
theorem dX10_alarm_5 : decode cX10_alarm 5 = .ok (.ifCond .ne 5, 3) := by decide +kernel
theorem dX10_alarm_8 : decode cX10_alarm 8 = .ok (.iconst (-1), 1) := by decide +kernel
theorem dX10_alarm_9 : decode cX10_alarm 9 = .ok (.ireturn, 1) := by decide +kernel
theorem dX10_alarm_10 : decode cX10_alarm 10 = .ok (.aload_n 0, 1) := by decide +kernel
theorem dX10_alarm_11 : decode cX10_alarm 11 = .ok (.getfield 89, 3) := by decide +kernel
theorem dX10_alarm_14 : decode cX10_alarm 14 = .ok (.iconst 3, 1) := by decide +kernel
theorem dX10_alarm_15 : decode cX10_alarm 15 = .ok (.if_icmp .le 6, 3) := by decide +kernel
theorem dX10_alarm_18 : decode cX10_alarm 18 = .ok (.bipush (-5), 2) := by decide +kernel
theorem dX10_alarm_20 : decode cX10_alarm 20 = .ok (.ireturn, 1) := by decide +kernel
theorem dX10_alarm_21 : decode cX10_alarm 21 = .ok (.iconst 1, 1) := by decide +kernel
theorem dX10_alarm_22 : decode cX10_alarm 22 = .ok (.istore_n 2, 1) := by decide +kernel
theorem dX10_alarm_23 : decode cX10_alarm 23 = .ok (.iconst 0, 1) := by decide +kernel
theorem dX10_alarm_24 : decode cX10_alarm 24 = .ok (.istore_n 3, 1) := by decide +kernel
theorem dX10_alarm_25 : decode cX10_alarm 25 = .ok (.iload_n 3, 1) := by decide +kernel
theorem dX10_alarm_26 : decode cX10_alarm 26 = .ok (.aload_n 0, 1) := by decide +kernel
theorem dX10_alarm_27 : decode cX10_alarm 27 = .ok (.getfield 89, 3) := by decide +kernel
theorem dX10_alarm_30 : decode cX10_alarm 30 = .ok (.if_icmp .ge 20, 3) := by decide +kernel
theorem dX10_alarm_33 : decode cX10_alarm 33 = .ok (.iload_n 2, 1) := by decide +kernel
theorem dX10_alarm_34 : decode cX10_alarm 34 = .ok (.aload_n 0, 1) := by decide +kernel
theorem dX10_alarm_35 : decode cX10_alarm 35 = .ok (.getfield 9, 3) := by decide +kernel
theorem dX10_alarm_38 : decode cX10_alarm 38 = .ok (.iload_n 3, 1) := by decide +kernel
theorem dX10_alarm_39 : decode cX10_alarm 39 = .ok (.iaload, 1) := by decide +kernel
theorem dX10_alarm_40 : decode cX10_alarm 40 = .ok (.iconst 1, 1) := by decide +kernel
theorem dX10_alarm_41 : decode cX10_alarm 41 = .ok (.iadd, 1) := by decide +kernel
theorem dX10_alarm_42 : decode cX10_alarm 42 = .ok (.imul, 1) := by decide +kernel
theorem dX10_alarm_43 : decode cX10_alarm 43 = .ok (.istore_n 2, 1) := by decide +kernel
theorem dX10_alarm_44 : decode cX10_alarm 44 = .ok (.iinc 3 1, 3) := by decide +kernel
theorem dX10_alarm_47 : decode cX10_alarm 47 = .ok (.goto (-22), 3) := by decide +kernel
theorem dX10_alarm_50 : decode cX10_alarm 50 = .ok (.iconst 0, 1) := by decide +kernel
theorem dX10_alarm_51 : decode cX10_alarm 51 = .ok (.istore_n 3, 1) := by decide +kernel
theorem dX10_alarm_52 : decode cX10_alarm 52 = .ok (.iload_n 3, 1) := by decide +kernel
theorem dX10_alarm_53 : decode cX10_alarm 53 = .ok (.aload_n 0, 1) := by decide +kernel
theorem dX10_alarm_54 : decode cX10_alarm 54 = .ok (.invokevirtual 313, 3) := by decide +kernel
theorem dX10_alarm_57 : decode cX10_alarm 57 = .ok (.if_icmp .gt 115, 3) := by decide +kernel
theorem dX10_alarm_60 : decode cX10_alarm 60 = .ok (.iconst 0, 1) := by decide +kernel
theorem dX10_alarm_61 : decode cX10_alarm 61 = .ok (.istore 4, 2) := by decide +kernel
theorem dX10_alarm_63 : decode cX10_alarm 63 = .ok (.iload 4, 2) := by decide +kernel
theorem dX10_alarm_65 : decode cX10_alarm 65 = .ok (.iload_n 2, 1) := by decide +kernel
theorem dX10_alarm_66 : decode cX10_alarm 66 = .ok (.if_icmp .ge 100, 3) := by decide +kernel
theorem dX10_alarm_69 : decode cX10_alarm 69 = .ok (.iload 4, 2) := by decide +kernel
theorem dX10_alarm_71 : decode cX10_alarm 71 = .ok (.istore 5, 2) := by decide +kernel
theorem dX10_alarm_73 : decode cX10_alarm 73 = .ok (.iconst 0, 1) := by decide +kernel
theorem dX10_alarm_74 : decode cX10_alarm 74 = .ok (.istore 6, 2) := by decide +kernel
theorem dX10_alarm_76 : decode cX10_alarm 76 = .ok (.aload_n 0, 1) := by decide +kernel
theorem dX10_alarm_77 : decode cX10_alarm 77 = .ok (.getfield 89, 3) := by decide +kernel
theorem dX10_alarm_80 : decode cX10_alarm 80 = .ok (.iconst 1, 1) := by decide +kernel
theorem dX10_alarm_81 : decode cX10_alarm 81 = .ok (.isub, 1) := by decide +kernel
theorem dX10_alarm_82 : decode cX10_alarm 82 = .ok (.istore 7, 2) := by decide +kernel
theorem dX10_alarm_84 : decode cX10_alarm 84 = .ok (.iload 7, 2) := by decide +kernel
theorem dX10_alarm_86 : decode cX10_alarm 86 = .ok (.ifCond .lt 54, 3) := by decide +kernel
theorem dX10_alarm_89 : decode cX10_alarm 89 = .ok (.aload_n 0, 1) := by decide +kernel
theorem dX10_alarm_90 : decode cX10_alarm 90 = .ok (.getfield 58, 3) := by decide +kernel
theorem dX10_alarm_93 : decode cX10_alarm 93 = .ok (.iload 7, 2) := by decide +kernel
theorem dX10_alarm_95 : decode cX10_alarm 95 = .ok (.iload 5, 2) := by decide +kernel
theorem dX10_alarm_97 : decode cX10_alarm 97 = .ok (.aload_n 0, 1) := by decide +kernel
theorem dX10_alarm_98 : decode cX10_alarm 98 = .ok (.getfield 9, 3) := by decide +kernel
theorem dX10_alarm_101 : decode cX10_alarm 101 = .ok (.iload 7, 2) := by decide +kernel
theorem dX10_alarm_103 : decode cX10_alarm 103 = .ok (.iaload, 1) := by decide +kernel
theorem dX10_alarm_104 : decode cX10_alarm 104 = .ok (.iconst 1, 1) := by decide +kernel
theorem dX10_alarm_105 : decode cX10_alarm 105 = .ok (.iadd, 1) := by decide +kernel
theorem dX10_alarm_106 : decode cX10_alarm 106 = .ok (.irem, 1) := by decide +kernel
theorem dX10_alarm_107 : decode cX10_alarm 107 = .ok (.iastore, 1) := by decide +kernel
theorem dX10_alarm_108 : decode cX10_alarm 108 = .ok (.iload 6, 2) := by decide +kernel
theorem dX10_alarm_110 : decode cX10_alarm 110 = .ok (.aload_n 0, 1) := by decide +kernel
theorem dX10_alarm_111 : decode cX10_alarm 111 = .ok (.getfield 58, 3) := by decide +kernel
theorem dX10_alarm_114 : decode cX10_alarm 114 = .ok (.iload 7, 2) := by decide +kernel
theorem dX10_alarm_116 : decode cX10_alarm 116 = .ok (.iaload, 1) := by decide +kernel
theorem dX10_alarm_117 : decode cX10_alarm 117 = .ok (.iadd, 1) := by decide +kernel
theorem dX10_alarm_118 : decode cX10_alarm 118 = .ok (.istore 6, 2) := by decide +kernel
theorem dX10_alarm_120 : decode cX10_alarm 120 = .ok (.iload 5, 2) := by decide +kernel
theorem dX10_alarm_122 : decode cX10_alarm 122 = .ok (.aload_n 0, 1) := by decide +kernel
theorem dX10_alarm_123 : decode cX10_alarm 123 = .ok (.getfield 9, 3) := by decide +kernel
theorem dX10_alarm_126 : decode cX10_alarm 126 = .ok (.iload 7, 2) := by decide +kernel
theorem dX10_alarm_128 : decode cX10_alarm 128 = .ok (.iaload, 1) := by decide +kernel
theorem dX10_alarm_129 : decode cX10_alarm 129 = .ok (.iconst 1, 1) := by decide +kernel
theorem dX10_alarm_130 : decode cX10_alarm 130 = .ok (.iadd, 1) := by decide +kernel
theorem dX10_alarm_131 : decode cX10_alarm 131 = .ok (.idiv, 1) := by decide +kernel
theorem dX10_alarm_132 : decode cX10_alarm 132 = .ok (.istore 5, 2) := by decide +kernel
theorem dX10_alarm_134 : decode cX10_alarm 134 = .ok (.iinc 7 (-1), 3) := by decide +kernel
theorem dX10_alarm_137 : decode cX10_alarm 137 = .ok (.goto (-53), 3) := by decide +kernel
theorem dX10_alarm_140 : decode cX10_alarm 140 = .ok (.iload 6, 2) := by decide +kernel
theorem dX10_alarm_142 : decode cX10_alarm 142 = .ok (.iload_n 3, 1) := by decide +kernel
theorem dX10_alarm_143 : decode cX10_alarm 143 = .ok (.if_icmp .ne 17, 3) := by decide +kernel
theorem dX10_alarm_146 : decode cX10_alarm 146 = .ok (.aload_n 0, 1) := by decide +kernel
theorem dX10_alarm_147 : decode cX10_alarm 147 = .ok (.invokevirtual 320, 3) := by decide +kernel
theorem dX10_alarm_150 : decode cX10_alarm 150 = .ok (.ifCond .eq 10, 3) := by decide +kernel
theorem dX10_alarm_153 : decode cX10_alarm 153 = .ok (.aload_n 0, 1) := by decide +kernel
theorem dX10_alarm_154 : decode cX10_alarm 154 = .ok (.getfield 58, 3) := by decide +kernel
theorem dX10_alarm_157 : decode cX10_alarm 157 = .ok (.iload_n 1, 1) := by decide +kernel
theorem dX10_alarm_158 : decode cX10_alarm 158 = .ok (.iaload, 1) := by decide +kernel
theorem dX10_alarm_159 : decode cX10_alarm 159 = .ok (.ireturn, 1) := by decide +kernel
theorem dX10_alarm_160 : decode cX10_alarm 160 = .ok (.iinc 4 1, 3) := by decide +kernel
theorem dX10_alarm_163 : decode cX10_alarm 163 = .ok (.goto (-100), 3) := by decide +kernel
theorem dX10_alarm_166 : decode cX10_alarm 166 = .ok (.iinc 3 1, 3) := by decide +kernel
theorem dX10_alarm_169 : decode cX10_alarm 169 = .ok (.goto (-117), 3) := by decide +kernel
theorem dX10_alarm_172 : decode cX10_alarm 172 = .ok (.bipush (-2), 2) := by decide +kernel
theorem dX10_alarm_174 : decode cX10_alarm 174 = .ok (.ireturn, 1) := by decide +kernel
def m_X10_alarm_84 (K63 : Int32 → Int32 → Int32 → Int32 → Mm → Option (Int32 × Mm)) : Nat → Int32 → Int32 → Int32 → Int32 → Int32 → Int32 → Int32 → Mm → Option (Int32 × Mm)
  | 0, _, _, _, _, _, _, _, _ => none
  | n + 1, x1, x2, x3, x4, x5, x6, x7, g => (if x7 < (0 : Int32) then (if x6 = x3 then bdd (m_X10_isAlarm  g) (fun ra3 ga4 => (if ra3 = (0 : Int32) then K63 x1 x2 x3 (x4 + (1 : Int32)) ga4 else gdd (ixo x1 6) (some ((rdI ga4 54 x1.toNatClampNeg), ga4)))) else K63 x1 x2 x3 (x4 + (1 : Int32)) g) else gdd (ixo x7 6) (gdd (decide (¬ ((rdI g 41 x7.toNatClampNeg) + (1 : Int32)) = 0)) (gdd (ixo x7 6) (gdd (ixo x7 6) (lti (x6 + (rdI (wrI g 54 x7.toNatClampNeg (rmI x5 ((rdI g 41 x7.toNatClampNeg) + (1 : Int32)))) 54 x7.toNatClampNeg)) (fun v12 => gdd (ixo x7 6) (gdd (decide (¬ ((rdI (wrI g 54 x7.toNatClampNeg (rmI x5 ((rdI g 41 x7.toNatClampNeg) + (1 : Int32)))) 41 x7.toNatClampNeg) + (1 : Int32)) = 0)) (lti (x5 / ((rdI (wrI g 54 x7.toNatClampNeg (rmI x5 ((rdI g 41 x7.toNatClampNeg) + (1 : Int32)))) 41 x7.toNatClampNeg) + (1 : Int32))) (fun v15 => m_X10_alarm_84 K63 n x1 x2 x3 x4 v15 v12 (x7 + (-1 : Int32)) (wrI g 54 x7.toNatClampNeg (rmI x5 ((rdI g 41 x7.toNatClampNeg) + (1 : Int32)))))))))))))
set_option maxHeartbeats 2000000 in
theorem t_X10_alarm_84 {r2 : Int32} {g2 : Mm} (X : gx_X p R s m args meth c D al cI cJ A RX10 cX10_alarm 8 (some .int) d 0 0) (hd : 3 ≤ d) {K63 : Int32 → Int32 → Int32 → Int32 → Mm → Option (Int32 × Mm)} (hK63 : ∀ (u0 : Int32) (u1 : Int32) (u2 : Int32) (u3 : Int32) (g : Mm), K63 u0 u1 u2 u3 g = some (r2, g2) → gx_G p l e R s m args below meth c (gx_Q below args s D al cI cJ A (some (.int r2)) g2) D al cI cJ A 8 0 0 63 [(0, .ref (al (40))), (1, .int (u0)), (2, .int (u1)), (3, .int (u2)), (4, .int (u3))] [] g) : ∀ (n : Nat) (x1 : Int32) (x2 : Int32) (x3 : Int32) (x4 : Int32) (x5 : Int32) (x6 : Int32) (x7 : Int32) (g : Mm), m_X10_alarm_84 K63 n x1 x2 x3 x4 x5 x6 x7 g = some (r2, g2) → gx_G p l e R s m args below meth c (gx_Q below args s D al cI cJ A (some (.int r2)) g2) D al cI cJ A 8 0 0 84 [(0, .ref (al (40))), (1, .int (x1)), (2, .int (x2)), (3, .int (x3)), (4, .int (x4)), (5, .int (x5)), (6, .int (x6)), (7, .int (x7))] [] g := by
  intro n
  induction n with
  | zero => intro x1 x2 x3 x4 x5 x6 x7 g h; cases h
  | succ n ih =>
    intro x1 x2 x3 x4 x5 x6 x7 g h
    rw [m_X10_alarm_84] at h
    refine gx_iload X 7 rfl dX10_alarm_84 ?_
    refine gx_if_lt X 140 dX10_alarm_86 (by decide) (fun q1 => ?_) (fun q1 => ?_)
    · replace h := (if_pos q1).symm.trans h
      refine gx_iload X 6 rfl dX10_alarm_140 ?_
      refine gx_iload_n X 3 rfl dX10_alarm_142 ?_
      refine gx_icmp_ne X 160 dX10_alarm_143 (by decide) (fun q2 => ?_) (fun q2 => ?_)
      · replace h := (if_neg q2).symm.trans h
        refine gx_iinc X [(4, .int ((x4 + (1 : Int32)))), (0, .ref (al (40))), (1, .int (x1)), (2, .int (x2)), (3, .int (x3)), (5, .int (x5)), (6, .int (x6)), (7, .int (x7))] 4 dX10_alarm_160 rfl rfl (by decide) rfl ?_
        refine gx_goto X 63 dX10_alarm_163 (by decide) ?_
        exact gx_sub [1, 2, 3, 4, 0] rfl (hK63 x1 x2 x3 (x4 + (1 : Int32)) g h)
      · replace h := (if_pos q2).symm.trans h
        refine gx_aload_n X 0 rfl dX10_alarm_146 ?_
        obtain ⟨ra3, ga4, ca5, h⟩ := bdd_eq h
        refine gx_callVi X (40) (c_X10_isAlarm ca5) lc_X10_isAlarm li_X10_isAlarm lm_X10_320 (by decide) (cl_40 _ _) rfl rfl rfl (Nat.le_trans (by decide) hd) rfl (Nat.le_of_ble_eq_true rfl) dX10_alarm_147 ?_
        refine gx_if_eq X 160 dX10_alarm_150 (by decide) (fun q6 => ?_) (fun q6 => ?_)
        · replace h := (if_pos q6).symm.trans h
          refine gx_iinc X [(4, .int ((x4 + (1 : Int32)))), (0, .ref (al (40))), (1, .int (x1)), (2, .int (x2)), (3, .int (x3)), (5, .int (x5)), (6, .int (x6)), (7, .int (x7))] 4 dX10_alarm_160 rfl rfl (by decide) rfl ?_
          refine gx_goto X 63 dX10_alarm_163 (by decide) ?_
          exact gx_sub [1, 2, 3, 4, 0] rfl (hK63 x1 x2 x3 (x4 + (1 : Int32)) ga4 h)
        · replace h := (if_neg q6).symm.trans h
          refine gx_aload_n X 0 rfl dX10_alarm_153 ?_
          refine gx_getf X (40) lf_X10_58 (by decide) (cl_40 _ _) (v := .ref (al (54))) rfl dX10_alarm_154 ?_
          refine gx_iload_n X 1 rfl dX10_alarm_157 ?_
          obtain ⟨q7, h⟩ := gdd_eq h
          refine gx_iald X (54) 6 (by decide) (cl_54 _ _) q7 dX10_alarm_158 ?_
          obtain ⟨rfl, rfl⟩ := ret_eq h
          exact gx_iret X rfl dX10_alarm_159
    · replace h := (if_neg q1).symm.trans h
      refine gx_aload_n X 0 rfl dX10_alarm_89 ?_
      refine gx_getf X (40) lf_X10_58 (by decide) (cl_40 _ _) (v := .ref (al (54))) rfl dX10_alarm_90 ?_
      refine gx_iload X 7 rfl dX10_alarm_93 ?_
      refine gx_iload X 5 rfl dX10_alarm_95 ?_
      refine gx_aload_n X 0 rfl dX10_alarm_97 ?_
      refine gx_getf X (40) lf_X10_9 (by decide) (cl_40 _ _) (v := .ref (al (41))) rfl dX10_alarm_98 ?_
      refine gx_iload X 7 rfl dX10_alarm_101 ?_
      obtain ⟨q8, h⟩ := gdd_eq h
      refine gx_iald X (41) 6 (by decide) (cl_41 _ _) q8 dX10_alarm_103 ?_
      refine gx_iconst X (v := (1 : Int32)) dX10_alarm_104 (by decide) ?_
      refine gx_iadd X dX10_alarm_105 ?_
      obtain ⟨q9, h⟩ := gdd_eq h
      refine gx_irem X dX10_alarm_106 (of_decide_eq_true q9) ?_
      obtain ⟨q10, h⟩ := gdd_eq h
      refine gx_iast X (54) 6 (by decide) (fun r => cl_54 r _) q10 dX10_alarm_107 ?_
      refine gx_iload X 6 rfl dX10_alarm_108 ?_
      refine gx_aload_n X 0 rfl dX10_alarm_110 ?_
      refine gx_getf X (40) lf_X10_58 (by decide) (cl_40 _ _) (v := .ref (al (54))) rfl dX10_alarm_111 ?_
      refine gx_iload X 7 rfl dX10_alarm_114 ?_
      obtain ⟨q11, h⟩ := gdd_eq h
      refine gx_iald X (54) 6 (by decide) (cl_54 _ _) q11 dX10_alarm_116 ?_
      refine gx_iadd X dX10_alarm_117 ?_
      obtain ⟨v12, ev12, h⟩ := lti_eq h
      refine gx_topi ev12 ?_
      refine gx_istore X [(6, .int (v12)), (0, .ref (al (40))), (1, .int (x1)), (2, .int (x2)), (3, .int (x3)), (4, .int (x4)), (5, .int (x5)), (7, .int (x7))] dX10_alarm_118 (by decide) rfl ?_
      refine gx_iload X 6 rfl dX10_alarm_120 ?_
      refine gx_aload_n X 1 rfl dX10_alarm_122 ?_
      refine gx_getf X (40) lf_X10_9 (by decide) (cl_40 _ _) (v := .ref (al (41))) rfl dX10_alarm_123 ?_
      refine gx_iload X 7 rfl dX10_alarm_126 ?_
      obtain ⟨q13, h⟩ := gdd_eq h
      refine gx_iald X (41) 6 (by decide) (cl_41 _ _) q13 dX10_alarm_128 ?_
      refine gx_iconst X (v := (1 : Int32)) dX10_alarm_129 (by decide) ?_
      refine gx_iadd X dX10_alarm_130 ?_
      obtain ⟨q14, h⟩ := gdd_eq h
      refine gx_idiv X dX10_alarm_131 (of_decide_eq_true q14) ?_
      obtain ⟨v15, ev15, h⟩ := lti_eq h
      refine gx_topi ev15 ?_
      refine gx_istore X [(5, .int (v15)), (6, .int (v12)), (0, .ref (al (40))), (1, .int (x1)), (2, .int (x2)), (3, .int (x3)), (4, .int (x4)), (7, .int (x7))] dX10_alarm_132 (by decide) rfl ?_
      refine gx_iinc X [(7, .int ((x7 + (-1 : Int32)))), (5, .int (v15)), (6, .int (v12)), (0, .ref (al (40))), (1, .int (x1)), (2, .int (x2)), (3, .int (x3)), (4, .int (x4))] 7 dX10_alarm_134 rfl rfl (by decide) rfl ?_
      refine gx_goto X 84 dX10_alarm_137 (by decide) ?_
      exact gx_sub [3, 4, 5, 6, 7, 1, 2, 0] rfl (ih x1 x2 x3 x4 v15 v12 (x7 + (-1 : Int32)) (wrI g 54 x7.toNatClampNeg (rmI x5 ((rdI g 41 x7.toNatClampNeg) + (1 : Int32)))) h)
def m_X10_alarm_63 (K52 : Int32 → Int32 → Int32 → Mm → Option (Int32 × Mm)) : Nat → Int32 → Int32 → Int32 → Int32 → Mm → Option (Int32 × Mm)
  | 0, _, _, _, _, _ => none
  | n + 1, x1, x2, x3, x4, g => (if x2 ≤ x4 then K52 x1 x2 (x3 + (1 : Int32)) g else m_X10_alarm_84 (m_X10_alarm_63 K52 n) fuL x1 x2 x3 x4 x4 (0 : Int32) ((rdI g 40 4) - (1 : Int32)) g)
set_option maxHeartbeats 2000000 in
theorem t_X10_alarm_63 {r2 : Int32} {g2 : Mm} (X : gx_X p R s m args meth c D al cI cJ A RX10 cX10_alarm 8 (some .int) d 0 0) (hd : 3 ≤ d) {K52 : Int32 → Int32 → Int32 → Mm → Option (Int32 × Mm)} (hK52 : ∀ (u0 : Int32) (u1 : Int32) (u2 : Int32) (g : Mm), K52 u0 u1 u2 g = some (r2, g2) → gx_G p l e R s m args below meth c (gx_Q below args s D al cI cJ A (some (.int r2)) g2) D al cI cJ A 8 0 0 52 [(0, .ref (al (40))), (1, .int (u0)), (2, .int (u1)), (3, .int (u2))] [] g) : ∀ (n : Nat) (x1 : Int32) (x2 : Int32) (x3 : Int32) (x4 : Int32) (g : Mm), m_X10_alarm_63 K52 n x1 x2 x3 x4 g = some (r2, g2) → gx_G p l e R s m args below meth c (gx_Q below args s D al cI cJ A (some (.int r2)) g2) D al cI cJ A 8 0 0 63 [(0, .ref (al (40))), (1, .int (x1)), (2, .int (x2)), (3, .int (x3)), (4, .int (x4))] [] g := by
  intro n
  induction n with
  | zero => intro x1 x2 x3 x4 g h; cases h
  | succ n ih =>
    intro x1 x2 x3 x4 g h
    rw [m_X10_alarm_63] at h
    refine gx_iload X 4 rfl dX10_alarm_63 ?_
    refine gx_iload_n X 2 rfl dX10_alarm_65 ?_
    refine gx_icmp_ge X 166 dX10_alarm_66 (by decide) (fun q1 => ?_) (fun q1 => ?_)
    · replace h := (if_pos q1).symm.trans h
      refine gx_iinc X [(3, .int ((x3 + (1 : Int32)))), (0, .ref (al (40))), (1, .int (x1)), (2, .int (x2)), (4, .int (x4))] 3 dX10_alarm_166 rfl rfl (by decide) rfl ?_
      refine gx_goto X 52 dX10_alarm_169 (by decide) ?_
      exact gx_sub [1, 2, 3, 0] rfl (hK52 x1 x2 (x3 + (1 : Int32)) g h)
    · replace h := (if_neg q1).symm.trans h
      refine gx_iload X 4 rfl dX10_alarm_69 ?_
      refine gx_istore X [(5, .int (x4)), (0, .ref (al (40))), (1, .int (x1)), (2, .int (x2)), (3, .int (x3)), (4, .int (x4))] dX10_alarm_71 (by decide) rfl ?_
      refine gx_iconst X (v := (0 : Int32)) dX10_alarm_73 (by decide) ?_
      refine gx_istore X [(6, .int ((0 : Int32))), (5, .int (x4)), (0, .ref (al (40))), (1, .int (x1)), (2, .int (x2)), (3, .int (x3)), (4, .int (x4))] dX10_alarm_74 (by decide) rfl ?_
      refine gx_aload_n X 2 rfl dX10_alarm_76 ?_
      refine gx_getf X (40) lf_X10_89 (by decide) (cl_40 _ _) (v := .int ((rdI g 40 4))) rfl dX10_alarm_77 ?_
      refine gx_iconst X (v := (1 : Int32)) dX10_alarm_80 (by decide) ?_
      refine gx_isub X dX10_alarm_81 ?_
      refine gx_istore X [(7, .int (((rdI g 40 4) - (1 : Int32)))), (6, .int ((0 : Int32))), (5, .int (x4)), (0, .ref (al (40))), (1, .int (x1)), (2, .int (x2)), (3, .int (x3)), (4, .int (x4))] dX10_alarm_82 (by decide) rfl ?_
      exact gx_sub [3, 4, 5, 6, 7, 2, 1, 0] rfl (t_X10_alarm_84 X hd (fun u0 u1 u2 u3 g h => ih u0 u1 u2 u3 g h) fuL x1 x2 x3 x4 x4 (0 : Int32) ((rdI g 40 4) - (1 : Int32)) g h)
def m_X10_alarm_52 : Nat → Int32 → Int32 → Int32 → Mm → Option (Int32 × Mm)
  | 0, _, _, _, _ => none
  | n + 1, x1, x2, x3, g => bdd (m_X10_mostStrokes  g) (fun ra1 ga2 => (if ra1 < x3 then some ((-2 : Int32), ga2) else m_X10_alarm_63 (m_X10_alarm_52 n) fuL x1 x2 x3 (0 : Int32) ga2))
set_option maxHeartbeats 2000000 in
theorem t_X10_alarm_52 {r2 : Int32} {g2 : Mm} (X : gx_X p R s m args meth c D al cI cJ A RX10 cX10_alarm 8 (some .int) d 0 0) (hd : 3 ≤ d) : ∀ (n : Nat) (x1 : Int32) (x2 : Int32) (x3 : Int32) (g : Mm), m_X10_alarm_52 n x1 x2 x3 g = some (r2, g2) → gx_G p l e R s m args below meth c (gx_Q below args s D al cI cJ A (some (.int r2)) g2) D al cI cJ A 8 0 0 52 [(0, .ref (al (40))), (1, .int (x1)), (2, .int (x2)), (3, .int (x3))] [] g := by
  intro n
  induction n with
  | zero => intro x1 x2 x3 g h; cases h
  | succ n ih =>
    intro x1 x2 x3 g h
    rw [m_X10_alarm_52] at h
    refine gx_iload_n X 3 rfl dX10_alarm_52 ?_
    refine gx_aload_n X 0 rfl dX10_alarm_53 ?_
    obtain ⟨ra1, ga2, ca3, h⟩ := bdd_eq h
    refine gx_callVi X (40) (c_X10_mostStrokes ca3) lc_X10_mostStrokes li_X10_mostStrokes lm_X10_313 (by decide) (cl_40 _ _) rfl rfl rfl (Nat.le_trans (by decide) hd) rfl (Nat.le_of_ble_eq_true rfl) dX10_alarm_54 ?_
    refine gx_icmp_gt X 172 dX10_alarm_57 (by decide) (fun q4 => ?_) (fun q4 => ?_)
    · replace h := (if_pos q4).symm.trans h
      refine gx_bipush X (v := (-2 : Int32)) dX10_alarm_172 (by decide) ?_
      obtain ⟨rfl, rfl⟩ := ret_eq h
      exact gx_iret X rfl dX10_alarm_174
    · replace h := (if_neg q4).symm.trans h
      refine gx_iconst X (v := (0 : Int32)) dX10_alarm_60 (by decide) ?_
      refine gx_istore X [(4, .int ((0 : Int32))), (0, .ref (al (40))), (1, .int (x1)), (2, .int (x2)), (3, .int (x3))] dX10_alarm_61 (by decide) rfl ?_
      exact gx_sub [1, 2, 3, 4, 0] rfl (t_X10_alarm_63 X hd (fun u0 u1 u2 g h => ih u0 u1 u2 g h) fuL x1 x2 x3 (0 : Int32) ga2 h)
def m_X10_alarm_25 : Nat → Int32 → Int32 → Int32 → Mm → Option (Int32 × Mm)
  | 0, _, _, _, _ => none
  | n + 1, x1, x2, x3, g => (if (rdI g 40 4) ≤ x3 then m_X10_alarm_52 fuL x1 x2 (0 : Int32) g else gdd (ixo x3 6) (lti (x2 * ((rdI g 41 x3.toNatClampNeg) + (1 : Int32))) (fun v3 => m_X10_alarm_25 n x1 v3 (x3 + (1 : Int32)) g)))
set_option maxHeartbeats 2000000 in
theorem t_X10_alarm_25 {r2 : Int32} {g2 : Mm} (X : gx_X p R s m args meth c D al cI cJ A RX10 cX10_alarm 8 (some .int) d 0 0) (hd : 3 ≤ d) : ∀ (n : Nat) (x1 : Int32) (x2 : Int32) (x3 : Int32) (g : Mm), m_X10_alarm_25 n x1 x2 x3 g = some (r2, g2) → gx_G p l e R s m args below meth c (gx_Q below args s D al cI cJ A (some (.int r2)) g2) D al cI cJ A 8 0 0 25 [(0, .ref (al (40))), (1, .int (x1)), (2, .int (x2)), (3, .int (x3))] [] g := by
  intro n
  induction n with
  | zero => intro x1 x2 x3 g h; cases h
  | succ n ih =>
    intro x1 x2 x3 g h
    rw [m_X10_alarm_25] at h
    refine gx_iload_n X 3 rfl dX10_alarm_25 ?_
    refine gx_aload_n X 0 rfl dX10_alarm_26 ?_
    refine gx_getf X (40) lf_X10_89 (by decide) (cl_40 _ _) (v := .int ((rdI g 40 4))) rfl dX10_alarm_27 ?_
    refine gx_icmp_ge X 50 dX10_alarm_30 (by decide) (fun q1 => ?_) (fun q1 => ?_)
    · replace h := (if_pos q1).symm.trans h
      refine gx_iconst X (v := (0 : Int32)) dX10_alarm_50 (by decide) ?_
      refine gx_istore_n X [(3, .int ((0 : Int32))), (0, .ref (al (40))), (1, .int (x1)), (2, .int (x2))] dX10_alarm_51 (by decide) rfl ?_
      exact gx_sub [1, 2, 3, 0] rfl (t_X10_alarm_52 X hd fuL x1 x2 (0 : Int32) g h)
    · replace h := (if_neg q1).symm.trans h
      refine gx_iload_n X 2 rfl dX10_alarm_33 ?_
      refine gx_aload_n X 0 rfl dX10_alarm_34 ?_
      refine gx_getf X (40) lf_X10_9 (by decide) (cl_40 _ _) (v := .ref (al (41))) rfl dX10_alarm_35 ?_
      refine gx_iload_n X 3 rfl dX10_alarm_38 ?_
      obtain ⟨q2, h⟩ := gdd_eq h
      refine gx_iald X (41) 6 (by decide) (cl_41 _ _) q2 dX10_alarm_39 ?_
      refine gx_iconst X (v := (1 : Int32)) dX10_alarm_40 (by decide) ?_
      refine gx_iadd X dX10_alarm_41 ?_
      refine gx_imul X dX10_alarm_42 ?_
      obtain ⟨v3, ev3, h⟩ := lti_eq h
      refine gx_topi ev3 ?_
      refine gx_istore_n X [(2, .int (v3)), (0, .ref (al (40))), (1, .int (x1)), (3, .int (x3))] dX10_alarm_43 (by decide) rfl ?_
      refine gx_iinc X [(3, .int ((x3 + (1 : Int32)))), (2, .int (v3)), (0, .ref (al (40))), (1, .int (x1))] 3 dX10_alarm_44 rfl rfl (by decide) rfl ?_
      refine gx_goto X 25 dX10_alarm_47 (by decide) ?_
      exact gx_sub [2, 3, 1, 0] rfl (ih x1 v3 (x3 + (1 : Int32)) g h)
def m_X10_alarm (a1 : Int32) (g : Mm) : Option (Int32 × Mm) := bdd (m_X10_isBell a1 g) (fun ra1 ga2 => (if ra1 = (0 : Int32) then some ((-1 : Int32), ga2) else (if (rdI ga2 40 4) ≤ (3 : Int32) then m_X10_alarm_25 fuL a1 (1 : Int32) (0 : Int32) ga2 else some ((-5 : Int32), ga2))))
set_option maxHeartbeats 2000000 in
theorem c_X10_alarm {r2 : Int32} {g g2 : Mm} {a1 : Int32} (h : m_X10_alarm a1 g = some (r2, g2)) : gx_M 3 yX10_alarm cX10_alarm 8 (some .int) (fun al => [.ref (al (40)), .int (a1)]) g (some (.int r2)) g2 := by
  have hd : 3 ≤ 3 := Nat.le_refl _
  refine gx_M.of (by decide +kernel) (fun _ => Nat.le_of_ble_eq_true rfl) ?_
  intro p l e R s m args below meth c D al cI cJ A X
  refine gx_eq (pc' := 0) (ls' := [(0, .ref (al (40))), (1, .int (a1))]) (st' := []) (g' := g) ⟨rfl, rfl, rfl, rfl⟩ ?_
  unfold m_X10_alarm at h
  refine gx_aload_n X 0 rfl dX10_alarm_0 ?_
  refine gx_iload_n X 1 rfl dX10_alarm_1 ?_
  obtain ⟨ra1, ga2, ca3, h⟩ := bdd_eq h
  refine gx_callVi X (40) (c_X10_isBell ca3) lc_X10_isBell li_X10_isBell lm_X10_100 (by decide) (cl_40 _ _) rfl rfl rfl (Nat.le_trans (by decide) hd) rfl (Nat.le_of_ble_eq_true rfl) dX10_alarm_2 ?_
  refine gx_if_ne X 10 dX10_alarm_5 (by decide) (fun q4 => ?_) (fun q4 => ?_)
  · replace h := (if_neg q4).symm.trans h
    refine gx_aload_n X 0 rfl dX10_alarm_10 ?_
    refine gx_getf X (40) lf_X10_89 (by decide) (cl_40 _ _) (v := .int ((rdI ga2 40 4))) rfl dX10_alarm_11 ?_
    refine gx_iconst X (v := (3 : Int32)) dX10_alarm_14 (by decide) ?_
    refine gx_icmp_le X 21 dX10_alarm_15 (by decide) (fun q5 => ?_) (fun q5 => ?_)
    · replace h := (if_pos q5).symm.trans h
      refine gx_iconst X (v := (1 : Int32)) dX10_alarm_21 (by decide) ?_
      refine gx_istore_n X [(2, .int ((1 : Int32))), (0, .ref (al (40))), (1, .int (a1))] dX10_alarm_22 (by decide) rfl ?_
      refine gx_iconst X (v := (0 : Int32)) dX10_alarm_23 (by decide) ?_
      refine gx_istore_n X [(3, .int ((0 : Int32))), (2, .int ((1 : Int32))), (0, .ref (al (40))), (1, .int (a1))] dX10_alarm_24 (by decide) rfl ?_
      exact gx_sub [2, 3, 1, 0] rfl (t_X10_alarm_25 X hd fuL a1 (1 : Int32) (0 : Int32) ga2 h)
    · replace h := (if_neg q5).symm.trans h
      refine gx_bipush X (v := (-5 : Int32)) dX10_alarm_18 (by decide) ?_
      obtain ⟨rfl, rfl⟩ := ret_eq h
      exact gx_iret X rfl dX10_alarm_20
  · replace h := (if_pos q4).symm.trans h
    refine gx_iconst X (v := (-1 : Int32)) dX10_alarm_8 (by decide) ?_
    obtain ⟨rfl, rfl⟩ := ret_eq h
    exact gx_iret X rfl dX10_alarm_9
end DC
