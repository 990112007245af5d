section DC
variable {p : Program} {l : Launch} {e : Env} {R : Room} {s : State} {m : MethodId} {args : Array Value} {below : List Frame} {meth : Method} {c : Code} {D : va_G} {al : Nat → Nat} {cI cJ : ClassId} {A : Nat → Prop} {d : Nat}
theorem dX3_add_0 : decode cX3_add 0 = .ok (.aload_n 0, 1) := by decide +kernel
theorem dX3_add_1 : decode cX3_add 1 = .ok (.getfield 13, 3) := by decide +kernel
theorem dX3_add_4 : decode cX3_add 4 = .ok (.bipush 120, 2) := by decide +kernel
theorem dX3_add_6 : decode cX3_add 6 = .ok (.if_icmp .lt 5, 3) := by decide +kernel
theorem dX3_add_9 : decode cX3_add 9 = .ok (.iconst 0, 1) := by decide +kernel
theorem dX3_add_10 : decode cX3_add 10 = .ok (.ireturn, 1) := by decide +kernel
theorem dX3_add_11 : decode cX3_add 11 = .ok (.aload_n 0, 1) := by decide +kernel
theorem dX3_add_12 : decode cX3_add 12 = .ok (.getfield 9, 3) := by decide +kernel
theorem dX3_add_15 : decode cX3_add 15 = .ok (.aload_n 0, 1) := by decide +kernel
theorem dX3_add_16 : decode cX3_add 16 = .ok (.getfield 13, 3) := by decide +kernel
theorem dX3_add_19 : decode cX3_add 19 = .ok (.iload_n 1, 1) := by decide +kernel
theorem dX3_add_20 : decode cX3_add 20 = .ok (.iastore, 1) := by decide +kernel
theorem dX3_add_21 : decode cX3_add 21 = .ok (.aload_n 0, 1) := by decide +kernel
theorem dX3_add_22 : decode cX3_add 22 = .ok (.dup, 1) := by decide +kernel
theorem dX3_add_23 : decode cX3_add 23 = .ok (.getfield 13, 3) := by decide +kernel
theorem dX3_add_26 : decode cX3_add 26 = .ok (.iconst 1, 1) := by decide +kernel
theorem dX3_add_27 : decode cX3_add 27 = .ok (.iadd, 1) := by decide +kernel
theorem dX3_add_28 : decode cX3_add 28 = .ok (.putfield 13, 3) := by decide +kernel
theorem dX3_add_31 : decode cX3_add 31 = .ok (.iconst 1, 1) := by decide +kernel
theorem dX3_add_32 : decode cX3_add 32 = .ok (.ireturn, 1) := by decide +kernel
def m_X3_add (a1 : Int32) (g : Mm) : Option (Int32 × Mm) := (if (rdI g 11 1) < (120 : Int32) then gdd (ixo (rdI g 11 1) 120) (some ((1 : Int32), (wrI (wrI g 12 (rdI g 11 1).toNatClampNeg a1) 11 1 ((rdI (wrI g 12 (rdI g 11 1).toNatClampNeg a1) 11 1) + (1 : Int32))))) else some ((0 : Int32), g))
set_option maxHeartbeats 2000000 in
theorem c_X3_add {r2 : Int32} {g g2 : Mm} {a1 : Int32} (h : m_X3_add a1 g = some (r2, g2)) : gx_M 1 yX3_add cX3_add 2 (some .boolean) (fun al => [.ref (al (11)), .int (a1)]) g (some (.int r2)) g2 := by
  have hd : 1 ≤ 1 := Nat.le_refl _
  refine gx_M.of (by decide +kernel) (fun _ => Nat.le_of_ble_eq_true rfl) ?_
  intro p l e R s m args below meth c D al cI cJ A X
  refine gx_eq (pc' := 0) (ls' := [(0, .ref (al (11))), (1, .int (a1))]) (st' := []) (g' := g) ⟨rfl, rfl, rfl, rfl⟩ ?_
  unfold m_X3_add at h
  refine gx_aload_n X 0 rfl dX3_add_0 ?_
  refine gx_getf X (11) lf_X3_13 (by decide) (cl_11 _ _) (v := .int ((rdI g 11 1))) rfl dX3_add_1 ?_
  refine gx_bipush X (v := (120 : Int32)) dX3_add_4 (by decide) ?_
  refine gx_icmp_lt X 11 dX3_add_6 (by decide) (fun q1 => ?_) (fun q1 => ?_)
  · replace h := (if_pos q1).symm.trans h
    refine gx_aload_n X 0 rfl dX3_add_11 ?_
    refine gx_getf X (11) lf_X3_9 (by decide) (cl_11 _ _) (v := .ref (al (12))) rfl dX3_add_12 ?_
    refine gx_aload_n X 0 rfl dX3_add_15 ?_
    refine gx_getf X (11) lf_X3_13 (by decide) (cl_11 _ _) (v := .int ((rdI g 11 1))) rfl dX3_add_16 ?_
    refine gx_iload_n X 1 rfl dX3_add_19 ?_
    obtain ⟨q2, h⟩ := gdd_eq h
    refine gx_iast X (12) 120 (by decide) (fun r => cl_12 r _) q2 dX3_add_20 ?_
    refine gx_aload_n X 0 rfl dX3_add_21 ?_
    refine gx_dup X dX3_add_22 rfl ?_
    refine gx_getf X (11) lf_X3_13 (by decide) (cl_11 _ _) (v := .int ((rdI (wrI g 12 (rdI g 11 1).toNatClampNeg a1) 11 1))) rfl dX3_add_23 ?_
    refine gx_iconst X (v := (1 : Int32)) dX3_add_26 (by decide) ?_
    refine gx_iadd X dX3_add_27 ?_
    refine gx_putf X (11) ((rdI (wrI g 12 (rdI g 11 1).toNatClampNeg a1) 11 1) + (1 : Int32)) lf_X3_13 lp_X3_1 (by decide) (cl_11 _ _) (Nat.le_of_ble_eq_true rfl) rfl rfl rfl dX3_add_28 ?_
    refine gx_iconst X (v := (1 : Int32)) dX3_add_31 (by decide) ?_
    obtain ⟨rfl, rfl⟩ := ret_eq h
    exact gx_iret X rfl dX3_add_32
  · replace h := (if_neg q1).symm.trans h
    refine gx_iconst X (v := (0 : Int32)) dX3_add_9 (by decide) ?_
    obtain ⟨rfl, rfl⟩ := ret_eq h
    exact gx_iret X rfl dX3_add_10
theorem dX3_isDigit_0 : decode cX3_isDigit 0 = .ok (.iload_n 0, 1) := by decide +kernel
theorem dX3_isDigit_1 : decode cX3_isDigit 1 = .ok (.bipush 48, 2) := by decide +kernel
theorem dX3_isDigit_3 : decode cX3_isDigit 3 = .ok (.if_icmp .lt 13, 3) := by decide +kernel
theorem dX3_isDigit_6 : decode cX3_isDigit 6 = .ok (.iload_n 0, 1) := by decide +kernel
theorem dX3_isDigit_7 : decode cX3_isDigit 7 = .ok (.bipush 57, 2) := by decide +kernel
theorem dX3_isDigit_9 : decode cX3_isDigit 9 = .ok (.if_icmp .gt 7, 3) := by decide +kernel
theorem dX3_isDigit_12 : decode cX3_isDigit 12 = .ok (.iconst 1, 1) := by decide +kernel
theorem dX3_isDigit_13 : decode cX3_isDigit 13 = .ok (.goto 4, 3) := by decide +kernel
theorem dX3_isDigit_16 : decode cX3_isDigit 16 = .ok (.iconst 0, 1) := by decide +kernel
theorem dX3_isDigit_17 : decode cX3_isDigit 17 = .ok (.ireturn, 1) := by decide +kernel
def m_X3_isDigit (a0 : Int32) (g : Mm) : Option (Int32 × Mm) := (if a0 < (48 : Int32) then some ((0 : Int32), g) else (if (57 : Int32) < a0 then some ((0 : Int32), g) else some ((1 : Int32), g)))
set_option maxHeartbeats 2000000 in
theorem c_X3_isDigit {r2 : Int32} {g g2 : Mm} {a0 : Int32} (h : m_X3_isDigit a0 g = some (r2, g2)) : gx_M 1 yX3_isDigit cX3_isDigit 1 (some .boolean) (fun al => [.int (a0)]) g (some (.int r2)) g2 := by
  have hd : 1 ≤ 1 := Nat.le_refl _
  refine gx_M.of (by decide +kernel) (fun _ => Nat.le_of_ble_eq_true rfl) ?_
  intro p l e R s m args below meth c D al cI cJ A X
  refine gx_eq (pc' := 0) (ls' := [(0, .int (a0))]) (st' := []) (g' := g) ⟨rfl, rfl, rfl, rfl⟩ ?_
  unfold m_X3_isDigit at h
  refine gx_iload_n X 0 rfl dX3_isDigit_0 ?_
  refine gx_bipush X (v := (48 : Int32)) dX3_isDigit_1 (by decide) ?_
  refine gx_icmp_lt X 16 dX3_isDigit_3 (by decide) (fun q1 => ?_) (fun q1 => ?_)
  · replace h := (if_pos q1).symm.trans h
    refine gx_iconst X (v := (0 : Int32)) dX3_isDigit_16 (by decide) ?_
    obtain ⟨rfl, rfl⟩ := ret_eq h
    exact gx_iret X rfl dX3_isDigit_17
  · replace h := (if_neg q1).symm.trans h
    refine gx_iload_n X 0 rfl dX3_isDigit_6 ?_
    refine gx_bipush X (v := (57 : Int32)) dX3_isDigit_7 (by decide) ?_
    refine gx_icmp_gt X 16 dX3_isDigit_9 (by decide) (fun q2 => ?_) (fun q2 => ?_)
    · replace h := (if_pos q2).symm.trans h
      refine gx_iconst X (v := (0 : Int32)) dX3_isDigit_16 (by decide) ?_
      obtain ⟨rfl, rfl⟩ := ret_eq h
      exact gx_iret X rfl dX3_isDigit_17
    · replace h := (if_neg q2).symm.trans h
      refine gx_iconst X (v := (1 : Int32)) dX3_isDigit_12 (by decide) ?_
      refine gx_goto X 17 dX3_isDigit_13 (by decide) ?_
      obtain ⟨rfl, rfl⟩ := ret_eq h
      exact gx_iret X rfl dX3_isDigit_17
theorem dX3_isNext_0 : decode cX3_isNext 0 = .ok (.aload_n 0, 1) := by decide +kernel
theorem dX3_isNext_1 : decode cX3_isNext 1 = .ok (.getfield 17, 3) := by decide +kernel
theorem dX3_isNext_4 : decode cX3_isNext 4 = .ok (.aload_n 0, 1) := by decide +kernel
theorem dX3_isNext_5 : decode cX3_isNext 5 = .ok (.getfield 13, 3) := by decide +kernel
theorem dX3_isNext_8 : decode cX3_isNext 8 = .ok (.if_icmp .ge 20, 3) := by decide +kernel
theorem dX3_isNext_11 : decode cX3_isNext 11 = .ok (.aload_n 0, 1) := by decide +kernel
theorem dX3_isNext_12 : decode cX3_isNext 12 = .ok (.getfield 9, 3) := by decide +kernel
theorem dX3_isNext_15 : decode cX3_isNext 15 = .ok (.aload_n 0, 1) := by decide +kernel
theorem dX3_isNext_16 : decode cX3_isNext 16 = .ok (.getfield 17, 3) := by decide +kernel
theorem dX3_isNext_19 : decode cX3_isNext 19 = .ok (.iaload, 1) := by decide +kernel
theorem dX3_isNext_20 : decode cX3_isNext 20 = .ok (.iload_n 1, 1) := by decide +kernel
theorem dX3_isNext_21 : decode cX3_isNext 21 = .ok (.if_icmp .ne 7, 3) := by decide +kernel
theorem dX3_isNext_24 : decode cX3_isNext 24 = .ok (.iconst 1, 1) := by decide +kernel
theorem dX3_isNext_25 : decode cX3_isNext 25 = .ok (.goto 4, 3) := by decide +kernel
theorem dX3_isNext_28 : decode cX3_isNext 28 = .ok (.iconst 0, 1) := by decide +kernel
theorem dX3_isNext_29 : decode cX3_isNext 29 = .ok (.ireturn, 1) := by decide +kernel
def m_X3_isNext (a1 : Int32) (g : Mm) : Option (Int32 × Mm) := (if (rdI g 11 1) ≤ (rdI g 11 2) then some ((0 : Int32), g) else gdd (ixo (rdI g 11 2) 120) ((if (rdI g 12 (rdI g 11 2).toNatClampNeg) = a1 then some ((1 : Int32), g) else some ((0 : Int32), g))))
set_option maxHeartbeats 2000000 in
theorem c_X3_isNext {r2 : Int32} {g g2 : Mm} {a1 : Int32} (h : m_X3_isNext a1 g = some (r2, g2)) : gx_M 1 yX3_isNext cX3_isNext 2 (some .boolean) (fun al => [.ref (al (11)), .int (a1)]) g (some (.int r2)) g2 := by
  have hd : 1 ≤ 1 := Nat.le_refl _
  refine gx_M.of (by decide +kernel) (fun _ => Nat.le_of_ble_eq_true rfl) ?_
  intro p l e R s m args below meth c D al cI cJ A X
  refine gx_eq (pc' := 0) (ls' := [(0, .ref (al (11))), (1, .int (a1))]) (st' := []) (g' := g) ⟨rfl, rfl, rfl, rfl⟩ ?_
  unfold m_X3_isNext at h
  refine gx_aload_n X 0 rfl dX3_isNext_0 ?_
  refine gx_getf X (11) lf_X3_17 (by decide) (cl_11 _ _) (v := .int ((rdI g 11 2))) rfl dX3_isNext_1 ?_
  refine gx_aload_n X 0 rfl dX3_isNext_4 ?_
  refine gx_getf X (11) lf_X3_13 (by decide) (cl_11 _ _) (v := .int ((rdI g 11 1))) rfl dX3_isNext_5 ?_
  refine gx_icmp_ge X 28 dX3_isNext_8 (by decide) (fun q1 => ?_) (fun q1 => ?_)
  · replace h := (if_pos q1).symm.trans h
    refine gx_iconst X (v := (0 : Int32)) dX3_isNext_28 (by decide) ?_
    obtain ⟨rfl, rfl⟩ := ret_eq h
    exact gx_iret X rfl dX3_isNext_29
  · replace h := (if_neg q1).symm.trans h
    refine gx_aload_n X 0 rfl dX3_isNext_11 ?_
    refine gx_getf X (11) lf_X3_9 (by decide) (cl_11 _ _) (v := .ref (al (12))) rfl dX3_isNext_12 ?_
    refine gx_aload_n X 0 rfl dX3_isNext_15 ?_
    refine gx_getf X (11) lf_X3_17 (by decide) (cl_11 _ _) (v := .int ((rdI g 11 2))) rfl dX3_isNext_16 ?_
    obtain ⟨q2, h⟩ := gdd_eq h
    refine gx_iald X (12) 120 (by decide) (cl_12 _ _) q2 dX3_isNext_19 ?_
    refine gx_iload_n X 1 rfl dX3_isNext_20 ?_
    refine gx_icmp_ne X 28 dX3_isNext_21 (by decide) (fun q3 => ?_) (fun q3 => ?_)
    · replace h := (if_neg q3).symm.trans h
      refine gx_iconst X (v := (0 : Int32)) dX3_isNext_28 (by decide) ?_
      obtain ⟨rfl, rfl⟩ := ret_eq h
      exact gx_iret X rfl dX3_isNext_29
    · replace h := (if_pos q3).symm.trans h
      refine gx_iconst X (v := (1 : Int32)) dX3_isNext_24 (by decide) ?_
      refine gx_goto X 29 dX3_isNext_25 (by decide) ?_
      obtain ⟨rfl, rfl⟩ := ret_eq h
      exact gx_iret X rfl dX3_isNext_29
theorem dX3_levelOf_0 : decode cX3_levelOf 0 = .ok (.iload_n 0, 1) := by decide +kernel
theorem dX3_levelOf_1 : decode cX3_levelOf 1 = .ok (.lookupswitch 101 #[(37, 99), (38, 93), (42, 99), (43, 97), (45, 97), (47, 99), (60, 95), (61, 95), (62, 95), (124, 91)], 91) := by decide +kernel
theorem dX3_levelOf_92 : decode cX3_levelOf 92 = .ok (.iconst 0, 1) := by decide +kernel
theorem dX3_levelOf_93 : decode cX3_levelOf 93 = .ok (.ireturn, 1) := by decide +kernel
theorem dX3_levelOf_94 : decode cX3_levelOf 94 = .ok (.iconst 1, 1) := by decide +kernel
theorem dX3_levelOf_95 : decode cX3_levelOf 95 = .ok (.ireturn, 1) := by decide +kernel
theorem dX3_levelOf_96 : decode cX3_levelOf 96 = .ok (.iconst 2, 1) := by decide +kernel
theorem dX3_levelOf_97 : decode cX3_levelOf 97 = .ok (.ireturn, 1) := by decide +kernel
theorem dX3_levelOf_98 : decode cX3_levelOf 98 = .ok (.iconst 3, 1) := by decide +kernel
theorem dX3_levelOf_99 : decode cX3_levelOf 99 = .ok (.ireturn, 1) := by decide +kernel
theorem dX3_levelOf_100 : decode cX3_levelOf 100 = .ok (.iconst 4, 1) := by decide +kernel
theorem dX3_levelOf_101 : decode cX3_levelOf 101 = .ok (.ireturn, 1) := by decide +kernel
theorem dX3_levelOf_102 : decode cX3_levelOf 102 = .ok (.iconst (-1), 1) := by decide +kernel
theorem dX3_levelOf_103 : decode cX3_levelOf 103 = .ok (.ireturn, 1) := by decide +kernel
def m_X3_levelOf (a0 : Int32) (g : Mm) : Option (Int32 × Mm) := (if a0 = (37 : Int32) then some ((4 : Int32), g) else if a0 = (38 : Int32) then some ((1 : Int32), g) else if a0 = (42 : Int32) then some ((4 : Int32), g) else if a0 = (43 : Int32) then some ((3 : Int32), g) else if a0 = (45 : Int32) then some ((3 : Int32), g) else if a0 = (47 : Int32) then some ((4 : Int32), g) else if a0 = (60 : Int32) then some ((2 : Int32), g) else if a0 = (61 : Int32) then some ((2 : Int32), g) else if a0 = (62 : Int32) then some ((2 : Int32), g) else if a0 = (124 : Int32) then some ((0 : Int32), g) else some ((-1 : Int32), g))
set_option maxHeartbeats 2000000 in
theorem c_X3_levelOf {r2 : Int32} {g g2 : Mm} {a0 : Int32} (h : m_X3_levelOf a0 g = some (r2, g2)) : gx_M 1 yX3_levelOf cX3_levelOf 1 (some .int) (fun al => [.int (a0)]) g (some (.int r2)) g2 := by
  have hd : 1 ≤ 1 := Nat.le_refl _
  refine gx_M.of (by decide +kernel) (fun _ => Nat.le_of_ble_eq_true rfl) ?_
  intro p l e R s m args below meth c D al cI cJ A X
  refine gx_eq (pc' := 0) (ls' := [(0, .int (a0))]) (st' := []) (g' := g) ⟨rfl, rfl, rfl, rfl⟩ ?_
  unfold m_X3_levelOf at h
  refine gx_iload_n X 0 rfl dX3_levelOf_0 ?_
  by_cases q1 : a0 = (37 : Int32)
  · replace h := (if_pos q1).symm.trans h
    refine gx_look (off := 99) 100 X dX3_levelOf_1 (by decide) (by rw [q1] <;> rfl) (by decide) ?_
    refine gx_iconst X (v := (4 : Int32)) dX3_levelOf_100 (by decide) ?_
    obtain ⟨rfl, rfl⟩ := ret_eq h
    exact gx_iret X rfl dX3_levelOf_101
  · replace h := (if_neg q1).symm.trans h
    by_cases q2 : a0 = (38 : Int32)
    · replace h := (if_pos q2).symm.trans h
      refine gx_look (off := 93) 94 X dX3_levelOf_1 (by decide) ((lv_osw q1 (by decide)).trans (by rw [q2] <;> rfl)) (by decide) ?_
      refine gx_iconst X (v := (1 : Int32)) dX3_levelOf_94 (by decide) ?_
      obtain ⟨rfl, rfl⟩ := ret_eq h
      exact gx_iret X rfl dX3_levelOf_95
    · replace h := (if_neg q2).symm.trans h
      by_cases q3 : a0 = (42 : Int32)
      · replace h := (if_pos q3).symm.trans h
        refine gx_look (off := 99) 100 X dX3_levelOf_1 (by decide) ((lv_osw q1 (by decide)).trans ((lv_osw q2 (by decide)).trans (by rw [q3] <;> rfl))) (by decide) ?_
        refine gx_iconst X (v := (4 : Int32)) dX3_levelOf_100 (by decide) ?_
        obtain ⟨rfl, rfl⟩ := ret_eq h
        exact gx_iret X rfl dX3_levelOf_101
      · replace h := (if_neg q3).symm.trans h
        by_cases q4 : a0 = (43 : Int32)
        · replace h := (if_pos q4).symm.trans h
          refine gx_look (off := 97) 98 X dX3_levelOf_1 (by decide) ((lv_osw q1 (by decide)).trans ((lv_osw q2 (by decide)).trans ((lv_osw q3 (by decide)).trans (by rw [q4] <;> rfl)))) (by decide) ?_
          refine gx_iconst X (v := (3 : Int32)) dX3_levelOf_98 (by decide) ?_
          obtain ⟨rfl, rfl⟩ := ret_eq h
          exact gx_iret X rfl dX3_levelOf_99
        · replace h := (if_neg q4).symm.trans h
          by_cases q5 : a0 = (45 : Int32)
          · replace h := (if_pos q5).symm.trans h
            refine gx_look (off := 97) 98 X dX3_levelOf_1 (by decide) ((lv_osw q1 (by decide)).trans ((lv_osw q2 (by decide)).trans ((lv_osw q3 (by decide)).trans ((lv_osw q4 (by decide)).trans (by rw [q5] <;> rfl))))) (by decide) ?_
            refine gx_iconst X (v := (3 : Int32)) dX3_levelOf_98 (by decide) ?_
            obtain ⟨rfl, rfl⟩ := ret_eq h
            exact gx_iret X rfl dX3_levelOf_99
          · replace h := (if_neg q5).symm.trans h
            by_cases q6 : a0 = (47 : Int32)
            · replace h := (if_pos q6).symm.trans h
              refine gx_look (off := 99) 100 X dX3_levelOf_1 (by decide) ((lv_osw q1 (by decide)).trans ((lv_osw q2 (by decide)).trans ((lv_osw q3 (by decide)).trans ((lv_osw q4 (by decide)).trans ((lv_osw q5 (by decide)).trans (by rw [q6] <;> rfl)))))) (by decide) ?_
              refine gx_iconst X (v := (4 : Int32)) dX3_levelOf_100 (by decide) ?_
              obtain ⟨rfl, rfl⟩ := ret_eq h
              exact gx_iret X rfl dX3_levelOf_101
            · replace h := (if_neg q6).symm.trans h
              by_cases q7 : a0 = (60 : Int32)
              · replace h := (if_pos q7).symm.trans h
                refine gx_look (off := 95) 96 X dX3_levelOf_1 (by decide) ((lv_osw q1 (by decide)).trans ((lv_osw q2 (by decide)).trans ((lv_osw q3 (by decide)).trans ((lv_osw q4 (by decide)).trans ((lv_osw q5 (by decide)).trans ((lv_osw q6 (by decide)).trans (by rw [q7] <;> rfl))))))) (by decide) ?_
                refine gx_iconst X (v := (2 : Int32)) dX3_levelOf_96 (by decide) ?_
                obtain ⟨rfl, rfl⟩ := ret_eq h
                exact gx_iret X rfl dX3_levelOf_97
              · replace h := (if_neg q7).symm.trans h
                by_cases q8 : a0 = (61 : Int32)
                · replace h := (if_pos q8).symm.trans h
                  refine gx_look (off := 95) 96 X dX3_levelOf_1 (by decide) ((lv_osw q1 (by decide)).trans ((lv_osw q2 (by decide)).trans ((lv_osw q3 (by decide)).trans ((lv_osw q4 (by decide)).trans ((lv_osw q5 (by decide)).trans ((lv_osw q6 (by decide)).trans ((lv_osw q7 (by decide)).trans (by rw [q8] <;> rfl)))))))) (by decide) ?_
                  refine gx_iconst X (v := (2 : Int32)) dX3_levelOf_96 (by decide) ?_
                  obtain ⟨rfl, rfl⟩ := ret_eq h
                  exact gx_iret X rfl dX3_levelOf_97
                · replace h := (if_neg q8).symm.trans h
                  by_cases q9 : a0 = (62 : Int32)
                  · replace h := (if_pos q9).symm.trans h
                    refine gx_look (off := 95) 96 X dX3_levelOf_1 (by decide) ((lv_osw q1 (by decide)).trans ((lv_osw q2 (by decide)).trans ((lv_osw q3 (by decide)).trans ((lv_osw q4 (by decide)).trans ((lv_osw q5 (by decide)).trans ((lv_osw q6 (by decide)).trans ((lv_osw q7 (by decide)).trans ((lv_osw q8 (by decide)).trans (by rw [q9] <;> rfl))))))))) (by decide) ?_
                    refine gx_iconst X (v := (2 : Int32)) dX3_levelOf_96 (by decide) ?_
                    obtain ⟨rfl, rfl⟩ := ret_eq h
                    exact gx_iret X rfl dX3_levelOf_97
                  · replace h := (if_neg q9).symm.trans h
                    by_cases q10 : a0 = (124 : Int32)
                    · replace h := (if_pos q10).symm.trans h
                      refine gx_look (off := 91) 92 X dX3_levelOf_1 (by decide) ((lv_osw q1 (by decide)).trans ((lv_osw q2 (by decide)).trans ((lv_osw q3 (by decide)).trans ((lv_osw q4 (by decide)).trans ((lv_osw q5 (by decide)).trans ((lv_osw q6 (by decide)).trans ((lv_osw q7 (by decide)).trans ((lv_osw q8 (by decide)).trans ((lv_osw q9 (by decide)).trans (by rw [q10] <;> rfl)))))))))) (by decide) ?_
                      refine gx_iconst X (v := (0 : Int32)) dX3_levelOf_92 (by decide) ?_
                      obtain ⟨rfl, rfl⟩ := ret_eq h
                      exact gx_iret X rfl dX3_levelOf_93
                    · replace h := (if_neg q10).symm.trans h
                      refine gx_look (off := 101) 102 X dX3_levelOf_1 (by decide) ((lv_osw q1 (by decide)).trans ((lv_osw q2 (by decide)).trans ((lv_osw q3 (by decide)).trans ((lv_osw q4 (by decide)).trans ((lv_osw q5 (by decide)).trans ((lv_osw q6 (by decide)).trans ((lv_osw q7 (by decide)).trans ((lv_osw q8 (by decide)).trans ((lv_osw q9 (by decide)).trans ((lv_osw q10 (by decide)).trans (rfl))))))))))) (by decide) ?_
                      refine gx_iconst X (v := (-1 : Int32)) dX3_levelOf_102 (by decide) ?_
                      obtain ⟨rfl, rfl⟩ := ret_eq h
                      exact gx_iret X rfl dX3_levelOf_103
theorem dX3_nameOf_0 : decode cX3_nameOf 0 = .ok (.iload_n 0, 1) := by decide +kernel
theorem dX3_nameOf_1 : decode cX3_nameOf 1 = .ok (.tableswitch 91 98 113 #[81, 91, 91, 91, 91, 91, 79, 91, 91, 91, 91, 83, 85, 91, 87, 89], 79) := by decide +kernel
theorem dX3_nameOf_80 : decode cX3_nameOf 80 = .ok (.iconst 0, 1) := by decide +kernel
theorem dX3_nameOf_81 : decode cX3_nameOf 81 = .ok (.ireturn, 1) := by decide +kernel
theorem dX3_nameOf_82 : decode cX3_nameOf 82 = .ok (.iconst 1, 1) := by decide +kernel
theorem dX3_nameOf_83 : decode cX3_nameOf 83 = .ok (.ireturn, 1) := by decide +kernel
theorem dX3_nameOf_84 : decode cX3_nameOf 84 = .ok (.iconst 2, 1) := by decide +kernel
theorem dX3_nameOf_85 : decode cX3_nameOf 85 = .ok (.ireturn, 1) := by decide +kernel
theorem dX3_nameOf_86 : decode cX3_nameOf 86 = .ok (.iconst 3, 1) := by decide +kernel
theorem dX3_nameOf_87 : decode cX3_nameOf 87 = .ok (.ireturn, 1) := by decide +kernel
theorem dX3_nameOf_88 : decode cX3_nameOf 88 = .ok (.iconst 4, 1) := by decide +kernel
theorem dX3_nameOf_89 : decode cX3_nameOf 89 = .ok (.ireturn, 1) := by decide +kernel
theorem dX3_nameOf_90 : decode cX3_nameOf 90 = .ok (.iconst 5, 1) := by decide +kernel
theorem dX3_nameOf_91 : decode cX3_nameOf 91 = .ok (.ireturn, 1) := by decide +kernel
theorem dX3_nameOf_92 : decode cX3_nameOf 92 = .ok (.iconst (-1), 1) := by decide +kernel
theorem dX3_nameOf_93 : decode cX3_nameOf 93 = .ok (.ireturn, 1) := by decide +kernel
def m_X3_nameOf (a0 : Int32) (g : Mm) : Option (Int32 × Mm) := (if a0 = (98 : Int32) then some ((1 : Int32), g) else if a0 = (99 : Int32) then some ((-1 : Int32), g) else if a0 = (100 : Int32) then some ((-1 : Int32), g) else if a0 = (101 : Int32) then some ((-1 : Int32), g) else if a0 = (102 : Int32) then some ((-1 : Int32), g) else if a0 = (103 : Int32) then some ((-1 : Int32), g) else if a0 = (104 : Int32) then some ((0 : Int32), g) else if a0 = (105 : Int32) then some ((-1 : Int32), g) else if a0 = (106 : Int32) then some ((-1 : Int32), g) else if a0 = (107 : Int32) then some ((-1 : Int32), g) else if a0 = (108 : Int32) then some ((-1 : Int32), g) else if a0 = (109 : Int32) then some ((2 : Int32), g) else if a0 = (110 : Int32) then some ((3 : Int32), g) else if a0 = (111 : Int32) then some ((-1 : Int32), g) else if a0 = (112 : Int32) then some ((4 : Int32), g) else if a0 = (113 : Int32) then some ((5 : Int32), g) else some ((-1 : Int32), g))
set_option maxHeartbeats 2000000 in
theorem c_X3_nameOf {r2 : Int32} {g g2 : Mm} {a0 : Int32} (h : m_X3_nameOf a0 g = some (r2, g2)) : gx_M 1 yX3_nameOf cX3_nameOf 1 (some .int) (fun al => [.int (a0)]) g (some (.int r2)) g2 := by
  have hd : 1 ≤ 1 := Nat.le_refl _
  refine gx_M.of (by decide +kernel) (fun _ => Nat.le_of_ble_eq_true rfl) ?_
  intro p l e R s m args below meth c D al cI cJ A X
  refine gx_eq (pc' := 0) (ls' := [(0, .int (a0))]) (st' := []) (g' := g) ⟨rfl, rfl, rfl, rfl⟩ ?_
  unfold m_X3_nameOf at h
  refine gx_iload_n X 0 rfl dX3_nameOf_0 ?_
  by_cases q1 : a0 = (98 : Int32)
  · replace h := (if_pos q1).symm.trans h
    have eq1 : (a0).toInt = 98 := by rw [q1] <;> decide
    refine gx_tab 82 X dX3_nameOf_1 (by rw [eq1] <;> decide) (by rw [eq1] <;> decide) (by rw [eq1] <;> rfl) (by decide) ?_
    refine gx_iconst X (v := (1 : Int32)) dX3_nameOf_82 (by decide) ?_
    obtain ⟨rfl, rfl⟩ := ret_eq h
    exact gx_iret X rfl dX3_nameOf_83
  · replace h := (if_neg q1).symm.trans h
    by_cases q2 : a0 = (99 : Int32)
    · replace h := (if_pos q2).symm.trans h
      have eq2 : (a0).toInt = 99 := by rw [q2] <;> decide
      refine gx_tab 92 X dX3_nameOf_1 (by rw [eq2] <;> decide) (by rw [eq2] <;> decide) (by rw [eq2] <;> rfl) (by decide) ?_
      refine gx_iconst X (v := (-1 : Int32)) dX3_nameOf_92 (by decide) ?_
      obtain ⟨rfl, rfl⟩ := ret_eq h
      exact gx_iret X rfl dX3_nameOf_93
    · replace h := (if_neg q2).symm.trans h
      by_cases q3 : a0 = (100 : Int32)
      · replace h := (if_pos q3).symm.trans h
        have eq3 : (a0).toInt = 100 := by rw [q3] <;> decide
        refine gx_tab 92 X dX3_nameOf_1 (by rw [eq3] <;> decide) (by rw [eq3] <;> decide) (by rw [eq3] <;> rfl) (by decide) ?_
        refine gx_iconst X (v := (-1 : Int32)) dX3_nameOf_92 (by decide) ?_
        obtain ⟨rfl, rfl⟩ := ret_eq h
        exact gx_iret X rfl dX3_nameOf_93
      · replace h := (if_neg q3).symm.trans h
        by_cases q4 : a0 = (101 : Int32)
        · replace h := (if_pos q4).symm.trans h
          have eq4 : (a0).toInt = 101 := by rw [q4] <;> decide
          refine gx_tab 92 X dX3_nameOf_1 (by rw [eq4] <;> decide) (by rw [eq4] <;> decide) (by rw [eq4] <;> rfl) (by decide) ?_
          refine gx_iconst X (v := (-1 : Int32)) dX3_nameOf_92 (by decide) ?_
          obtain ⟨rfl, rfl⟩ := ret_eq h
          exact gx_iret X rfl dX3_nameOf_93
        · replace h := (if_neg q4).symm.trans h
          by_cases q5 : a0 = (102 : Int32)
          · replace h := (if_pos q5).symm.trans h
            have eq5 : (a0).toInt = 102 := by rw [q5] <;> decide
            refine gx_tab 92 X dX3_nameOf_1 (by rw [eq5] <;> decide) (by rw [eq5] <;> decide) (by rw [eq5] <;> rfl) (by decide) ?_
            refine gx_iconst X (v := (-1 : Int32)) dX3_nameOf_92 (by decide) ?_
            obtain ⟨rfl, rfl⟩ := ret_eq h
            exact gx_iret X rfl dX3_nameOf_93
          · replace h := (if_neg q5).symm.trans h
            by_cases q6 : a0 = (103 : Int32)
            · replace h := (if_pos q6).symm.trans h
              have eq6 : (a0).toInt = 103 := by rw [q6] <;> decide
              refine gx_tab 92 X dX3_nameOf_1 (by rw [eq6] <;> decide) (by rw [eq6] <;> decide) (by rw [eq6] <;> rfl) (by decide) ?_
              refine gx_iconst X (v := (-1 : Int32)) dX3_nameOf_92 (by decide) ?_
              obtain ⟨rfl, rfl⟩ := ret_eq h
              exact gx_iret X rfl dX3_nameOf_93
            · replace h := (if_neg q6).symm.trans h
              by_cases q7 : a0 = (104 : Int32)
              · replace h := (if_pos q7).symm.trans h
                have eq7 : (a0).toInt = 104 := by rw [q7] <;> decide
                refine gx_tab 80 X dX3_nameOf_1 (by rw [eq7] <;> decide) (by rw [eq7] <;> decide) (by rw [eq7] <;> rfl) (by decide) ?_
                refine gx_iconst X (v := (0 : Int32)) dX3_nameOf_80 (by decide) ?_
                obtain ⟨rfl, rfl⟩ := ret_eq h
                exact gx_iret X rfl dX3_nameOf_81
              · replace h := (if_neg q7).symm.trans h
                by_cases q8 : a0 = (105 : Int32)
                · replace h := (if_pos q8).symm.trans h
                  have eq8 : (a0).toInt = 105 := by rw [q8] <;> decide
                  refine gx_tab 92 X dX3_nameOf_1 (by rw [eq8] <;> decide) (by rw [eq8] <;> decide) (by rw [eq8] <;> rfl) (by decide) ?_
                  refine gx_iconst X (v := (-1 : Int32)) dX3_nameOf_92 (by decide) ?_
                  obtain ⟨rfl, rfl⟩ := ret_eq h
                  exact gx_iret X rfl dX3_nameOf_93
                · replace h := (if_neg q8).symm.trans h
                  by_cases q9 : a0 = (106 : Int32)
                  · replace h := (if_pos q9).symm.trans h
                    have eq9 : (a0).toInt = 106 := by rw [q9] <;> decide
                    refine gx_tab 92 X dX3_nameOf_1 (by rw [eq9] <;> decide) (by rw [eq9] <;> decide) (by rw [eq9] <;> rfl) (by decide) ?_
                    refine gx_iconst X (v := (-1 : Int32)) dX3_nameOf_92 (by decide) ?_
                    obtain ⟨rfl, rfl⟩ := ret_eq h
                    exact gx_iret X rfl dX3_nameOf_93
                  · replace h := (if_neg q9).symm.trans h
                    by_cases q10 : a0 = (107 : Int32)
                    · replace h := (if_pos q10).symm.trans h
                      have eq10 : (a0).toInt = 107 := by rw [q10] <;> decide
                      refine gx_tab 92 X dX3_nameOf_1 (by rw [eq10] <;> decide) (by rw [eq10] <;> decide) (by rw [eq10] <;> rfl) (by decide) ?_
                      refine gx_iconst X (v := (-1 : Int32)) dX3_nameOf_92 (by decide) ?_
                      obtain ⟨rfl, rfl⟩ := ret_eq h
                      exact gx_iret X rfl dX3_nameOf_93
                    · replace h := (if_neg q10).symm.trans h
                      by_cases q11 : a0 = (108 : Int32)
                      · replace h := (if_pos q11).symm.trans h
                        have eq11 : (a0).toInt = 108 := by rw [q11] <;> decide
                        refine gx_tab 92 X dX3_nameOf_1 (by rw [eq11] <;> decide) (by rw [eq11] <;> decide) (by rw [eq11] <;> rfl) (by decide) ?_
                        refine gx_iconst X (v := (-1 : Int32)) dX3_nameOf_92 (by decide) ?_
                        obtain ⟨rfl, rfl⟩ := ret_eq h
                        exact gx_iret X rfl dX3_nameOf_93
                      · replace h := (if_neg q11).symm.trans h
                        by_cases q12 : a0 = (109 : Int32)
                        · replace h := (if_pos q12).symm.trans h
                          have eq12 : (a0).toInt = 109 := by rw [q12] <;> decide
                          refine gx_tab 84 X dX3_nameOf_1 (by rw [eq12] <;> decide) (by rw [eq12] <;> decide) (by rw [eq12] <;> rfl) (by decide) ?_
                          refine gx_iconst X (v := (2 : Int32)) dX3_nameOf_84 (by decide) ?_
                          obtain ⟨rfl, rfl⟩ := ret_eq h
                          exact gx_iret X rfl dX3_nameOf_85
                        · replace h := (if_neg q12).symm.trans h
                          by_cases q13 : a0 = (110 : Int32)
                          · replace h := (if_pos q13).symm.trans h
                            have eq13 : (a0).toInt = 110 := by rw [q13] <;> decide
                            refine gx_tab 86 X dX3_nameOf_1 (by rw [eq13] <;> decide) (by rw [eq13] <;> decide) (by rw [eq13] <;> rfl) (by decide) ?_
                            refine gx_iconst X (v := (3 : Int32)) dX3_nameOf_86 (by decide) ?_
                            obtain ⟨rfl, rfl⟩ := ret_eq h
                            exact gx_iret X rfl dX3_nameOf_87
                          · replace h := (if_neg q13).symm.trans h
                            by_cases q14 : a0 = (111 : Int32)
                            · replace h := (if_pos q14).symm.trans h
                              have eq14 : (a0).toInt = 111 := by rw [q14] <;> decide
                              refine gx_tab 92 X dX3_nameOf_1 (by rw [eq14] <;> decide) (by rw [eq14] <;> decide) (by rw [eq14] <;> rfl) (by decide) ?_
                              refine gx_iconst X (v := (-1 : Int32)) dX3_nameOf_92 (by decide) ?_
                              obtain ⟨rfl, rfl⟩ := ret_eq h
                              exact gx_iret X rfl dX3_nameOf_93
                            · replace h := (if_neg q14).symm.trans h
                              by_cases q15 : a0 = (112 : Int32)
                              · replace h := (if_pos q15).symm.trans h
                                have eq15 : (a0).toInt = 112 := by rw [q15] <;> decide
                                refine gx_tab 88 X dX3_nameOf_1 (by rw [eq15] <;> decide) (by rw [eq15] <;> decide) (by rw [eq15] <;> rfl) (by decide) ?_
                                refine gx_iconst X (v := (4 : Int32)) dX3_nameOf_88 (by decide) ?_
                                obtain ⟨rfl, rfl⟩ := ret_eq h
                                exact gx_iret X rfl dX3_nameOf_89
                              · replace h := (if_neg q15).symm.trans h
                                by_cases q16 : a0 = (113 : Int32)
                                · replace h := (if_pos q16).symm.trans h
                                  have eq16 : (a0).toInt = 113 := by rw [q16] <;> decide
                                  refine gx_tab 90 X dX3_nameOf_1 (by rw [eq16] <;> decide) (by rw [eq16] <;> decide) (by rw [eq16] <;> rfl) (by decide) ?_
                                  refine gx_iconst X (v := (5 : Int32)) dX3_nameOf_90 (by decide) ?_
                                  obtain ⟨rfl, rfl⟩ := ret_eq h
                                  exact gx_iret X rfl dX3_nameOf_91
                                · replace h := (if_neg q16).symm.trans h
                                  have eq1 := lv_neT (a := 98) q1 (by decide)
                                  have eq2 := lv_neT (a := 99) q2 (by decide)
                                  have eq3 := lv_neT (a := 100) q3 (by decide)
                                  have eq4 := lv_neT (a := 101) q4 (by decide)
                                  have eq5 := lv_neT (a := 102) q5 (by decide)
                                  have eq6 := lv_neT (a := 103) q6 (by decide)
                                  have eq7 := lv_neT (a := 104) q7 (by decide)
                                  have eq8 := lv_neT (a := 105) q8 (by decide)
                                  have eq9 := lv_neT (a := 106) q9 (by decide)
                                  have eq10 := lv_neT (a := 107) q10 (by decide)
                                  have eq11 := lv_neT (a := 108) q11 (by decide)
                                  have eq12 := lv_neT (a := 109) q12 (by decide)
                                  have eq13 := lv_neT (a := 110) q13 (by decide)
                                  have eq14 := lv_neT (a := 111) q14 (by decide)
                                  have eq15 := lv_neT (a := 112) q15 (by decide)
                                  have eq16 := lv_neT (a := 113) q16 (by decide)
                                  refine gx_tabO 92 X dX3_nameOf_1 (by omega) (by decide) ?_
                                  refine gx_iconst X (v := (-1 : Int32)) dX3_nameOf_92 (by decide) ?_
                                  obtain ⟨rfl, rfl⟩ := ret_eq h
                                  exact gx_iret X rfl dX3_nameOf_93
theorem dX3_readNumber_0 : decode cX3_readNumber 0 = .ok (.iconst 0, 1) := by decide +kernel
theorem dX3_readNumber_1 : decode cX3_readNumber 1 = .ok (.istore_n 1, 1) := by decide +kernel
theorem dX3_readNumber_2 : decode cX3_readNumber 2 = .ok (.iconst 0, 1) := by decide +kernel
theorem dX3_readNumber_3 : decode cX3_readNumber 3 = .ok (.istore_n 2, 1) := by decide +kernel
theorem dX3_readNumber_4 : decode cX3_readNumber 4 = .ok (.iload_n 2, 1) := by decide +kernel
theorem dX3_readNumber_5 : decode cX3_readNumber 5 = .ok (.iconst 4, 1) := by decide +kernel
theorem dX3_readNumber_6 : decode cX3_readNumber 6 = .ok (.if_icmp .ge 63, 3) := by decide +kernel
theorem dX3_readNumber_9 : decode cX3_readNumber 9 = .ok (.aload_n 0, 1) := by decide +kernel
theorem dX3_readNumber_10 : decode cX3_readNumber 10 = .ok (.getfield 17, 3) := by decide +kernel
theorem dX3_readNumber_13 : decode cX3_readNumber 13 = .ok (.aload_n 0, 1) := by decide +kernel
theorem dX3_readNumber_14 : decode cX3_readNumber 14 = .ok (.getfield 13, 3) := by decide +kernel
theorem dX3_readNumber_17 : decode cX3_readNumber 17 = .ok (.if_icmp .ge 52, 3) := by decide +kernel
theorem dX3_readNumber_20 : decode cX3_readNumber 20 = .ok (.aload_n 0, 1) := by decide +kernel
theorem dX3_readNumber_21 : decode cX3_readNumber 21 = .ok (.getfield 9, 3) := by decide +kernel
theorem dX3_readNumber_24 : decode cX3_readNumber 24 = .ok (.aload_n 0, 1) := by decide +kernel
theorem dX3_readNumber_25 : decode cX3_readNumber 25 = .ok (.getfield 17, 3) := by decide +kernel
theorem dX3_readNumber_28 : decode cX3_readNumber 28 = .ok (.iaload, 1) := by decide +kernel
theorem dX3_readNumber_29 : decode cX3_readNumber 29 = .ok (.invokestatic 61, 3) := by decide +kernel
theorem dX3_readNumber_32 : decode cX3_readNumber 32 = .ok (.ifCond .eq 37, 3) := by decide +kernel
theorem dX3_readNumber_35 : decode cX3_readNumber 35 = .ok (.iload_n 1, 1) := by decide +kernel
theorem dX3_readNumber_36 : decode cX3_readNumber 36 = .ok (.bipush 10, 2) := by decide +kernel
theorem dX3_readNumber_38 : decode cX3_readNumber 38 = .ok (.imul, 1) := by decide +kernel
theorem dX3_readNumber_39 : decode cX3_readNumber 39 = .ok (.aload_n 0, 1) := by decide +kernel
theorem dX3_readNumber_40 : decode cX3_readNumber 40 = .ok (.getfield 9, 3) := by decide +kernel
theorem dX3_readNumber_43 : decode cX3_readNumber 43 = .ok (.aload_n 0, 1) := by decide +kernel
theorem dX3_readNumber_44 : decode cX3_readNumber 44 = .ok (.getfield 17, 3) := by decide +kernel
theorem dX3_readNumber_47 : decode cX3_readNumber 47 = .ok (.iaload, 1) := by decide +kernel
theorem dX3_readNumber_48 : decode cX3_readNumber 48 = .ok (.iadd, 1) := by decide +kernel
theorem dX3_readNumber_49 : decode cX3_readNumber 49 = .ok (.bipush 48, 2) := by decide +kernel
theorem dX3_readNumber_51 : decode cX3_readNumber 51 = .ok (.isub, 1) := by decide +kernel
theorem dX3_readNumber_52 : decode cX3_readNumber 52 = .ok (.istore_n 1, 1) := by decide +kernel
theorem dX3_readNumber_53 : decode cX3_readNumber 53 = .ok (.aload_n 0, 1) := by decide +kernel
theorem dX3_readNumber_54 : decode cX3_readNumber 54 = .ok (.dup, 1) := by decide +kernel
theorem dX3_readNumber_55 : decode cX3_readNumber 55 = .ok (.getfield 17, 3) := by decide +kernel
theorem dX3_readNumber_58 : decode cX3_readNumber 58 = .ok (.iconst 1, 1) := by decide +kernel
theorem dX3_readNumber_59 : decode cX3_readNumber 59 = .ok (.iadd, 1) := by decide +kernel
theorem dX3_readNumber_60 : decode cX3_readNumber 60 = .ok (.putfield 17, 3) := by decide +kernel
theorem dX3_readNumber_63 : decode cX3_readNumber 63 = .ok (.iinc 2 1, 3) := by decide +kernel
theorem dX3_readNumber_66 : decode cX3_readNumber 66 = .ok (.goto (-62), 3) := by decide +kernel
theorem dX3_readNumber_69 : decode cX3_readNumber 69 = .ok (.iload_n 1, 1) := by decide +kernel
theorem dX3_readNumber_70 : decode cX3_readNumber 70 = .ok (.ireturn, 1) := by decide +kernel
def m_X3_readNumber_4 : Nat → Int32 → Int32 → Mm → Option (Int32 × Mm)
  | 0, _, _, _ => none
  | n + 1, x1, x2, g => (if (4 : Int32) ≤ x2 then some (x1, g) else (if (rdI g 11 1) ≤ (rdI g 11 2) then some (x1, g) else gdd (ixo (rdI g 11 2) 120) (bdd (m_X3_isDigit (rdI g 12 (rdI g 11 2).toNatClampNeg) g) (fun ra4 ga5 => (if ra4 = (0 : Int32) then some (x1, ga5) else gdd (ixo (rdI ga5 11 2) 120) (lti (((x1 * (10 : Int32)) + (rdI ga5 12 (rdI ga5 11 2).toNatClampNeg)) - (48 : Int32)) (fun v9 => m_X3_readNumber_4 n v9 (x2 + (1 : Int32)) (wrI ga5 11 2 ((rdI ga5 11 2) + (1 : Int32))))))))))
set_option maxHeartbeats 2000000 in
theorem t_X3_readNumber_4 {r2 : Int32} {g2 : Mm} (X : gx_X p R s m args meth c D al cI cJ A RX3 cX3_readNumber 3 (some .int) d 0 0) (hd : 2 ≤ d) : ∀ (n : Nat) (x1 : Int32) (x2 : Int32) (g : Mm), m_X3_readNumber_4 n x1 x2 g = some (r2, g2) → gx_G p l e R s m args below meth c (gx_Q below args s D al cI cJ A (some (.int r2)) g2) D al cI cJ A 3 0 0 4 [(0, .ref (al (11))), (1, .int (x1)), (2, .int (x2))] [] g := by
  intro n
  induction n with
  | zero => intro x1 x2 g h; cases h
  | succ n ih =>
    intro x1 x2 g h
    rw [m_X3_readNumber_4] at h
    refine gx_iload_n X 2 rfl dX3_readNumber_4 ?_
    refine gx_iconst X (v := (4 : Int32)) dX3_readNumber_5 (by decide) ?_
    refine gx_icmp_ge X 69 dX3_readNumber_6 (by decide) (fun q1 => ?_) (fun q1 => ?_)
    · replace h := (if_pos q1).symm.trans h
      refine gx_iload_n X 1 rfl dX3_readNumber_69 ?_
      obtain ⟨rfl, rfl⟩ := ret_eq h
      exact gx_iret X rfl dX3_readNumber_70
    · replace h := (if_neg q1).symm.trans h
      refine gx_aload_n X 0 rfl dX3_readNumber_9 ?_
      refine gx_getf X (11) lf_X3_17 (by decide) (cl_11 _ _) (v := .int ((rdI g 11 2))) rfl dX3_readNumber_10 ?_
      refine gx_aload_n X 0 rfl dX3_readNumber_13 ?_
      refine gx_getf X (11) lf_X3_13 (by decide) (cl_11 _ _) (v := .int ((rdI g 11 1))) rfl dX3_readNumber_14 ?_
      refine gx_icmp_ge X 69 dX3_readNumber_17 (by decide) (fun q2 => ?_) (fun q2 => ?_)
      · replace h := (if_pos q2).symm.trans h
        refine gx_iload_n X 1 rfl dX3_readNumber_69 ?_
        obtain ⟨rfl, rfl⟩ := ret_eq h
        exact gx_iret X rfl dX3_readNumber_70
      · replace h := (if_neg q2).symm.trans h
        refine gx_aload_n X 0 rfl dX3_readNumber_20 ?_
        refine gx_getf X (11) lf_X3_9 (by decide) (cl_11 _ _) (v := .ref (al (12))) rfl dX3_readNumber_21 ?_
        refine gx_aload_n X 0 rfl dX3_readNumber_24 ?_
        refine gx_getf X (11) lf_X3_17 (by decide) (cl_11 _ _) (v := .int ((rdI g 11 2))) rfl dX3_readNumber_25 ?_
        obtain ⟨q3, h⟩ := gdd_eq h
        refine gx_iald X (12) 120 (by decide) (cl_12 _ _) q3 dX3_readNumber_28 ?_
        obtain ⟨ra4, ga5, ca6, h⟩ := bdd_eq h
        refine gx_callSi X (c_X3_isDigit ca6) lc_X3_isDigit li_X3_isDigit lm_X3_61 rfl rfl (Nat.le_trans (by decide) hd) rfl (Nat.le_of_ble_eq_true rfl) dX3_readNumber_29 ?_
        refine gx_if_eq X 69 dX3_readNumber_32 (by decide) (fun q7 => ?_) (fun q7 => ?_)
        · replace h := (if_pos q7).symm.trans h
          refine gx_iload_n X 1 rfl dX3_readNumber_69 ?_
          obtain ⟨rfl, rfl⟩ := ret_eq h
          exact gx_iret X rfl dX3_readNumber_70
        · replace h := (if_neg q7).symm.trans h
          refine gx_iload_n X 1 rfl dX3_readNumber_35 ?_
          refine gx_bipush X (v := (10 : Int32)) dX3_readNumber_36 (by decide) ?_
          refine gx_imul X dX3_readNumber_38 ?_
          refine gx_aload_n X 0 rfl dX3_readNumber_39 ?_
          refine gx_getf X (11) lf_X3_9 (by decide) (cl_11 _ _) (v := .ref (al (12))) rfl dX3_readNumber_40 ?_
          refine gx_aload_n X 0 rfl dX3_readNumber_43 ?_
          refine gx_getf X (11) lf_X3_17 (by decide) (cl_11 _ _) (v := .int ((rdI ga5 11 2))) rfl dX3_readNumber_44 ?_
          obtain ⟨q8, h⟩ := gdd_eq h
          refine gx_iald X (12) 120 (by decide) (cl_12 _ _) q8 dX3_readNumber_47 ?_
          refine gx_iadd X dX3_readNumber_48 ?_
          refine gx_bipush X (v := (48 : Int32)) dX3_readNumber_49 (by decide) ?_
          refine gx_isub X dX3_readNumber_51 ?_
          obtain ⟨v9, ev9, h⟩ := lti_eq h
          refine gx_topi ev9 ?_
          refine gx_istore_n X [(1, .int (v9)), (0, .ref (al (11))), (2, .int (x2))] dX3_readNumber_52 (by decide) rfl ?_
          refine gx_aload_n X 1 rfl dX3_readNumber_53 ?_
          refine gx_dup X dX3_readNumber_54 rfl ?_
          refine gx_getf X (11) lf_X3_17 (by decide) (cl_11 _ _) (v := .int ((rdI ga5 11 2))) rfl dX3_readNumber_55 ?_
          refine gx_iconst X (v := (1 : Int32)) dX3_readNumber_58 (by decide) ?_
          refine gx_iadd X dX3_readNumber_59 ?_
          refine gx_putf X (11) ((rdI ga5 11 2) + (1 : Int32)) lf_X3_17 lp_X3_2 (by decide) (cl_11 _ _) (Nat.le_of_ble_eq_true rfl) rfl rfl rfl dX3_readNumber_60 ?_
          refine gx_iinc X [(2, .int ((x2 + (1 : Int32)))), (1, .int (v9)), (0, .ref (al (11)))] 2 dX3_readNumber_63 rfl rfl (by decide) rfl ?_
          refine gx_goto X 4 dX3_readNumber_66 (by decide) ?_
          exact gx_sub [2, 1, 0] rfl (ih v9 (x2 + (1 : Int32)) (wrI ga5 11 2 ((rdI ga5 11 2) + (1 : Int32))) h)
def m_X3_readNumber (g : Mm) : Option (Int32 × Mm) := m_X3_readNumber_4 fuL (0 : Int32) (0 : Int32) g
set_option maxHeartbeats 2000000 in
theorem c_X3_readNumber {r2 : Int32} {g g2 : Mm} (h : m_X3_readNumber g = some (r2, g2)) : gx_M 2 yX3_readNumber cX3_readNumber 3 (some .int) (fun al => [.ref (al (11))]) g (some (.int r2)) g2 := by
  have hd : 2 ≤ 2 := Nat.le_refl _
  refine gx_M.of (by decide +kernel) (fun _ => Nat.le_of_ble_eq_true rfl) ?_
  intro p l e R s m args below meth c D al cI cJ A X
  refine gx_eq (pc' := 0) (ls' := [(0, .ref (al (11)))]) (st' := []) (g' := g) ⟨rfl, rfl, rfl, rfl⟩ ?_
  unfold m_X3_readNumber at h
  refine gx_iconst X (v := (0 : Int32)) dX3_readNumber_0 (by decide) ?_
  refine gx_istore_n X [(1, .int ((0 : Int32))), (0, .ref (al (11)))] dX3_readNumber_1 (by decide) rfl ?_
  refine gx_iconst X (v := (0 : Int32)) dX3_readNumber_2 (by decide) ?_
  refine gx_istore_n X [(2, .int ((0 : Int32))), (1, .int ((0 : Int32))), (0, .ref (al (11)))] dX3_readNumber_3 (by decide) rfl ?_
  exact gx_sub [2, 1, 0] rfl (t_X3_readNumber_4 X hd fuL (0 : Int32) (0 : Int32) g h)
theorem dX3_readPart_0 : decode cX3_readPart 0 = .ok (.iload_n 1, 1) := by decide +kernel
theorem dX3_readPart_1 : decode cX3_readPart 1 = .ok (.iconst 5, 1) := by decide +kernel
theorem dX3_readPart_2 : decode cX3_readPart 2 = .ok (.if_icmp .lt 11, 3) := by decide +kernel
theorem dX3_readPart_5 : decode cX3_readPart 5 = .ok (.aload_n 0, 1) := by decide +kernel
theorem dX3_readPart_6 : decode cX3_readPart 6 = .ok (.iload_n 2, 1) := by decide +kernel
theorem dX3_readPart_7 : decode cX3_readPart 7 = .ok (.invokevirtual 51, 3) := by decide +kernel
theorem dX3_readPart_10 : decode cX3_readPart 10 = .ok (.goto 9, 3) := by decide +kernel
theorem dX3_readPart_13 : decode cX3_readPart 13 = .ok (.aload_n 0, 1) := by decide +kernel
theorem dX3_readPart_14 : decode cX3_readPart 14 = .ok (.iload_n 1, 1) := by decide +kernel
theorem dX3_readPart_15 : decode cX3_readPart 15 = .ok (.iload_n 2, 1) := by decide +kernel
theorem dX3_readPart_16 : decode cX3_readPart 16 = .ok (.invokevirtual 35, 3) := by decide +kernel
theorem dX3_readPart_19 : decode cX3_readPart 19 = .ok (.ireturn, 1) := by decide +kernel
def m_X3_readPart (C : Nat → Int32 → Int32 → Int32 → Int32 → Mm → Option (Int32 × Mm)) (a1 : Int32) (a2 : Int32) (g : Mm) : Option (Int32 × Mm) := (if a1 < (5 : Int32) then bdd (C 1 a1 a2 (0 : Int32) (0 : Int32) g) (fun ra2 ga3 => gdd (zbI ra2) (some (ra2, ga3))) else bdd (C 2 a2 (0 : Int32) (0 : Int32) (0 : Int32) g) (fun ra6 ga7 => gdd (zbI ra6) (some (ra6, ga7))))
set_option maxHeartbeats 2000000 in
theorem b_X3_readPart {d : Nat} {r2 : Int32} {g g2 : Mm} (hd : 3 ≤ d) {dn : Nat} {C : Nat → Int32 → Int32 → Int32 → Int32 → Mm → Option (Int32 × Mm)} (hdn : dn + 1 ≤ d) (hC0 : ∀ (b0 b1 b2 b3 : Int32) (g : Mm) (rr : Int32) (gg : Mm), C 0 b0 b1 b2 b3 g = some (rr, gg) → gx_M dn yX3_readPart cX3_readPart 3 (some .boolean) (fun al => [.ref (al (11)), .int (b0), .int (b1)]) g (some (.int rr)) gg) (hC1 : ∀ (b0 b1 b2 b3 : Int32) (g : Mm) (rr : Int32) (gg : Mm), C 1 b0 b1 b2 b3 g = some (rr, gg) → gx_M dn yX3_readJoined cX3_readJoined 5 (some .boolean) (fun al => [.ref (al (11)), .int (b0), .int (b1)]) g (some (.int rr)) gg) (hC2 : ∀ (b0 b1 b2 b3 : Int32) (g : Mm) (rr : Int32) (gg : Mm), C 2 b0 b1 b2 b3 g = some (rr, gg) → gx_M dn yX3_readOperand cX3_readOperand 3 (some .boolean) (fun al => [.ref (al (11)), .int (b0)]) g (some (.int rr)) gg) (hC3 : ∀ (b0 b1 b2 b3 : Int32) (g : Mm) (rr : Int32) (gg : Mm), C 3 b0 b1 b2 b3 g = some (rr, gg) → gx_M dn yX3_readSigned cX3_readSigned 3 (some .boolean) (fun al => [.ref (al (11)), .int (b0), .int (b1)]) g (some (.int rr)) gg) (hC4 : ∀ (b0 b1 b2 b3 : Int32) (g : Mm) (rr : Int32) (gg : Mm), C 4 b0 b1 b2 b3 g = some (rr, gg) → gx_M dn yX3_readBraced cX3_readBraced 2 (some .boolean) (fun al => [.ref (al (11)), .int (b0)]) g (some (.int rr)) gg) {a1 : Int32} {a2 : Int32} (h : m_X3_readPart C a1 a2 g = some (r2, g2)) : gx_M d yX3_readPart cX3_readPart 3 (some .boolean) (fun al => [.ref (al (11)), .int (a1), .int (a2)]) g (some (.int r2)) g2 := by
  refine gx_M.of (by decide +kernel) (fun _ => Nat.le_of_ble_eq_true rfl) ?_
  intro p l e R s m args below meth c D al cI cJ A X
  refine gx_eq (pc' := 0) (ls' := [(0, .ref (al (11))), (1, .int (a1)), (2, .int (a2))]) (st' := []) (g' := g) ⟨rfl, rfl, rfl, rfl⟩ ?_
  unfold m_X3_readPart at h
  refine gx_iload_n X 1 rfl dX3_readPart_0 ?_
  refine gx_iconst X (v := (5 : Int32)) dX3_readPart_1 (by decide) ?_
  refine gx_icmp_lt X 13 dX3_readPart_2 (by decide) (fun q1 => ?_) (fun q1 => ?_)
  · replace h := (if_pos q1).symm.trans h
    refine gx_aload_n X 0 rfl dX3_readPart_13 ?_
    refine gx_iload_n X 1 rfl dX3_readPart_14 ?_
    refine gx_iload_n X 2 rfl dX3_readPart_15 ?_
    obtain ⟨ra2, ga3, ca4, h⟩ := bdd_eq h
    refine gx_callVi X (11) (hC1 _ _ _ _ _ _ _ ca4) lc_X3_readJoined li_X3_readJoined lm_X3_35 (by decide) (cl_11 _ _) rfl rfl rfl hdn rfl (Nat.le_of_ble_eq_true rfl) dX3_readPart_16 ?_
    obtain ⟨q5, h⟩ := gdd_eq h
    obtain ⟨rfl, rfl⟩ := ret_eq h
    exact gx_iret X (zbI_n q5) dX3_readPart_19
  · replace h := (if_neg q1).symm.trans h
    refine gx_aload_n X 0 rfl dX3_readPart_5 ?_
    refine gx_iload_n X 2 rfl dX3_readPart_6 ?_
    obtain ⟨ra6, ga7, ca8, h⟩ := bdd_eq h
    refine gx_callVi X (11) (hC2 _ _ _ _ _ _ _ ca8) lc_X3_readOperand li_X3_readOperand lm_X3_51 (by decide) (cl_11 _ _) rfl rfl rfl hdn rfl (Nat.le_of_ble_eq_true rfl) dX3_readPart_7 ?_
    refine gx_goto X 19 dX3_readPart_10 (by decide) ?_
    obtain ⟨q9, h⟩ := gdd_eq h
    obtain ⟨rfl, rfl⟩ := ret_eq h
    exact gx_iret X (zbI_n q9) dX3_readPart_19
theorem dX3_readJoined_0 : decode cX3_readJoined 0 = .ok (.aload_n 0, 1) := by decide +kernel
theorem dX3_readJoined_1 : decode cX3_readJoined 1 = .ok (.iload_n 1, 1) := by decide +kernel
theorem dX3_readJoined_2 : decode cX3_readJoined 2 = .ok (.iconst 1, 1) := by decide +kernel
theorem dX3_readJoined_3 : decode cX3_readJoined 3 = .ok (.iadd, 1) := by decide +kernel
theorem dX3_readJoined_4 : decode cX3_readJoined 4 = .ok (.iload_n 2, 1) := by decide +kernel
theorem dX3_readJoined_5 : decode cX3_readJoined 5 = .ok (.invokevirtual 54, 3) := by decide +kernel
theorem dX3_readJoined_8 : decode cX3_readJoined 8 = .ok (.ifCond .ne 5, 3) := by decide +kernel
theorem dX3_readJoined_11 : decode cX3_readJoined 11 = .ok (.iconst 0, 1) := by decide +kernel
theorem dX3_readJoined_12 : decode cX3_readJoined 12 = .ok (.ireturn, 1) := by decide +kernel
theorem dX3_readJoined_13 : decode cX3_readJoined 13 = .ok (.iconst 1, 1) := by decide +kernel
theorem dX3_readJoined_14 : decode cX3_readJoined 14 = .ok (.istore_n 3, 1) := by decide +kernel
theorem dX3_readJoined_15 : decode cX3_readJoined 15 = .ok (.iload_n 3, 1) := by decide +kernel
theorem dX3_readJoined_16 : decode cX3_readJoined 16 = .ok (.ifCond .eq 88, 3) := by decide +kernel
theorem dX3_readJoined_19 : decode cX3_readJoined 19 = .ok (.aload_n 0, 1) := by decide +kernel
theorem dX3_readJoined_20 : decode cX3_readJoined 20 = .ok (.getfield 17, 3) := by decide +kernel
theorem dX3_readJoined_23 : decode cX3_readJoined 23 = .ok (.aload_n 0, 1) := by decide +kernel
theorem dX3_readJoined_24 : decode cX3_readJoined 24 = .ok (.getfield 13, 3) := by decide +kernel
theorem dX3_readJoined_27 : decode cX3_readJoined 27 = .ok (.if_icmp .ge 77, 3) := by decide +kernel
theorem dX3_readJoined_30 : decode cX3_readJoined 30 = .ok (.aload_n 0, 1) := by decide +kernel
theorem dX3_readJoined_31 : decode cX3_readJoined 31 = .ok (.getfield 9, 3) := by decide +kernel
theorem dX3_readJoined_34 : decode cX3_readJoined 34 = .ok (.aload_n 0, 1) := by decide +kernel
theorem dX3_readJoined_35 : decode cX3_readJoined 35 = .ok (.getfield 17, 3) := by decide +kernel
theorem dX3_readJoined_38 : decode cX3_readJoined 38 = .ok (.iaload, 1) := by decide +kernel
theorem dX3_readJoined_39 : decode cX3_readJoined 39 = .ok (.invokestatic 57, 3) := by decide +kernel
theorem dX3_readJoined_42 : decode cX3_readJoined 42 = .ok (.iload_n 1, 1) := by decide +kernel
theorem dX3_readJoined_43 : decode cX3_readJoined 43 = .ok (.if_icmp .ne 61, 3) := by decide +kernel
theorem dX3_readJoined_46 : decode cX3_readJoined 46 = .ok (.aload_n 0, 1) := by decide +kernel
theorem dX3_readJoined_47 : decode cX3_readJoined 47 = .ok (.getfield 9, 3) := by decide +kernel
theorem dX3_readJoined_50 : decode cX3_readJoined 50 = .ok (.aload_n 0, 1) := by decide +kernel
theorem dX3_readJoined_51 : decode cX3_readJoined 51 = .ok (.getfield 17, 3) := by decide +kernel
theorem dX3_readJoined_54 : decode cX3_readJoined 54 = .ok (.iaload, 1) := by decide +kernel
theorem dX3_readJoined_55 : decode cX3_readJoined 55 = .ok (.istore 4, 2) := by decide +kernel
theorem dX3_readJoined_57 : decode cX3_readJoined 57 = .ok (.aload_n 0, 1) := by decide +kernel
theorem dX3_readJoined_58 : decode cX3_readJoined 58 = .ok (.dup, 1) := by decide +kernel
theorem dX3_readJoined_59 : decode cX3_readJoined 59 = .ok (.getfield 17, 3) := by decide +kernel
theorem dX3_readJoined_62 : decode cX3_readJoined 62 = .ok (.iconst 1, 1) := by decide +kernel
theorem dX3_readJoined_63 : decode cX3_readJoined 63 = .ok (.iadd, 1) := by decide +kernel
theorem dX3_readJoined_64 : decode cX3_readJoined 64 = .ok (.putfield 17, 3) := by decide +kernel
theorem dX3_readJoined_67 : decode cX3_readJoined 67 = .ok (.aload_n 0, 1) := by decide +kernel
theorem dX3_readJoined_68 : decode cX3_readJoined 68 = .ok (.iload_n 1, 1) := by decide +kernel
theorem dX3_readJoined_69 : decode cX3_readJoined 69 = .ok (.iconst 1, 1) := by decide +kernel
theorem dX3_readJoined_70 : decode cX3_readJoined 70 = .ok (.iadd, 1) := by decide +kernel
theorem dX3_readJoined_71 : decode cX3_readJoined 71 = .ok (.iload_n 2, 1) := by decide +kernel
theorem dX3_readJoined_72 : decode cX3_readJoined 72 = .ok (.invokevirtual 54, 3) := by decide +kernel
theorem dX3_readJoined_75 : decode cX3_readJoined 75 = .ok (.ifCond .ne 5, 3) := by decide +kernel
theorem dX3_readJoined_78 : decode cX3_readJoined 78 = .ok (.iconst 0, 1) := by decide +kernel
theorem dX3_readJoined_79 : decode cX3_readJoined 79 = .ok (.ireturn, 1) := by decide +kernel
theorem dX3_readJoined_80 : decode cX3_readJoined 80 = .ok (.aload_n 0, 1) := by decide +kernel
theorem dX3_readJoined_81 : decode cX3_readJoined 81 = .ok (.getfield 27, 3) := by decide +kernel
theorem dX3_readJoined_84 : decode cX3_readJoined 84 = .ok (.iload 4, 2) := by decide +kernel
theorem dX3_readJoined_86 : decode cX3_readJoined 86 = .ok (.iconst 0, 1) := by decide +kernel
theorem dX3_readJoined_87 : decode cX3_readJoined 87 = .ok (.invokevirtual 43, 3) := by decide +kernel
theorem dX3_readJoined_90 : decode cX3_readJoined 90 = .ok (.iload_n 1, 1) := by decide +kernel
theorem dX3_readJoined_91 : decode cX3_readJoined 91 = .ok (.iconst 2, 1) := by decide +kernel
theorem dX3_readJoined_92 : decode cX3_readJoined 92 = .ok (.if_icmp .eq 7, 3) := by decide +kernel
theorem dX3_readJoined_95 : decode cX3_readJoined 95 = .ok (.iconst 1, 1) := by decide +kernel
theorem dX3_readJoined_96 : decode cX3_readJoined 96 = .ok (.goto 4, 3) := by decide +kernel
theorem dX3_readJoined_99 : decode cX3_readJoined 99 = .ok (.iconst 0, 1) := by decide +kernel
theorem dX3_readJoined_100 : decode cX3_readJoined 100 = .ok (.istore_n 3, 1) := by decide +kernel
theorem dX3_readJoined_101 : decode cX3_readJoined 101 = .ok (.goto (-86), 3) := by decide +kernel
theorem dX3_readJoined_104 : decode cX3_readJoined 104 = .ok (.iconst 1, 1) := by decide +kernel
theorem dX3_readJoined_105 : decode cX3_readJoined 105 = .ok (.ireturn, 1) := by decide +kernel
def m_X3_readJoined_15 (C : Nat → Int32 → Int32 → Int32 → Int32 → Mm → Option (Int32 × Mm)) : Nat → Int32 → Int32 → Int32 → Mm → Option (Int32 × Mm)
  | 0, _, _, _, _ => none
  | n + 1, x1, x2, x3, g => (if x3 = (0 : Int32) then some ((1 : Int32), g) else (if (rdI g 11 1) ≤ (rdI g 11 2) then some ((1 : Int32), g) else gdd (ixo (rdI g 11 2) 120) (bdd (m_X3_levelOf (rdI g 12 (rdI g 11 2).toNatClampNeg) g) (fun ra4 ga5 => (if ra4 = x1 then gdd (ixo (rdI ga5 11 2) 120) (lti (rdI ga5 12 (rdI ga5 11 2).toNatClampNeg) (fun v9 => bdd (C 0 (x1 + (1 : Int32)) x2 (0 : Int32) (0 : Int32) (wrI ga5 11 2 ((rdI ga5 11 2) + (1 : Int32)))) (fun ra10 ga11 => (if ra10 = (0 : Int32) then some ((0 : Int32), ga11) else bdd (m_X4_add (rdI ga11 11 4) v9 (0 : Int32) ga11) (fun ra14 ga15 => (if x1 = (2 : Int32) then m_X3_readJoined_15 C n x1 x2 (0 : Int32) ga15 else m_X3_readJoined_15 C n x1 x2 (1 : Int32) ga15)))))) else some ((1 : Int32), ga5))))))
set_option maxHeartbeats 2000000 in
theorem t_X3_readJoined_15 {r2 : Int32} {g2 : Mm} (X : gx_X p R s m args meth c D al cI cJ A RX3 cX3_readJoined 5 (some .boolean) d 0 0) (hd : 3 ≤ d) {dn : Nat} {C : Nat → Int32 → Int32 → Int32 → Int32 → Mm → Option (Int32 × Mm)} (hdn : dn + 1 ≤ d) (hC0 : ∀ (b0 b1 b2 b3 : Int32) (g : Mm) (rr : Int32) (gg : Mm), C 0 b0 b1 b2 b3 g = some (rr, gg) → gx_M dn yX3_readPart cX3_readPart 3 (some .boolean) (fun al => [.ref (al (11)), .int (b0), .int (b1)]) g (some (.int rr)) gg) (hC1 : ∀ (b0 b1 b2 b3 : Int32) (g : Mm) (rr : Int32) (gg : Mm), C 1 b0 b1 b2 b3 g = some (rr, gg) → gx_M dn yX3_readJoined cX3_readJoined 5 (some .boolean) (fun al => [.ref (al (11)), .int (b0), .int (b1)]) g (some (.int rr)) gg) (hC2 : ∀ (b0 b1 b2 b3 : Int32) (g : Mm) (rr : Int32) (gg : Mm), C 2 b0 b1 b2 b3 g = some (rr, gg) → gx_M dn yX3_readOperand cX3_readOperand 3 (some .boolean) (fun al => [.ref (al (11)), .int (b0)]) g (some (.int rr)) gg) (hC3 : ∀ (b0 b1 b2 b3 : Int32) (g : Mm) (rr : Int32) (gg : Mm), C 3 b0 b1 b2 b3 g = some (rr, gg) → gx_M dn yX3_readSigned cX3_readSigned 3 (some .boolean) (fun al => [.ref (al (11)), .int (b0), .int (b1)]) g (some (.int rr)) gg) (hC4 : ∀ (b0 b1 b2 b3 : Int32) (g : Mm) (rr : Int32) (gg : Mm), C 4 b0 b1 b2 b3 g = some (rr, gg) → gx_M dn yX3_readBraced cX3_readBraced 2 (some .boolean) (fun al => [.ref (al (11)), .int (b0)]) g (some (.int rr)) gg) : ∀ (n : Nat) (x1 : Int32) (x2 : Int32) (x3 : Int32) (g : Mm), m_X3_readJoined_15 C n x1 x2 x3 g = some (r2, g2) → gx_G p l e R s m args below meth c (gx_Q below args s D al cI cJ A (some (.int r2)) g2) D al cI cJ A 5 0 0 15 [(0, .ref (al (11))), (1, .int (x1)), (2, .int (x2)), (3, .int (x3))] [] g := by
  intro n
  induction n with
  | zero => intro x1 x2 x3 g h; cases h
  | succ n ih =>
    intro x1 x2 x3 g h
    rw [m_X3_readJoined_15] at h
    refine gx_iload_n X 3 rfl dX3_readJoined_15 ?_
    refine gx_if_eq X 104 dX3_readJoined_16 (by decide) (fun q1 => ?_) (fun q1 => ?_)
    · replace h := (if_pos q1).symm.trans h
      refine gx_iconst X (v := (1 : Int32)) dX3_readJoined_104 (by decide) ?_
      obtain ⟨rfl, rfl⟩ := ret_eq h
      exact gx_iret X rfl dX3_readJoined_105
    · replace h := (if_neg q1).symm.trans h
      refine gx_aload_n X 0 rfl dX3_readJoined_19 ?_
      refine gx_getf X (11) lf_X3_17 (by decide) (cl_11 _ _) (v := .int ((rdI g 11 2))) rfl dX3_readJoined_20 ?_
      refine gx_aload_n X 0 rfl dX3_readJoined_23 ?_
      refine gx_getf X (11) lf_X3_13 (by decide) (cl_11 _ _) (v := .int ((rdI g 11 1))) rfl dX3_readJoined_24 ?_
      refine gx_icmp_ge X 104 dX3_readJoined_27 (by decide) (fun q2 => ?_) (fun q2 => ?_)
      · replace h := (if_pos q2).symm.trans h
        refine gx_iconst X (v := (1 : Int32)) dX3_readJoined_104 (by decide) ?_
        obtain ⟨rfl, rfl⟩ := ret_eq h
        exact gx_iret X rfl dX3_readJoined_105
      · replace h := (if_neg q2).symm.trans h
        refine gx_aload_n X 0 rfl dX3_readJoined_30 ?_
        refine gx_getf X (11) lf_X3_9 (by decide) (cl_11 _ _) (v := .ref (al (12))) rfl dX3_readJoined_31 ?_
        refine gx_aload_n X 0 rfl dX3_readJoined_34 ?_
        refine gx_getf X (11) lf_X3_17 (by decide) (cl_11 _ _) (v := .int ((rdI g 11 2))) rfl dX3_readJoined_35 ?_
        obtain ⟨q3, h⟩ := gdd_eq h
        refine gx_iald X (12) 120 (by decide) (cl_12 _ _) q3 dX3_readJoined_38 ?_
        obtain ⟨ra4, ga5, ca6, h⟩ := bdd_eq h
        refine gx_callSi X (c_X3_levelOf ca6) lc_X3_levelOf li_X3_levelOf lm_X3_57 rfl rfl (Nat.le_trans (by decide) hd) rfl (Nat.le_of_ble_eq_true rfl) dX3_readJoined_39 ?_
        refine gx_iload_n X 1 rfl dX3_readJoined_42 ?_
        refine gx_icmp_ne X 104 dX3_readJoined_43 (by decide) (fun q7 => ?_) (fun q7 => ?_)
        · replace h := (if_neg q7).symm.trans h
          refine gx_iconst X (v := (1 : Int32)) dX3_readJoined_104 (by decide) ?_
          obtain ⟨rfl, rfl⟩ := ret_eq h
          exact gx_iret X rfl dX3_readJoined_105
        · replace h := (if_pos q7).symm.trans h
          refine gx_aload_n X 0 rfl dX3_readJoined_46 ?_
          refine gx_getf X (11) lf_X3_9 (by decide) (cl_11 _ _) (v := .ref (al (12))) rfl dX3_readJoined_47 ?_
          refine gx_aload_n X 0 rfl dX3_readJoined_50 ?_
          refine gx_getf X (11) lf_X3_17 (by decide) (cl_11 _ _) (v := .int ((rdI ga5 11 2))) rfl dX3_readJoined_51 ?_
          obtain ⟨q8, h⟩ := gdd_eq h
          refine gx_iald X (12) 120 (by decide) (cl_12 _ _) q8 dX3_readJoined_54 ?_
          obtain ⟨v9, ev9, h⟩ := lti_eq h
          refine gx_topi ev9 ?_
          refine gx_istore X [(4, .int (v9)), (0, .ref (al (11))), (1, .int (x1)), (2, .int (x2)), (3, .int (x3))] dX3_readJoined_55 (by decide) rfl ?_
          refine gx_aload_n X 1 rfl dX3_readJoined_57 ?_
          refine gx_dup X dX3_readJoined_58 rfl ?_
          refine gx_getf X (11) lf_X3_17 (by decide) (cl_11 _ _) (v := .int ((rdI ga5 11 2))) rfl dX3_readJoined_59 ?_
          refine gx_iconst X (v := (1 : Int32)) dX3_readJoined_62 (by decide) ?_
          refine gx_iadd X dX3_readJoined_63 ?_
          refine gx_putf X (11) ((rdI ga5 11 2) + (1 : Int32)) lf_X3_17 lp_X3_2 (by decide) (cl_11 _ _) (Nat.le_of_ble_eq_true rfl) rfl rfl rfl dX3_readJoined_64 ?_
          refine gx_aload_n X 1 rfl dX3_readJoined_67 ?_
          refine gx_iload_n X 2 rfl dX3_readJoined_68 ?_
          refine gx_iconst X (v := (1 : Int32)) dX3_readJoined_69 (by decide) ?_
          refine gx_iadd X dX3_readJoined_70 ?_
          refine gx_iload_n X 3 rfl dX3_readJoined_71 ?_
          obtain ⟨ra10, ga11, ca12, h⟩ := bdd_eq h
          refine gx_callVi X (11) (hC0 _ _ _ _ _ _ _ ca12) lc_X3_readPart li_X3_readPart lm_X3_54 (by decide) (cl_11 _ _) rfl rfl rfl hdn rfl (Nat.le_of_ble_eq_true rfl) dX3_readJoined_72 ?_
          refine gx_if_ne X 80 dX3_readJoined_75 (by decide) (fun q13 => ?_) (fun q13 => ?_)
          · replace h := (if_neg q13).symm.trans h
            refine gx_aload_n X 1 rfl dX3_readJoined_80 ?_
            refine gx_getf X (11) lf_X3_27 (by decide) (cl_11 _ _) (v := .ref (al (pgm (rdI ga11 11 4)))) rfl dX3_readJoined_81 ?_
            refine gx_iload X 0 rfl dX3_readJoined_84 ?_
            refine gx_iconst X (v := (0 : Int32)) dX3_readJoined_86 (by decide) ?_
            obtain ⟨ra14, ga15, ca16, h⟩ := bdd_eq h
            refine gx_callNv X (pgm (rdI ga11 11 4)) (c_X4_add ca16) lc_X4_add li_X4_add lm_X3_43 (pg_lt _) (cl_pg _ _ _) rfl rfl rfl (Nat.le_trans (by decide) hd) rfl (Nat.le_of_ble_eq_true rfl) dX3_readJoined_87 ?_
            refine gx_iload_n X 2 rfl dX3_readJoined_90 ?_
            refine gx_iconst X (v := (2 : Int32)) dX3_readJoined_91 (by decide) ?_
            refine gx_icmp_eq X 99 dX3_readJoined_92 (by decide) (fun q17 => ?_) (fun q17 => ?_)
            · replace h := (if_pos q17).symm.trans h
              refine gx_iconst X (v := (0 : Int32)) dX3_readJoined_99 (by decide) ?_
              refine gx_istore_n X [(3, .int ((0 : Int32))), (4, .int (v9)), (0, .ref (al (11))), (1, .int (x1)), (2, .int (x2))] dX3_readJoined_100 (by decide) rfl ?_
              refine gx_goto X 15 dX3_readJoined_101 (by decide) ?_
              exact gx_sub [2, 3, 4, 0] rfl (ih x1 x2 (0 : Int32) ga15 h)
            · replace h := (if_neg q17).symm.trans h
              refine gx_iconst X (v := (1 : Int32)) dX3_readJoined_95 (by decide) ?_
              refine gx_goto X 100 dX3_readJoined_96 (by decide) ?_
              refine gx_istore_n X [(3, .int ((1 : Int32))), (4, .int (v9)), (0, .ref (al (11))), (1, .int (x1)), (2, .int (x2))] dX3_readJoined_100 (by decide) rfl ?_
              refine gx_goto X 15 dX3_readJoined_101 (by decide) ?_
              exact gx_sub [2, 3, 4, 0] rfl (ih x1 x2 (1 : Int32) ga15 h)
          · replace h := (if_pos q13).symm.trans h
            refine gx_iconst X (v := (0 : Int32)) dX3_readJoined_78 (by decide) ?_
            obtain ⟨rfl, rfl⟩ := ret_eq h
            exact gx_iret X rfl dX3_readJoined_79
def m_X3_readJoined (C : Nat → Int32 → Int32 → Int32 → Int32 → Mm → Option (Int32 × Mm)) (a1 : Int32) (a2 : Int32) (g : Mm) : Option (Int32 × Mm) := bdd (C 0 (a1 + (1 : Int32)) a2 (0 : Int32) (0 : Int32) g) (fun ra1 ga2 => (if ra1 = (0 : Int32) then some ((0 : Int32), ga2) else m_X3_readJoined_15 C fuL a1 a2 (1 : Int32) ga2))
set_option maxHeartbeats 2000000 in
theorem b_X3_readJoined {d : Nat} {r2 : Int32} {g g2 : Mm} (hd : 3 ≤ d) {dn : Nat} {C : Nat → Int32 → Int32 → Int32 → Int32 → Mm → Option (Int32 × Mm)} (hdn : dn + 1 ≤ d) (hC0 : ∀ (b0 b1 b2 b3 : Int32) (g : Mm) (rr : Int32) (gg : Mm), C 0 b0 b1 b2 b3 g = some (rr, gg) → gx_M dn yX3_readPart cX3_readPart 3 (some .boolean) (fun al => [.ref (al (11)), .int (b0), .int (b1)]) g (some (.int rr)) gg) (hC1 : ∀ (b0 b1 b2 b3 : Int32) (g : Mm) (rr : Int32) (gg : Mm), C 1 b0 b1 b2 b3 g = some (rr, gg) → gx_M dn yX3_readJoined cX3_readJoined 5 (some .boolean) (fun al => [.ref (al (11)), .int (b0), .int (b1)]) g (some (.int rr)) gg) (hC2 : ∀ (b0 b1 b2 b3 : Int32) (g : Mm) (rr : Int32) (gg : Mm), C 2 b0 b1 b2 b3 g = some (rr, gg) → gx_M dn yX3_readOperand cX3_readOperand 3 (some .boolean) (fun al => [.ref (al (11)), .int (b0)]) g (some (.int rr)) gg) (hC3 : ∀ (b0 b1 b2 b3 : Int32) (g : Mm) (rr : Int32) (gg : Mm), C 3 b0 b1 b2 b3 g = some (rr, gg) → gx_M dn yX3_readSigned cX3_readSigned 3 (some .boolean) (fun al => [.ref (al (11)), .int (b0), .int (b1)]) g (some (.int rr)) gg) (hC4 : ∀ (b0 b1 b2 b3 : Int32) (g : Mm) (rr : Int32) (gg : Mm), C 4 b0 b1 b2 b3 g = some (rr, gg) → gx_M dn yX3_readBraced cX3_readBraced 2 (some .boolean) (fun al => [.ref (al (11)), .int (b0)]) g (some (.int rr)) gg) {a1 : Int32} {a2 : Int32} (h : m_X3_readJoined C a1 a2 g = some (r2, g2)) : gx_M d yX3_readJoined cX3_readJoined 5 (some .boolean) (fun al => [.ref (al (11)), .int (a1), .int (a2)]) g (some (.int r2)) g2 := by
  refine gx_M.of (by decide +kernel) (fun _ => Nat.le_of_ble_eq_true rfl) ?_
  intro p l e R s m args below meth c D al cI cJ A X
  refine gx_eq (pc' := 0) (ls' := [(0, .ref (al (11))), (1, .int (a1)), (2, .int (a2))]) (st' := []) (g' := g) ⟨rfl, rfl, rfl, rfl⟩ ?_
  unfold m_X3_readJoined at h
  refine gx_aload_n X 0 rfl dX3_readJoined_0 ?_
  refine gx_iload_n X 1 rfl dX3_readJoined_1 ?_
  refine gx_iconst X (v := (1 : Int32)) dX3_readJoined_2 (by decide) ?_
  refine gx_iadd X dX3_readJoined_3 ?_
  refine gx_iload_n X 2 rfl dX3_readJoined_4 ?_
  obtain ⟨ra1, ga2, ca3, h⟩ := bdd_eq h
  refine gx_callVi X (11) (hC0 _ _ _ _ _ _ _ ca3) lc_X3_readPart li_X3_readPart lm_X3_54 (by decide) (cl_11 _ _) rfl rfl rfl hdn rfl (Nat.le_of_ble_eq_true rfl) dX3_readJoined_5 ?_
  refine gx_if_ne X 13 dX3_readJoined_8 (by decide) (fun q4 => ?_) (fun q4 => ?_)
  · replace h := (if_neg q4).symm.trans h
    refine gx_iconst X (v := (1 : Int32)) dX3_readJoined_13 (by decide) ?_
    refine gx_istore_n X [(3, .int ((1 : Int32))), (0, .ref (al (11))), (1, .int (a1)), (2, .int (a2))] dX3_readJoined_14 (by decide) rfl ?_
    exact gx_sub [1, 2, 3, 0] rfl (t_X3_readJoined_15 X hd hdn hC0 hC1 hC2 hC3 hC4 fuL a1 a2 (1 : Int32) ga2 h)
  · replace h := (if_pos q4).symm.trans h
    refine gx_iconst X (v := (0 : Int32)) dX3_readJoined_11 (by decide) ?_
    obtain ⟨rfl, rfl⟩ := ret_eq h
    exact gx_iret X rfl dX3_readJoined_12
theorem dX3_readOperand_0 : decode cX3_readOperand 0 = .ok (.aload_n 0, 1) := by decide +kernel
theorem dX3_readOperand_1 : decode cX3_readOperand 1 = .ok (.getfield 17, 3) := by decide +kernel
theorem dX3_readOperand_4 : decode cX3_readOperand 4 = .ok (.aload_n 0, 1) := by decide +kernel
theorem dX3_readOperand_5 : decode cX3_readOperand 5 = .ok (.getfield 13, 3) := by decide +kernel
theorem dX3_readOperand_8 : decode cX3_readOperand 8 = .ok (.if_icmp .lt 5, 3) := by decide +kernel
theorem dX3_readOperand_11 : decode cX3_readOperand 11 = .ok (.iconst 0, 1) := by decide +kernel
theorem dX3_readOperand_12 : decode cX3_readOperand 12 = .ok (.ireturn, 1) := by decide +kernel
theorem dX3_readOperand_13 : decode cX3_readOperand 13 = .ok (.aload_n 0, 1) := by decide +kernel
theorem dX3_readOperand_14 : decode cX3_readOperand 14 = .ok (.getfield 9, 3) := by decide +kernel
theorem dX3_readOperand_17 : decode cX3_readOperand 17 = .ok (.aload_n 0, 1) := by decide +kernel
theorem dX3_readOperand_18 : decode cX3_readOperand 18 = .ok (.getfield 17, 3) := by decide +kernel
theorem dX3_readOperand_21 : decode cX3_readOperand 21 = .ok (.iaload, 1) := by decide +kernel
theorem dX3_readOperand_22 : decode cX3_readOperand 22 = .ok (.istore_n 2, 1) := by decide +kernel
theorem dX3_readOperand_23 : decode cX3_readOperand 23 = .ok (.iload_n 2, 1) := by decide +kernel
theorem dX3_readOperand_24 : decode cX3_readOperand 24 = .ok (.invokestatic 61, 3) := by decide +kernel
theorem dX3_readOperand_27 : decode cX3_readOperand 27 = .ok (.ifCond .eq 17, 3) := by decide +kernel
theorem dX3_readOperand_30 : decode cX3_readOperand 30 = .ok (.aload_n 0, 1) := by decide +kernel
theorem dX3_readOperand_31 : decode cX3_readOperand 31 = .ok (.getfield 27, 3) := by decide +kernel
theorem dX3_readOperand_34 : decode cX3_readOperand 34 = .ok (.iconst 1, 1) := by decide +kernel
theorem dX3_readOperand_35 : decode cX3_readOperand 35 = .ok (.aload_n 0, 1) := by decide +kernel
theorem dX3_readOperand_36 : decode cX3_readOperand 36 = .ok (.invokevirtual 64, 3) := by decide +kernel
theorem dX3_readOperand_39 : decode cX3_readOperand 39 = .ok (.invokevirtual 43, 3) := by decide +kernel
theorem dX3_readOperand_42 : decode cX3_readOperand 42 = .ok (.iconst 1, 1) := by decide +kernel
theorem dX3_readOperand_43 : decode cX3_readOperand 43 = .ok (.ireturn, 1) := by decide +kernel
theorem dX3_readOperand_44 : decode cX3_readOperand 44 = .ok (.iload_n 2, 1) := by decide +kernel
theorem dX3_readOperand_45 : decode cX3_readOperand 45 = .ok (.invokestatic 68, 3) := by decide +kernel
theorem dX3_readOperand_48 : decode cX3_readOperand 48 = .ok (.ifCond .lt 27, 3) := by decide +kernel
theorem dX3_readOperand_51 : decode cX3_readOperand 51 = .ok (.aload_n 0, 1) := by decide +kernel
theorem dX3_readOperand_52 : decode cX3_readOperand 52 = .ok (.getfield 27, 3) := by decide +kernel
theorem dX3_readOperand_55 : decode cX3_readOperand 55 = .ok (.iconst 2, 1) := by decide +kernel
theorem dX3_readOperand_56 : decode cX3_readOperand 56 = .ok (.iload_n 2, 1) := by decide +kernel
theorem dX3_readOperand_57 : decode cX3_readOperand 57 = .ok (.invokestatic 68, 3) := by decide +kernel
theorem dX3_readOperand_60 : decode cX3_readOperand 60 = .ok (.invokevirtual 43, 3) := by decide +kernel
theorem dX3_readOperand_63 : decode cX3_readOperand 63 = .ok (.aload_n 0, 1) := by decide +kernel
theorem dX3_readOperand_64 : decode cX3_readOperand 64 = .ok (.dup, 1) := by decide +kernel
theorem dX3_readOperand_65 : decode cX3_readOperand 65 = .ok (.getfield 17, 3) := by decide +kernel
theorem dX3_readOperand_68 : decode cX3_readOperand 68 = .ok (.iconst 1, 1) := by decide +kernel
theorem dX3_readOperand_69 : decode cX3_readOperand 69 = .ok (.iadd, 1) := by decide +kernel
theorem dX3_readOperand_70 : decode cX3_readOperand 70 = .ok (.putfield 17, 3) := by decide +kernel
theorem dX3_readOperand_73 : decode cX3_readOperand 73 = .ok (.iconst 1, 1) := by decide +kernel
theorem dX3_readOperand_74 : decode cX3_readOperand 74 = .ok (.ireturn, 1) := by decide +kernel
theorem dX3_readOperand_75 : decode cX3_readOperand 75 = .ok (.iload_n 1, 1) := by decide +kernel
theorem dX3_readOperand_76 : decode cX3_readOperand 76 = .ok (.bipush 6, 2) := by decide +kernel
theorem dX3_readOperand_78 : decode cX3_readOperand 78 = .ok (.if_icmp .lt 5, 3) := by decide +kernel
theorem dX3_readOperand_81 : decode cX3_readOperand 81 = .ok (.iconst 0, 1) := by decide +kernel
theorem dX3_readOperand_82 : decode cX3_readOperand 82 = .ok (.ireturn, 1) := by decide +kernel
theorem dX3_readOperand_83 : decode cX3_readOperand 83 = .ok (.iload_n 2, 1) := by decide +kernel
theorem dX3_readOperand_84 : decode cX3_readOperand 84 = .ok (.bipush 40, 2) := by decide +kernel
theorem dX3_readOperand_86 : decode cX3_readOperand 86 = .ok (.if_icmp .ne 21, 3) := by decide +kernel
theorem dX3_readOperand_89 : decode cX3_readOperand 89 = .ok (.aload_n 0, 1) := by decide +kernel
theorem dX3_readOperand_90 : decode cX3_readOperand 90 = .ok (.dup, 1) := by decide +kernel
theorem dX3_readOperand_91 : decode cX3_readOperand 91 = .ok (.getfield 17, 3) := by decide +kernel
theorem dX3_readOperand_94 : decode cX3_readOperand 94 = .ok (.iconst 1, 1) := by decide +kernel
theorem dX3_readOperand_95 : decode cX3_readOperand 95 = .ok (.iadd, 1) := by decide +kernel
theorem dX3_readOperand_96 : decode cX3_readOperand 96 = .ok (.putfield 17, 3) := by decide +kernel
theorem dX3_readOperand_99 : decode cX3_readOperand 99 = .ok (.aload_n 0, 1) := by decide +kernel
theorem dX3_readOperand_100 : decode cX3_readOperand 100 = .ok (.iload_n 1, 1) := by decide +kernel
theorem dX3_readOperand_101 : decode cX3_readOperand 101 = .ok (.iconst 1, 1) := by decide +kernel
theorem dX3_readOperand_102 : decode cX3_readOperand 102 = .ok (.iadd, 1) := by decide +kernel
theorem dX3_readOperand_103 : decode cX3_readOperand 103 = .ok (.invokevirtual 71, 3) := by decide +kernel
theorem dX3_readOperand_106 : decode cX3_readOperand 106 = .ok (.ireturn, 1) := by decide +kernel
theorem dX3_readOperand_107 : decode cX3_readOperand 107 = .ok (.iload_n 2, 1) := by decide +kernel
theorem dX3_readOperand_108 : decode cX3_readOperand 108 = .ok (.bipush 33, 2) := by decide +kernel
theorem dX3_readOperand_110 : decode cX3_readOperand 110 = .ok (.if_icmp .eq 9, 3) := by decide +kernel
theorem dX3_readOperand_113 : decode cX3_readOperand 113 = .ok (.iload_n 2, 1) := by decide +kernel
theorem dX3_readOperand_114 : decode cX3_readOperand 114 = .ok (.bipush 45, 2) := by decide +kernel
theorem dX3_readOperand_116 : decode cX3_readOperand 116 = .ok (.if_icmp .ne 32, 3) := by decide +kernel
theorem dX3_readOperand_119 : decode cX3_readOperand 119 = .ok (.aload_n 0, 1) := by decide +kernel
theorem dX3_readOperand_120 : decode cX3_readOperand 120 = .ok (.dup, 1) := by decide +kernel
theorem dX3_readOperand_121 : decode cX3_readOperand 121 = .ok (.getfield 17, 3) := by decide +kernel
theorem dX3_readOperand_124 : decode cX3_readOperand 124 = .ok (.iconst 1, 1) := by decide +kernel
theorem dX3_readOperand_125 : decode cX3_readOperand 125 = .ok (.iadd, 1) := by decide +kernel
theorem dX3_readOperand_126 : decode cX3_readOperand 126 = .ok (.putfield 17, 3) := by decide +kernel
theorem dX3_readOperand_129 : decode cX3_readOperand 129 = .ok (.aload_n 0, 1) := by decide +kernel
theorem dX3_readOperand_130 : decode cX3_readOperand 130 = .ok (.iload_n 2, 1) := by decide +kernel
theorem dX3_readOperand_131 : decode cX3_readOperand 131 = .ok (.bipush 33, 2) := by decide +kernel
theorem dX3_readOperand_133 : decode cX3_readOperand 133 = .ok (.if_icmp .ne 7, 3) := by decide +kernel
theorem dX3_readOperand_136 : decode cX3_readOperand 136 = .ok (.iconst 4, 1) := by decide +kernel
theorem dX3_readOperand_137 : decode cX3_readOperand 137 = .ok (.goto 4, 3) := by decide +kernel
theorem dX3_readOperand_140 : decode cX3_readOperand 140 = .ok (.iconst 3, 1) := by decide +kernel
theorem dX3_readOperand_141 : decode cX3_readOperand 141 = .ok (.iload_n 1, 1) := by decide +kernel
theorem dX3_readOperand_142 : decode cX3_readOperand 142 = .ok (.iconst 1, 1) := by decide +kernel
theorem dX3_readOperand_143 : decode cX3_readOperand 143 = .ok (.iadd, 1) := by decide +kernel
theorem dX3_readOperand_144 : decode cX3_readOperand 144 = .ok (.invokevirtual 74, 3) := by decide +kernel
theorem dX3_readOperand_147 : decode cX3_readOperand 147 = .ok (.ireturn, 1) := by decide +kernel
theorem dX3_readOperand_148 : decode cX3_readOperand 148 = .ok (.iconst 0, 1) := by decide +kernel
theorem dX3_readOperand_149 : decode cX3_readOperand 149 = .ok (.ireturn, 1) := by decide +kernel
def m_X3_readOperand_141 (C : Nat → Int32 → Int32 → Int32 → Int32 → Mm → Option (Int32 × Mm)) (x1 : Int32) (k0 : Int32) (g : Mm) : Option (Int32 × Mm) := bdd (C 3 k0 (x1 + (1 : Int32)) (0 : Int32) (0 : Int32) g) (fun ra1 ga2 => gdd (zbI ra1) (some (ra1, ga2)))
set_option maxHeartbeats 2000000 in
theorem t_X3_readOperand_141 {r2 : Int32} {g2 : Mm} (X : gx_X p R s m args meth c D al cI cJ A RX3 cX3_readOperand 3 (some .boolean) d 0 0) (hd : 3 ≤ d) {dn : Nat} {C : Nat → Int32 → Int32 → Int32 → Int32 → Mm → Option (Int32 × Mm)} (hdn : dn + 1 ≤ d) (hC0 : ∀ (b0 b1 b2 b3 : Int32) (g : Mm) (rr : Int32) (gg : Mm), C 0 b0 b1 b2 b3 g = some (rr, gg) → gx_M dn yX3_readPart cX3_readPart 3 (some .boolean) (fun al => [.ref (al (11)), .int (b0), .int (b1)]) g (some (.int rr)) gg) (hC1 : ∀ (b0 b1 b2 b3 : Int32) (g : Mm) (rr : Int32) (gg : Mm), C 1 b0 b1 b2 b3 g = some (rr, gg) → gx_M dn yX3_readJoined cX3_readJoined 5 (some .boolean) (fun al => [.ref (al (11)), .int (b0), .int (b1)]) g (some (.int rr)) gg) (hC2 : ∀ (b0 b1 b2 b3 : Int32) (g : Mm) (rr : Int32) (gg : Mm), C 2 b0 b1 b2 b3 g = some (rr, gg) → gx_M dn yX3_readOperand cX3_readOperand 3 (some .boolean) (fun al => [.ref (al (11)), .int (b0)]) g (some (.int rr)) gg) (hC3 : ∀ (b0 b1 b2 b3 : Int32) (g : Mm) (rr : Int32) (gg : Mm), C 3 b0 b1 b2 b3 g = some (rr, gg) → gx_M dn yX3_readSigned cX3_readSigned 3 (some .boolean) (fun al => [.ref (al (11)), .int (b0), .int (b1)]) g (some (.int rr)) gg) (hC4 : ∀ (b0 b1 b2 b3 : Int32) (g : Mm) (rr : Int32) (gg : Mm), C 4 b0 b1 b2 b3 g = some (rr, gg) → gx_M dn yX3_readBraced cX3_readBraced 2 (some .boolean) (fun al => [.ref (al (11)), .int (b0)]) g (some (.int rr)) gg) : ∀ (x1 : Int32) (k0 : Int32) (g : Mm), m_X3_readOperand_141 C x1 k0 g = some (r2, g2) → gx_G p l e R s m args below meth c (gx_Q below args s D al cI cJ A (some (.int r2)) g2) D al cI cJ A 3 0 0 141 [(1, .int (x1))] [.int (k0), .ref (al (11))] g := by
  intro x1 k0 g h
  unfold m_X3_readOperand_141 at h
  refine gx_iload_n X 0 rfl dX3_readOperand_141 ?_
  refine gx_iconst X (v := (1 : Int32)) dX3_readOperand_142 (by decide) ?_
  refine gx_iadd X dX3_readOperand_143 ?_
  obtain ⟨ra1, ga2, ca3, h⟩ := bdd_eq h
  refine gx_callVi X (11) (hC3 _ _ _ _ _ _ _ ca3) lc_X3_readSigned li_X3_readSigned lm_X3_74 (by decide) (cl_11 _ _) rfl rfl rfl hdn rfl (Nat.le_of_ble_eq_true rfl) dX3_readOperand_144 ?_
  obtain ⟨q4, h⟩ := gdd_eq h
  obtain ⟨rfl, rfl⟩ := ret_eq h
  exact gx_iret X (zbI_n q4) dX3_readOperand_147
def m_X3_readOperand_119 (C : Nat → Int32 → Int32 → Int32 → Int32 → Mm → Option (Int32 × Mm)) (x1 : Int32) (x2 : Int32) (g : Mm) : Option (Int32 × Mm) := (if x2 = (33 : Int32) then m_X3_readOperand_141 C x1 (4 : Int32) (wrI g 11 2 ((rdI g 11 2) + (1 : Int32))) else m_X3_readOperand_141 C x1 (3 : Int32) (wrI g 11 2 ((rdI g 11 2) + (1 : Int32))))
set_option maxHeartbeats 2000000 in
theorem t_X3_readOperand_119 {r2 : Int32} {g2 : Mm} (X : gx_X p R s m args meth c D al cI cJ A RX3 cX3_readOperand 3 (some .boolean) d 0 0) (hd : 3 ≤ d) {dn : Nat} {C : Nat → Int32 → Int32 → Int32 → Int32 → Mm → Option (Int32 × Mm)} (hdn : dn + 1 ≤ d) (hC0 : ∀ (b0 b1 b2 b3 : Int32) (g : Mm) (rr : Int32) (gg : Mm), C 0 b0 b1 b2 b3 g = some (rr, gg) → gx_M dn yX3_readPart cX3_readPart 3 (some .boolean) (fun al => [.ref (al (11)), .int (b0), .int (b1)]) g (some (.int rr)) gg) (hC1 : ∀ (b0 b1 b2 b3 : Int32) (g : Mm) (rr : Int32) (gg : Mm), C 1 b0 b1 b2 b3 g = some (rr, gg) → gx_M dn yX3_readJoined cX3_readJoined 5 (some .boolean) (fun al => [.ref (al (11)), .int (b0), .int (b1)]) g (some (.int rr)) gg) (hC2 : ∀ (b0 b1 b2 b3 : Int32) (g : Mm) (rr : Int32) (gg : Mm), C 2 b0 b1 b2 b3 g = some (rr, gg) → gx_M dn yX3_readOperand cX3_readOperand 3 (some .boolean) (fun al => [.ref (al (11)), .int (b0)]) g (some (.int rr)) gg) (hC3 : ∀ (b0 b1 b2 b3 : Int32) (g : Mm) (rr : Int32) (gg : Mm), C 3 b0 b1 b2 b3 g = some (rr, gg) → gx_M dn yX3_readSigned cX3_readSigned 3 (some .boolean) (fun al => [.ref (al (11)), .int (b0), .int (b1)]) g (some (.int rr)) gg) (hC4 : ∀ (b0 b1 b2 b3 : Int32) (g : Mm) (rr : Int32) (gg : Mm), C 4 b0 b1 b2 b3 g = some (rr, gg) → gx_M dn yX3_readBraced cX3_readBraced 2 (some .boolean) (fun al => [.ref (al (11)), .int (b0)]) g (some (.int rr)) gg) : ∀ (x1 : Int32) (x2 : Int32) (g : Mm), m_X3_readOperand_119 C x1 x2 g = some (r2, g2) → gx_G p l e R s m args below meth c (gx_Q below args s D al cI cJ A (some (.int r2)) g2) D al cI cJ A 3 0 0 119 [(0, .ref (al (11))), (1, .int (x1)), (2, .int (x2))] [] g := by
  intro x1 x2 g h
  unfold m_X3_readOperand_119 at h
  refine gx_aload_n X 0 rfl dX3_readOperand_119 ?_
  refine gx_dup X dX3_readOperand_120 rfl ?_
  refine gx_getf X (11) lf_X3_17 (by decide) (cl_11 _ _) (v := .int ((rdI g 11 2))) rfl dX3_readOperand_121 ?_
  refine gx_iconst X (v := (1 : Int32)) dX3_readOperand_124 (by decide) ?_
  refine gx_iadd X dX3_readOperand_125 ?_
  refine gx_putf X (11) ((rdI g 11 2) + (1 : Int32)) lf_X3_17 lp_X3_2 (by decide) (cl_11 _ _) (Nat.le_of_ble_eq_true rfl) rfl rfl rfl dX3_readOperand_126 ?_
  refine gx_aload_n X 0 rfl dX3_readOperand_129 ?_
  refine gx_iload_n X 2 rfl dX3_readOperand_130 ?_
  refine gx_bipush X (v := (33 : Int32)) dX3_readOperand_131 (by decide) ?_
  refine gx_icmp_ne X 140 dX3_readOperand_133 (by decide) (fun q1 => ?_) (fun q1 => ?_)
  · replace h := (if_neg q1).symm.trans h
    refine gx_iconst X (v := (3 : Int32)) dX3_readOperand_140 (by decide) ?_
    exact gx_sub [1] rfl (t_X3_readOperand_141 X hd hdn hC0 hC1 hC2 hC3 hC4 x1 (3 : Int32) (wrI g 11 2 ((rdI g 11 2) + (1 : Int32))) h)
  · replace h := (if_pos q1).symm.trans h
    refine gx_iconst X (v := (4 : Int32)) dX3_readOperand_136 (by decide) ?_
    refine gx_goto X 141 dX3_readOperand_137 (by decide) ?_
    exact gx_sub [1] rfl (t_X3_readOperand_141 X hd hdn hC0 hC1 hC2 hC3 hC4 x1 (4 : Int32) (wrI g 11 2 ((rdI g 11 2) + (1 : Int32))) h)
def m_X3_readOperand (C : Nat → Int32 → Int32 → Int32 → Int32 → Mm → Option (Int32 × Mm)) (a1 : Int32) (g : Mm) : Option (Int32 × Mm) := (if (rdI g 11 2) < (rdI g 11 1) then gdd (ixo (rdI g 11 2) 120) (bdd (m_X3_isDigit (rdI g 12 (rdI g 11 2).toNatClampNeg) g) (fun ra3 ga4 => (if ra3 = (0 : Int32) then bdd (m_X3_nameOf (rdI g 12 (rdI g 11 2).toNatClampNeg) ga4) (fun ra7 ga8 => (if ra7 < (0 : Int32) then (if a1 < (6 : Int32) then (if (rdI g 12 (rdI g 11 2).toNatClampNeg) = (40 : Int32) then bdd (C 4 (a1 + (1 : Int32)) (0 : Int32) (0 : Int32) (0 : Int32) (wrI ga8 11 2 ((rdI ga8 11 2) + (1 : Int32)))) (fun ra15 ga16 => gdd (zbI ra15) (some (ra15, ga16))) else (if (rdI g 12 (rdI g 11 2).toNatClampNeg) = (33 : Int32) then m_X3_readOperand_119 C a1 (rdI g 12 (rdI g 11 2).toNatClampNeg) ga8 else (if (rdI g 12 (rdI g 11 2).toNatClampNeg) = (45 : Int32) then m_X3_readOperand_119 C a1 (rdI g 12 (rdI g 11 2).toNatClampNeg) ga8 else some ((0 : Int32), ga8)))) else some ((0 : Int32), ga8)) else bdd (m_X3_nameOf (rdI g 12 (rdI g 11 2).toNatClampNeg) ga8) (fun ra19 ga20 => bdd (m_X4_add (rdI ga8 11 4) (2 : Int32) ra19 ga20) (fun ra22 ga23 => some ((1 : Int32), (wrI ga23 11 2 ((rdI ga23 11 2) + (1 : Int32)))))))) else bdd (m_X3_readNumber  ga4) (fun ra25 ga26 => bdd (m_X4_add (rdI ga4 11 4) (1 : Int32) ra25 ga26) (fun ra28 ga29 => some ((1 : Int32), ga29)))))) else some ((0 : Int32), g))
set_option maxHeartbeats 2000000 in
theorem b_X3_readOperand {d : Nat} {r2 : Int32} {g g2 : Mm} (hd : 3 ≤ d) {dn : Nat} {C : Nat → Int32 → Int32 → Int32 → Int32 → Mm → Option (Int32 × Mm)} (hdn : dn + 1 ≤ d) (hC0 : ∀ (b0 b1 b2 b3 : Int32) (g : Mm) (rr : Int32) (gg : Mm), C 0 b0 b1 b2 b3 g = some (rr, gg) → gx_M dn yX3_readPart cX3_readPart 3 (some .boolean) (fun al => [.ref (al (11)), .int (b0), .int (b1)]) g (some (.int rr)) gg) (hC1 : ∀ (b0 b1 b2 b3 : Int32) (g : Mm) (rr : Int32) (gg : Mm), C 1 b0 b1 b2 b3 g = some (rr, gg) → gx_M dn yX3_readJoined cX3_readJoined 5 (some .boolean) (fun al => [.ref (al (11)), .int (b0), .int (b1)]) g (some (.int rr)) gg) (hC2 : ∀ (b0 b1 b2 b3 : Int32) (g : Mm) (rr : Int32) (gg : Mm), C 2 b0 b1 b2 b3 g = some (rr, gg) → gx_M dn yX3_readOperand cX3_readOperand 3 (some .boolean) (fun al => [.ref (al (11)), .int (b0)]) g (some (.int rr)) gg) (hC3 : ∀ (b0 b1 b2 b3 : Int32) (g : Mm) (rr : Int32) (gg : Mm), C 3 b0 b1 b2 b3 g = some (rr, gg) → gx_M dn yX3_readSigned cX3_readSigned 3 (some .boolean) (fun al => [.ref (al (11)), .int (b0), .int (b1)]) g (some (.int rr)) gg) (hC4 : ∀ (b0 b1 b2 b3 : Int32) (g : Mm) (rr : Int32) (gg : Mm), C 4 b0 b1 b2 b3 g = some (rr, gg) → gx_M dn yX3_readBraced cX3_readBraced 2 (some .boolean) (fun al => [.ref (al (11)), .int (b0)]) g (some (.int rr)) gg) {a1 : Int32} (h : m_X3_readOperand C a1 g = some (r2, g2)) : gx_M d yX3_readOperand cX3_readOperand 3 (some .boolean) (fun al => [.ref (al (11)), .int (a1)]) g (some (.int r2)) g2 := by
  refine gx_M.of (by decide +kernel) (fun _ => Nat.le_of_ble_eq_true rfl) ?_
  intro p l e R s m args below meth c D al cI cJ A X
  refine gx_eq (pc' := 0) (ls' := [(0, .ref (al (11))), (1, .int (a1))]) (st' := []) (g' := g) ⟨rfl, rfl, rfl, rfl⟩ ?_
  unfold m_X3_readOperand at h
  refine gx_aload_n X 0 rfl dX3_readOperand_0 ?_
  refine gx_getf X (11) lf_X3_17 (by decide) (cl_11 _ _) (v := .int ((rdI g 11 2))) rfl dX3_readOperand_1 ?_
  refine gx_aload_n X 0 rfl dX3_readOperand_4 ?_
  refine gx_getf X (11) lf_X3_13 (by decide) (cl_11 _ _) (v := .int ((rdI g 11 1))) rfl dX3_readOperand_5 ?_
  refine gx_icmp_lt X 13 dX3_readOperand_8 (by decide) (fun q1 => ?_) (fun q1 => ?_)
  · replace h := (if_pos q1).symm.trans h
    refine gx_aload_n X 0 rfl dX3_readOperand_13 ?_
    refine gx_getf X (11) lf_X3_9 (by decide) (cl_11 _ _) (v := .ref (al (12))) rfl dX3_readOperand_14 ?_
    refine gx_aload_n X 0 rfl dX3_readOperand_17 ?_
    refine gx_getf X (11) lf_X3_17 (by decide) (cl_11 _ _) (v := .int ((rdI g 11 2))) rfl dX3_readOperand_18 ?_
    obtain ⟨q2, h⟩ := gdd_eq h
    refine gx_iald X (12) 120 (by decide) (cl_12 _ _) q2 dX3_readOperand_21 ?_
    refine gx_istore_n X [(2, .int ((rdI g 12 (rdI g 11 2).toNatClampNeg))), (0, .ref (al (11))), (1, .int (a1))] dX3_readOperand_22 (by decide) rfl ?_
    refine gx_iload_n X 0 rfl dX3_readOperand_23 ?_
    obtain ⟨ra3, ga4, ca5, h⟩ := bdd_eq h
    refine gx_callSi X (c_X3_isDigit ca5) lc_X3_isDigit li_X3_isDigit lm_X3_61 rfl rfl (Nat.le_trans (by decide) hd) rfl (Nat.le_of_ble_eq_true rfl) dX3_readOperand_24 ?_
    refine gx_if_eq X 44 dX3_readOperand_27 (by decide) (fun q6 => ?_) (fun q6 => ?_)
    · replace h := (if_pos q6).symm.trans h
      refine gx_iload_n X 0 rfl dX3_readOperand_44 ?_
      obtain ⟨ra7, ga8, ca9, h⟩ := bdd_eq h
      refine gx_callSi X (c_X3_nameOf ca9) lc_X3_nameOf li_X3_nameOf lm_X3_68 rfl rfl (Nat.le_trans (by decide) hd) rfl (Nat.le_of_ble_eq_true rfl) dX3_readOperand_45 ?_
      refine gx_if_lt X 75 dX3_readOperand_48 (by decide) (fun q10 => ?_) (fun q10 => ?_)
      · replace h := (if_pos q10).symm.trans h
        refine gx_iload_n X 2 rfl dX3_readOperand_75 ?_
        refine gx_bipush X (v := (6 : Int32)) dX3_readOperand_76 (by decide) ?_
        refine gx_icmp_lt X 83 dX3_readOperand_78 (by decide) (fun q11 => ?_) (fun q11 => ?_)
        · replace h := (if_pos q11).symm.trans h
          refine gx_iload_n X 0 rfl dX3_readOperand_83 ?_
          refine gx_bipush X (v := (40 : Int32)) dX3_readOperand_84 (by decide) ?_
          refine gx_icmp_ne X 107 dX3_readOperand_86 (by decide) (fun q12 => ?_) (fun q12 => ?_)
          · replace h := (if_neg q12).symm.trans h
            refine gx_iload_n X 0 rfl dX3_readOperand_107 ?_
            refine gx_bipush X (v := (33 : Int32)) dX3_readOperand_108 (by decide) ?_
            refine gx_icmp_eq X 119 dX3_readOperand_110 (by decide) (fun q13 => ?_) (fun q13 => ?_)
            · replace h := (if_pos q13).symm.trans h
              exact gx_sub [1, 2, 0] rfl (t_X3_readOperand_119 X hd hdn hC0 hC1 hC2 hC3 hC4 a1 (rdI g 12 (rdI g 11 2).toNatClampNeg) ga8 h)
            · replace h := (if_neg q13).symm.trans h
              refine gx_iload_n X 0 rfl dX3_readOperand_113 ?_
              refine gx_bipush X (v := (45 : Int32)) dX3_readOperand_114 (by decide) ?_
              refine gx_icmp_ne X 148 dX3_readOperand_116 (by decide) (fun q14 => ?_) (fun q14 => ?_)
              · replace h := (if_neg q14).symm.trans h
                refine gx_iconst X (v := (0 : Int32)) dX3_readOperand_148 (by decide) ?_
                obtain ⟨rfl, rfl⟩ := ret_eq h
                exact gx_iret X rfl dX3_readOperand_149
              · replace h := (if_pos q14).symm.trans h
                exact gx_sub [1, 2, 0] rfl (t_X3_readOperand_119 X hd hdn hC0 hC1 hC2 hC3 hC4 a1 (rdI g 12 (rdI g 11 2).toNatClampNeg) ga8 h)
          · replace h := (if_pos q12).symm.trans h
            refine gx_aload_n X 1 rfl dX3_readOperand_89 ?_
            refine gx_dup X dX3_readOperand_90 rfl ?_
            refine gx_getf X (11) lf_X3_17 (by decide) (cl_11 _ _) (v := .int ((rdI ga8 11 2))) rfl dX3_readOperand_91 ?_
            refine gx_iconst X (v := (1 : Int32)) dX3_readOperand_94 (by decide) ?_
            refine gx_iadd X dX3_readOperand_95 ?_
            refine gx_putf X (11) ((rdI ga8 11 2) + (1 : Int32)) lf_X3_17 lp_X3_2 (by decide) (cl_11 _ _) (Nat.le_of_ble_eq_true rfl) rfl rfl rfl dX3_readOperand_96 ?_
            refine gx_aload_n X 1 rfl dX3_readOperand_99 ?_
            refine gx_iload_n X 2 rfl dX3_readOperand_100 ?_
            refine gx_iconst X (v := (1 : Int32)) dX3_readOperand_101 (by decide) ?_
            refine gx_iadd X dX3_readOperand_102 ?_
            obtain ⟨ra15, ga16, ca17, h⟩ := bdd_eq h
            refine gx_callVi X (11) (hC4 _ _ _ _ _ _ _ ca17) lc_X3_readBraced li_X3_readBraced lm_X3_71 (by decide) (cl_11 _ _) rfl rfl rfl hdn rfl (Nat.le_of_ble_eq_true rfl) dX3_readOperand_103 ?_
            obtain ⟨q18, h⟩ := gdd_eq h
            obtain ⟨rfl, rfl⟩ := ret_eq h
            exact gx_iret X (zbI_n q18) dX3_readOperand_106
        · replace h := (if_neg q11).symm.trans h
          refine gx_iconst X (v := (0 : Int32)) dX3_readOperand_81 (by decide) ?_
          obtain ⟨rfl, rfl⟩ := ret_eq h
          exact gx_iret X rfl dX3_readOperand_82
      · replace h := (if_neg q10).symm.trans h
        refine gx_aload_n X 1 rfl dX3_readOperand_51 ?_
        refine gx_getf X (11) lf_X3_27 (by decide) (cl_11 _ _) (v := .ref (al (pgm (rdI ga8 11 4)))) rfl dX3_readOperand_52 ?_
        refine gx_iconst X (v := (2 : Int32)) dX3_readOperand_55 (by decide) ?_
        refine gx_iload_n X 0 rfl dX3_readOperand_56 ?_
        obtain ⟨ra19, ga20, ca21, h⟩ := bdd_eq h
        refine gx_callSi X (c_X3_nameOf ca21) lc_X3_nameOf li_X3_nameOf lm_X3_68 rfl rfl (Nat.le_trans (by decide) hd) rfl (Nat.le_of_ble_eq_true rfl) dX3_readOperand_57 ?_
        obtain ⟨ra22, ga23, ca24, h⟩ := bdd_eq h
        refine gx_callNv X (pgm (rdI ga8 11 4)) (c_X4_add ca24) lc_X4_add li_X4_add lm_X3_43 (pg_lt _) (cl_pg _ _ _) rfl rfl rfl (Nat.le_trans (by decide) hd) rfl (Nat.le_of_ble_eq_true rfl) dX3_readOperand_60 ?_
        refine gx_aload_n X 1 rfl dX3_readOperand_63 ?_
        refine gx_dup X dX3_readOperand_64 rfl ?_
        refine gx_getf X (11) lf_X3_17 (by decide) (cl_11 _ _) (v := .int ((rdI ga23 11 2))) rfl dX3_readOperand_65 ?_
        refine gx_iconst X (v := (1 : Int32)) dX3_readOperand_68 (by decide) ?_
        refine gx_iadd X dX3_readOperand_69 ?_
        refine gx_putf X (11) ((rdI ga23 11 2) + (1 : Int32)) lf_X3_17 lp_X3_2 (by decide) (cl_11 _ _) (Nat.le_of_ble_eq_true rfl) rfl rfl rfl dX3_readOperand_70 ?_
        refine gx_iconst X (v := (1 : Int32)) dX3_readOperand_73 (by decide) ?_
        obtain ⟨rfl, rfl⟩ := ret_eq h
        exact gx_iret X rfl dX3_readOperand_74
    · replace h := (if_neg q6).symm.trans h
      refine gx_aload_n X 1 rfl dX3_readOperand_30 ?_
      refine gx_getf X (11) lf_X3_27 (by decide) (cl_11 _ _) (v := .ref (al (pgm (rdI ga4 11 4)))) rfl dX3_readOperand_31 ?_
      refine gx_iconst X (v := (1 : Int32)) dX3_readOperand_34 (by decide) ?_
      refine gx_aload_n X 1 rfl dX3_readOperand_35 ?_
      obtain ⟨ra25, ga26, ca27, h⟩ := bdd_eq h
      refine gx_callVi X (11) (c_X3_readNumber ca27) lc_X3_readNumber li_X3_readNumber lm_X3_64 (by decide) (cl_11 _ _) rfl rfl rfl (Nat.le_trans (by decide) hd) rfl (Nat.le_of_ble_eq_true rfl) dX3_readOperand_36 ?_
      obtain ⟨ra28, ga29, ca30, h⟩ := bdd_eq h
      refine gx_callNv X (pgm (rdI ga4 11 4)) (c_X4_add ca30) lc_X4_add li_X4_add lm_X3_43 (pg_lt _) (cl_pg _ _ _) rfl rfl rfl (Nat.le_trans (by decide) hd) rfl (Nat.le_of_ble_eq_true rfl) dX3_readOperand_39 ?_
      refine gx_iconst X (v := (1 : Int32)) dX3_readOperand_42 (by decide) ?_
      obtain ⟨rfl, rfl⟩ := ret_eq h
      exact gx_iret X rfl dX3_readOperand_43
  · replace h := (if_neg q1).symm.trans h
    refine gx_iconst X (v := (0 : Int32)) dX3_readOperand_11 (by decide) ?_
    obtain ⟨rfl, rfl⟩ := ret_eq h
    exact gx_iret X rfl dX3_readOperand_12
theorem dX3_readSigned_0 : decode cX3_readSigned 0 = .ok (.aload_n 0, 1) := by decide +kernel
theorem dX3_readSigned_1 : decode cX3_readSigned 1 = .ok (.iload_n 2, 1) := by decide +kernel
theorem dX3_readSigned_2 : decode cX3_readSigned 2 = .ok (.invokevirtual 51, 3) := by decide +kernel
theorem dX3_readSigned_5 : decode cX3_readSigned 5 = .ok (.ifCond .ne 5, 3) := by decide +kernel
theorem dX3_readSigned_8 : decode cX3_readSigned 8 = .ok (.iconst 0, 1) := by decide +kernel
theorem dX3_readSigned_9 : decode cX3_readSigned 9 = .ok (.ireturn, 1) := by decide +kernel
theorem dX3_readSigned_10 : decode cX3_readSigned 10 = .ok (.aload_n 0, 1) := by decide +kernel
theorem dX3_readSigned_11 : decode cX3_readSigned 11 = .ok (.getfield 27, 3) := by decide +kernel
theorem dX3_readSigned_14 : decode cX3_readSigned 14 = .ok (.iload_n 1, 1) := by decide +kernel
theorem dX3_readSigned_15 : decode cX3_readSigned 15 = .ok (.iconst 0, 1) := by decide +kernel
theorem dX3_readSigned_16 : decode cX3_readSigned 16 = .ok (.invokevirtual 43, 3) := by decide +kernel
theorem dX3_readSigned_19 : decode cX3_readSigned 19 = .ok (.iconst 1, 1) := by decide +kernel
theorem dX3_readSigned_20 : decode cX3_readSigned 20 = .ok (.ireturn, 1) := by decide +kernel
def m_X3_readSigned (C : Nat → Int32 → Int32 → Int32 → Int32 → Mm → Option (Int32 × Mm)) (a1 : Int32) (a2 : Int32) (g : Mm) : Option (Int32 × Mm) := bdd (C 2 a2 (0 : Int32) (0 : Int32) (0 : Int32) g) (fun ra1 ga2 => (if ra1 = (0 : Int32) then some ((0 : Int32), ga2) else bdd (m_X4_add (rdI ga2 11 4) a1 (0 : Int32) ga2) (fun ra5 ga6 => some ((1 : Int32), ga6))))
set_option maxHeartbeats 2000000 in
theorem b_X3_readSigned {d : Nat} {r2 : Int32} {g g2 : Mm} (hd : 3 ≤ d) {dn : Nat} {C : Nat → Int32 → Int32 → Int32 → Int32 → Mm → Option (Int32 × Mm)} (hdn : dn + 1 ≤ d) (hC0 : ∀ (b0 b1 b2 b3 : Int32) (g : Mm) (rr : Int32) (gg : Mm), C 0 b0 b1 b2 b3 g = some (rr, gg) → gx_M dn yX3_readPart cX3_readPart 3 (some .boolean) (fun al => [.ref (al (11)), .int (b0), .int (b1)]) g (some (.int rr)) gg) (hC1 : ∀ (b0 b1 b2 b3 : Int32) (g : Mm) (rr : Int32) (gg : Mm), C 1 b0 b1 b2 b3 g = some (rr, gg) → gx_M dn yX3_readJoined cX3_readJoined 5 (some .boolean) (fun al => [.ref (al (11)), .int (b0), .int (b1)]) g (some (.int rr)) gg) (hC2 : ∀ (b0 b1 b2 b3 : Int32) (g : Mm) (rr : Int32) (gg : Mm), C 2 b0 b1 b2 b3 g = some (rr, gg) → gx_M dn yX3_readOperand cX3_readOperand 3 (some .boolean) (fun al => [.ref (al (11)), .int (b0)]) g (some (.int rr)) gg) (hC3 : ∀ (b0 b1 b2 b3 : Int32) (g : Mm) (rr : Int32) (gg : Mm), C 3 b0 b1 b2 b3 g = some (rr, gg) → gx_M dn yX3_readSigned cX3_readSigned 3 (some .boolean) (fun al => [.ref (al (11)), .int (b0), .int (b1)]) g (some (.int rr)) gg) (hC4 : ∀ (b0 b1 b2 b3 : Int32) (g : Mm) (rr : Int32) (gg : Mm), C 4 b0 b1 b2 b3 g = some (rr, gg) → gx_M dn yX3_readBraced cX3_readBraced 2 (some .boolean) (fun al => [.ref (al (11)), .int (b0)]) g (some (.int rr)) gg) {a1 : Int32} {a2 : Int32} (h : m_X3_readSigned C a1 a2 g = some (r2, g2)) : gx_M d yX3_readSigned cX3_readSigned 3 (some .boolean) (fun al => [.ref (al (11)), .int (a1), .int (a2)]) g (some (.int r2)) g2 := by
  refine gx_M.of (by decide +kernel) (fun _ => Nat.le_of_ble_eq_true rfl) ?_
  intro p l e R s m args below meth c D al cI cJ A X
  refine gx_eq (pc' := 0) (ls' := [(0, .ref (al (11))), (1, .int (a1)), (2, .int (a2))]) (st' := []) (g' := g) ⟨rfl, rfl, rfl, rfl⟩ ?_
  unfold m_X3_readSigned at h
  refine gx_aload_n X 0 rfl dX3_readSigned_0 ?_
  refine gx_iload_n X 2 rfl dX3_readSigned_1 ?_
  obtain ⟨ra1, ga2, ca3, h⟩ := bdd_eq h
  refine gx_callVi X (11) (hC2 _ _ _ _ _ _ _ ca3) lc_X3_readOperand li_X3_readOperand lm_X3_51 (by decide) (cl_11 _ _) rfl rfl rfl hdn rfl (Nat.le_of_ble_eq_true rfl) dX3_readSigned_2 ?_
  refine gx_if_ne X 10 dX3_readSigned_5 (by decide) (fun q4 => ?_) (fun q4 => ?_)
  · replace h := (if_neg q4).symm.trans h
    refine gx_aload_n X 0 rfl dX3_readSigned_10 ?_
    refine gx_getf X (11) lf_X3_27 (by decide) (cl_11 _ _) (v := .ref (al (pgm (rdI ga2 11 4)))) rfl dX3_readSigned_11 ?_
    refine gx_iload_n X 1 rfl dX3_readSigned_14 ?_
    refine gx_iconst X (v := (0 : Int32)) dX3_readSigned_15 (by decide) ?_
    obtain ⟨ra5, ga6, ca7, h⟩ := bdd_eq h
    refine gx_callNv X (pgm (rdI ga2 11 4)) (c_X4_add ca7) lc_X4_add li_X4_add lm_X3_43 (pg_lt _) (cl_pg _ _ _) rfl rfl rfl (Nat.le_trans (by decide) hd) rfl (Nat.le_of_ble_eq_true rfl) dX3_readSigned_16 ?_
    refine gx_iconst X (v := (1 : Int32)) dX3_readSigned_19 (by decide) ?_
    obtain ⟨rfl, rfl⟩ := ret_eq h
    exact gx_iret X rfl dX3_readSigned_20
  · replace h := (if_pos q4).symm.trans h
    refine gx_iconst X (v := (0 : Int32)) dX3_readSigned_8 (by decide) ?_
    obtain ⟨rfl, rfl⟩ := ret_eq h
    exact gx_iret X rfl dX3_readSigned_9
theorem dX3_readBraced_0 : decode cX3_readBraced 0 = .ok (.aload_n 0, 1) := by decide +kernel
theorem dX3_readBraced_1 : decode cX3_readBraced 1 = .ok (.iconst 0, 1) := by decide +kernel
theorem dX3_readBraced_2 : decode cX3_readBraced 2 = .ok (.iload_n 1, 1) := by decide +kernel
theorem dX3_readBraced_3 : decode cX3_readBraced 3 = .ok (.invokevirtual 35, 3) := by decide +kernel
theorem dX3_readBraced_6 : decode cX3_readBraced 6 = .ok (.ifCond .eq 12, 3) := by decide +kernel
theorem dX3_readBraced_9 : decode cX3_readBraced 9 = .ok (.aload_n 0, 1) := by decide +kernel
theorem dX3_readBraced_10 : decode cX3_readBraced 10 = .ok (.bipush 41, 2) := by decide +kernel
theorem dX3_readBraced_12 : decode cX3_readBraced 12 = .ok (.invokevirtual 39, 3) := by decide +kernel
theorem dX3_readBraced_15 : decode cX3_readBraced 15 = .ok (.ifCond .ne 5, 3) := by decide +kernel
theorem dX3_readBraced_18 : decode cX3_readBraced 18 = .ok (.iconst 0, 1) := by decide +kernel
theorem dX3_readBraced_19 : decode cX3_readBraced 19 = .ok (.ireturn, 1) := by decide +kernel
theorem dX3_readBraced_20 : decode cX3_readBraced 20 = .ok (.aload_n 0, 1) := by decide +kernel
theorem dX3_readBraced_21 : decode cX3_readBraced 21 = .ok (.dup, 1) := by decide +kernel
theorem dX3_readBraced_22 : decode cX3_readBraced 22 = .ok (.getfield 17, 3) := by decide +kernel
theorem dX3_readBraced_25 : decode cX3_readBraced 25 = .ok (.iconst 1, 1) := by decide +kernel
theorem dX3_readBraced_26 : decode cX3_readBraced 26 = .ok (.iadd, 1) := by decide +kernel
theorem dX3_readBraced_27 : decode cX3_readBraced 27 = .ok (.putfield 17, 3) := by decide +kernel
theorem dX3_readBraced_30 : decode cX3_readBraced 30 = .ok (.iconst 1, 1) := by decide +kernel
theorem dX3_readBraced_31 : decode cX3_readBraced 31 = .ok (.ireturn, 1) := by decide +kernel
def m_X3_readBraced (C : Nat → Int32 → Int32 → Int32 → Int32 → Mm → Option (Int32 × Mm)) (a1 : Int32) (g : Mm) : Option (Int32 × Mm) := bdd (C 1 (0 : Int32) a1 (0 : Int32) (0 : Int32) g) (fun ra1 ga2 => (if ra1 = (0 : Int32) then some ((0 : Int32), ga2) else bdd (m_X3_isNext (41 : Int32) ga2) (fun ra5 ga6 => (if ra5 = (0 : Int32) then some ((0 : Int32), ga6) else some ((1 : Int32), (wrI ga6 11 2 ((rdI ga6 11 2) + (1 : Int32))))))))
set_option maxHeartbeats 2000000 in
theorem b_X3_readBraced {d : Nat} {r2 : Int32} {g g2 : Mm} (hd : 3 ≤ d) {dn : Nat} {C : Nat → Int32 → Int32 → Int32 → Int32 → Mm → Option (Int32 × Mm)} (hdn : dn + 1 ≤ d) (hC0 : ∀ (b0 b1 b2 b3 : Int32) (g : Mm) (rr : Int32) (gg : Mm), C 0 b0 b1 b2 b3 g = some (rr, gg) → gx_M dn yX3_readPart cX3_readPart 3 (some .boolean) (fun al => [.ref (al (11)), .int (b0), .int (b1)]) g (some (.int rr)) gg) (hC1 : ∀ (b0 b1 b2 b3 : Int32) (g : Mm) (rr : Int32) (gg : Mm), C 1 b0 b1 b2 b3 g = some (rr, gg) → gx_M dn yX3_readJoined cX3_readJoined 5 (some .boolean) (fun al => [.ref (al (11)), .int (b0), .int (b1)]) g (some (.int rr)) gg) (hC2 : ∀ (b0 b1 b2 b3 : Int32) (g : Mm) (rr : Int32) (gg : Mm), C 2 b0 b1 b2 b3 g = some (rr, gg) → gx_M dn yX3_readOperand cX3_readOperand 3 (some .boolean) (fun al => [.ref (al (11)), .int (b0)]) g (some (.int rr)) gg) (hC3 : ∀ (b0 b1 b2 b3 : Int32) (g : Mm) (rr : Int32) (gg : Mm), C 3 b0 b1 b2 b3 g = some (rr, gg) → gx_M dn yX3_readSigned cX3_readSigned 3 (some .boolean) (fun al => [.ref (al (11)), .int (b0), .int (b1)]) g (some (.int rr)) gg) (hC4 : ∀ (b0 b1 b2 b3 : Int32) (g : Mm) (rr : Int32) (gg : Mm), C 4 b0 b1 b2 b3 g = some (rr, gg) → gx_M dn yX3_readBraced cX3_readBraced 2 (some .boolean) (fun al => [.ref (al (11)), .int (b0)]) g (some (.int rr)) gg) {a1 : Int32} (h : m_X3_readBraced C a1 g = some (r2, g2)) : gx_M d yX3_readBraced cX3_readBraced 2 (some .boolean) (fun al => [.ref (al (11)), .int (a1)]) g (some (.int r2)) g2 := by
  refine gx_M.of (by decide +kernel) (fun _ => Nat.le_of_ble_eq_true rfl) ?_
  intro p l e R s m args below meth c D al cI cJ A X
  refine gx_eq (pc' := 0) (ls' := [(0, .ref (al (11))), (1, .int (a1))]) (st' := []) (g' := g) ⟨rfl, rfl, rfl, rfl⟩ ?_
  unfold m_X3_readBraced at h
  refine gx_aload_n X 0 rfl dX3_readBraced_0 ?_
  refine gx_iconst X (v := (0 : Int32)) dX3_readBraced_1 (by decide) ?_
  refine gx_iload_n X 1 rfl dX3_readBraced_2 ?_
  obtain ⟨ra1, ga2, ca3, h⟩ := bdd_eq h
  refine gx_callVi X (11) (hC1 _ _ _ _ _ _ _ ca3) lc_X3_readJoined li_X3_readJoined lm_X3_35 (by decide) (cl_11 _ _) rfl rfl rfl hdn rfl (Nat.le_of_ble_eq_true rfl) dX3_readBraced_3 ?_
  refine gx_if_eq X 18 dX3_readBraced_6 (by decide) (fun q4 => ?_) (fun q4 => ?_)
  · replace h := (if_pos q4).symm.trans h
    refine gx_iconst X (v := (0 : Int32)) dX3_readBraced_18 (by decide) ?_
    obtain ⟨rfl, rfl⟩ := ret_eq h
    exact gx_iret X rfl dX3_readBraced_19
  · replace h := (if_neg q4).symm.trans h
    refine gx_aload_n X 0 rfl dX3_readBraced_9 ?_
    refine gx_bipush X (v := (41 : Int32)) dX3_readBraced_10 (by decide) ?_
    obtain ⟨ra5, ga6, ca7, h⟩ := bdd_eq h
    refine gx_callVi X (11) (c_X3_isNext ca7) lc_X3_isNext li_X3_isNext lm_X3_39 (by decide) (cl_11 _ _) rfl rfl rfl (Nat.le_trans (by decide) hd) rfl (Nat.le_of_ble_eq_true rfl) dX3_readBraced_12 ?_
    refine gx_if_ne X 20 dX3_readBraced_15 (by decide) (fun q8 => ?_) (fun q8 => ?_)
    · replace h := (if_neg q8).symm.trans h
      refine gx_aload_n X 0 rfl dX3_readBraced_20 ?_
      refine gx_dup X dX3_readBraced_21 rfl ?_
      refine gx_getf X (11) lf_X3_17 (by decide) (cl_11 _ _) (v := .int ((rdI ga6 11 2))) rfl dX3_readBraced_22 ?_
      refine gx_iconst X (v := (1 : Int32)) dX3_readBraced_25 (by decide) ?_
      refine gx_iadd X dX3_readBraced_26 ?_
      refine gx_putf X (11) ((rdI ga6 11 2) + (1 : Int32)) lf_X3_17 lp_X3_2 (by decide) (cl_11 _ _) (Nat.le_of_ble_eq_true rfl) rfl rfl rfl dX3_readBraced_27 ?_
      refine gx_iconst X (v := (1 : Int32)) dX3_readBraced_30 (by decide) ?_
      obtain ⟨rfl, rfl⟩ := ret_eq h
      exact gx_iret X rfl dX3_readBraced_31
    · replace h := (if_pos q8).symm.trans h
      refine gx_iconst X (v := (0 : Int32)) dX3_readBraced_18 (by decide) ?_
      obtain ⟨rfl, rfl⟩ := ret_eq h
      exact gx_iret X rfl dX3_readBraced_19
def gl_ : Nat → Nat → Int32 → Int32 → Int32 → Int32 → Mm → Option (Int32 × Mm)
  | 0, _, _, _, _, _, _ => none
  | n + 1, t, b0, b1, b2, b3, g => if t = 0 then m_X3_readPart (gl_ n) b0 b1 g else if t = 1 then m_X3_readJoined (gl_ n) b0 b1 g else if t = 2 then m_X3_readOperand (gl_ n) b0 g else if t = 3 then m_X3_readSigned (gl_ n) b0 b1 g else if t = 4 then m_X3_readBraced (gl_ n) b0 g else none
set_option maxHeartbeats 2000000 in
theorem gl_all : ∀ n : Nat, (∀ (b0 b1 b2 b3 : Int32) (g : Mm) (rr : Int32) (gg : Mm), gl_ n 0 b0 b1 b2 b3 g = some (rr, gg) → gx_M (3 + n) yX3_readPart cX3_readPart 3 (some .boolean) (fun al => [.ref (al (11)), .int (b0), .int (b1)]) g (some (.int rr)) gg) ∧ (∀ (b0 b1 b2 b3 : Int32) (g : Mm) (rr : Int32) (gg : Mm), gl_ n 1 b0 b1 b2 b3 g = some (rr, gg) → gx_M (3 + n) yX3_readJoined cX3_readJoined 5 (some .boolean) (fun al => [.ref (al (11)), .int (b0), .int (b1)]) g (some (.int rr)) gg) ∧ (∀ (b0 b1 b2 b3 : Int32) (g : Mm) (rr : Int32) (gg : Mm), gl_ n 2 b0 b1 b2 b3 g = some (rr, gg) → gx_M (3 + n) yX3_readOperand cX3_readOperand 3 (some .boolean) (fun al => [.ref (al (11)), .int (b0)]) g (some (.int rr)) gg) ∧ (∀ (b0 b1 b2 b3 : Int32) (g : Mm) (rr : Int32) (gg : Mm), gl_ n 3 b0 b1 b2 b3 g = some (rr, gg) → gx_M (3 + n) yX3_readSigned cX3_readSigned 3 (some .boolean) (fun al => [.ref (al (11)), .int (b0), .int (b1)]) g (some (.int rr)) gg) ∧ (∀ (b0 b1 b2 b3 : Int32) (g : Mm) (rr : Int32) (gg : Mm), gl_ n 4 b0 b1 b2 b3 g = some (rr, gg) → gx_M (3 + n) yX3_readBraced cX3_readBraced 2 (some .boolean) (fun al => [.ref (al (11)), .int (b0)]) g (some (.int rr)) gg) := by
  intro n
  induction n with
  | zero => exact ⟨fun b0 b1 b2 b3 g rr gg h => (by cases h), fun b0 b1 b2 b3 g rr gg h => (by cases h), fun b0 b1 b2 b3 g rr gg h => (by cases h), fun b0 b1 b2 b3 g rr gg h => (by cases h), fun b0 b1 b2 b3 g rr gg h => (by cases h)⟩
  | succ n ih =>
    obtain ⟨i0, i1, i2, i3, i4⟩ := ih
    have hd : 3 ≤ 3 + (n + 1) := Nat.le_add_right _ _
    have hdn : (3 + n) + 1 ≤ 3 + (n + 1) := Nat.le_refl _
    exact ⟨fun b0 b1 b2 b3 g rr gg h => b_X3_readPart hd hdn i0 i1 i2 i3 i4 h, fun b0 b1 b2 b3 g rr gg h => b_X3_readJoined hd hdn i0 i1 i2 i3 i4 h, fun b0 b1 b2 b3 g rr gg h => b_X3_readOperand hd hdn i0 i1 i2 i3 i4 h, fun b0 b1 b2 b3 g rr gg h => b_X3_readSigned hd hdn i0 i1 i2 i3 i4 h, fun b0 b1 b2 b3 g rr gg h => b_X3_readBraced hd hdn i0 i1 i2 i3 i4 h⟩
theorem c_X3_readPart {b0 b1 b2 b3 : Int32} {g : Mm} {rr : Int32} {gg : Mm} (h : gl_ 120 0 b0 b1 b2 b3 g = some (rr, gg)) : gx_M 123 yX3_readPart cX3_readPart 3 (some .boolean) (fun al => [.ref (al (11)), .int (b0), .int (b1)]) g (some (.int rr)) gg := (gl_all 120).1 _ _ _ _ _ _ _ h
theorem c_X3_readJoined {b0 b1 b2 b3 : Int32} {g : Mm} {rr : Int32} {gg : Mm} (h : gl_ 120 1 b0 b1 b2 b3 g = some (rr, gg)) : gx_M 123 yX3_readJoined cX3_readJoined 5 (some .boolean) (fun al => [.ref (al (11)), .int (b0), .int (b1)]) g (some (.int rr)) gg := (gl_all 120).2.1 _ _ _ _ _ _ _ h
theorem c_X3_readOperand {b0 b1 b2 b3 : Int32} {g : Mm} {rr : Int32} {gg : Mm} (h : gl_ 120 2 b0 b1 b2 b3 g = some (rr, gg)) : gx_M 123 yX3_readOperand cX3_readOperand 3 (some .boolean) (fun al => [.ref (al (11)), .int (b0)]) g (some (.int rr)) gg := (gl_all 120).2.2.1 _ _ _ _ _ _ _ h
theorem c_X3_readSigned {b0 b1 b2 b3 : Int32} {g : Mm} {rr : Int32} {gg : Mm} (h : gl_ 120 3 b0 b1 b2 b3 g = some (rr, gg)) : gx_M 123 yX3_readSigned cX3_readSigned 3 (some .boolean) (fun al => [.ref (al (11)), .int (b0), .int (b1)]) g (some (.int rr)) gg := (gl_all 120).2.2.2.1 _ _ _ _ _ _ _ h
theorem c_X3_readBraced {b0 b1 b2 b3 : Int32} {g : Mm} {rr : Int32} {gg : Mm} (h : gl_ 120 4 b0 b1 b2 b3 g = some (rr, gg)) : gx_M 123 yX3_readBraced cX3_readBraced 2 (some .boolean) (fun al => [.ref (al (11)), .int (b0)]) g (some (.int rr)) gg := (gl_all 120).2.2.2.2 _ _ _ _ _ _ _ h
theorem dX3_readLine_0 : decode cX3_readLine 0 = .ok (.aload_n 0, 1) := by decide +kernel
theorem dX3_readLine_1 : decode cX3_readLine 1 = .ok (.iconst 0, 1) := by decide +kernel
theorem dX3_readLine_2 : decode cX3_readLine 2 = .ok (.iconst 0, 1) := by decide +kernel
theorem dX3_readLine_3 : decode cX3_readLine 3 = .ok (.invokevirtual 35, 3) := by decide +kernel
theorem dX3_readLine_6 : decode cX3_readLine 6 = .ok (.ifCond .ne 5, 3) := by decide +kernel
theorem dX3_readLine_9 : decode cX3_readLine 9 = .ok (.iconst 0, 1) := by decide +kernel
theorem dX3_readLine_10 : decode cX3_readLine 10 = .ok (.ireturn, 1) := by decide +kernel
theorem dX3_readLine_11 : decode cX3_readLine 11 = .ok (.aload_n 0, 1) := by decide +kernel
theorem dX3_readLine_12 : decode cX3_readLine 12 = .ok (.bipush 63, 2) := by decide +kernel
theorem dX3_readLine_14 : decode cX3_readLine 14 = .ok (.invokevirtual 39, 3) := by decide +kernel
theorem dX3_readLine_17 : decode cX3_readLine 17 = .ok (.ifCond .ne 15, 3) := by decide +kernel
theorem dX3_readLine_20 : decode cX3_readLine 20 = .ok (.aload_n 0, 1) := by decide +kernel
theorem dX3_readLine_21 : decode cX3_readLine 21 = .ok (.getfield 27, 3) := by decide +kernel
theorem dX3_readLine_24 : decode cX3_readLine 24 = .ok (.bipush 6, 2) := by decide +kernel
theorem dX3_readLine_26 : decode cX3_readLine 26 = .ok (.iconst 0, 1) := by decide +kernel
theorem dX3_readLine_27 : decode cX3_readLine 27 = .ok (.invokevirtual 43, 3) := by decide +kernel
theorem dX3_readLine_30 : decode cX3_readLine 30 = .ok (.iconst 1, 1) := by decide +kernel
theorem dX3_readLine_31 : decode cX3_readLine 31 = .ok (.ireturn, 1) := by decide +kernel
theorem dX3_readLine_32 : decode cX3_readLine 32 = .ok (.aload_n 0, 1) := by decide +kernel
theorem dX3_readLine_33 : decode cX3_readLine 33 = .ok (.dup, 1) := by decide +kernel
theorem dX3_readLine_34 : decode cX3_readLine 34 = .ok (.getfield 17, 3) := by decide +kernel
theorem dX3_readLine_37 : decode cX3_readLine 37 = .ok (.iconst 1, 1) := by decide +kernel
theorem dX3_readLine_38 : decode cX3_readLine 38 = .ok (.iadd, 1) := by decide +kernel
theorem dX3_readLine_39 : decode cX3_readLine 39 = .ok (.putfield 17, 3) := by decide +kernel
theorem dX3_readLine_42 : decode cX3_readLine 42 = .ok (.aload_n 0, 1) := by decide +kernel
theorem dX3_readLine_43 : decode cX3_readLine 43 = .ok (.getfield 27, 3) := by decide +kernel
theorem dX3_readLine_46 : decode cX3_readLine 46 = .ok (.getfield 30, 3) := by decide +kernel
theorem dX3_readLine_49 : decode cX3_readLine 49 = .ok (.istore_n 1, 1) := by decide +kernel
theorem dX3_readLine_50 : decode cX3_readLine 50 = .ok (.aload_n 0, 1) := by decide +kernel
theorem dX3_readLine_51 : decode cX3_readLine 51 = .ok (.getfield 27, 3) := by decide +kernel
theorem dX3_readLine_54 : decode cX3_readLine 54 = .ok (.iconst 5, 1) := by decide +kernel
theorem dX3_readLine_55 : decode cX3_readLine 55 = .ok (.iconst 0, 1) := by decide +kernel
theorem dX3_readLine_56 : decode cX3_readLine 56 = .ok (.invokevirtual 43, 3) := by decide +kernel
theorem dX3_readLine_59 : decode cX3_readLine 59 = .ok (.aload_n 0, 1) := by decide +kernel
theorem dX3_readLine_60 : decode cX3_readLine 60 = .ok (.iconst 0, 1) := by decide +kernel
theorem dX3_readLine_61 : decode cX3_readLine 61 = .ok (.iconst 0, 1) := by decide +kernel
theorem dX3_readLine_62 : decode cX3_readLine 62 = .ok (.invokevirtual 35, 3) := by decide +kernel
theorem dX3_readLine_65 : decode cX3_readLine 65 = .ok (.ifCond .ne 5, 3) := by decide +kernel
theorem dX3_readLine_68 : decode cX3_readLine 68 = .ok (.iconst 0, 1) := by decide +kernel
theorem dX3_readLine_69 : decode cX3_readLine 69 = .ok (.ireturn, 1) := by decide +kernel
theorem dX3_readLine_70 : decode cX3_readLine 70 = .ok (.aload_n 0, 1) := by decide +kernel
theorem dX3_readLine_71 : decode cX3_readLine 71 = .ok (.getfield 27, 3) := by decide +kernel
theorem dX3_readLine_74 : decode cX3_readLine 74 = .ok (.bipush 6, 2) := by decide +kernel
theorem dX3_readLine_76 : decode cX3_readLine 76 = .ok (.iconst 0, 1) := by decide +kernel
theorem dX3_readLine_77 : decode cX3_readLine 77 = .ok (.invokevirtual 43, 3) := by decide +kernel
theorem dX3_readLine_80 : decode cX3_readLine 80 = .ok (.aload_n 0, 1) := by decide +kernel
theorem dX3_readLine_81 : decode cX3_readLine 81 = .ok (.getfield 27, 3) := by decide +kernel
theorem dX3_readLine_84 : decode cX3_readLine 84 = .ok (.iload_n 1, 1) := by decide +kernel
theorem dX3_readLine_85 : decode cX3_readLine 85 = .ok (.invokevirtual 47, 3) := by decide +kernel
theorem dX3_readLine_88 : decode cX3_readLine 88 = .ok (.iconst 1, 1) := by decide +kernel
theorem dX3_readLine_89 : decode cX3_readLine 89 = .ok (.ireturn, 1) := by decide +kernel
def m_X3_readLine (g : Mm) : Option (Int32 × Mm) := bdd (gl_ 120 1 (0 : Int32) (0 : Int32) (0 : Int32) (0 : Int32) g) (fun ra1 ga2 => (if ra1 = (0 : Int32) then some ((0 : Int32), ga2) else bdd (m_X3_isNext (63 : Int32) ga2) (fun ra5 ga6 => (if ra5 = (0 : Int32) then bdd (m_X4_add (rdI ga6 11 4) (6 : Int32) (0 : Int32) ga6) (fun ra23 ga24 => some ((1 : Int32), ga24)) else lti (rdI (wrI ga6 11 2 ((rdI ga6 11 2) + (1 : Int32))) (pgm (rdI (wrI ga6 11 2 ((rdI ga6 11 2) + (1 : Int32))) 11 4)) 4) (fun v9 => bdd (m_X4_add (rdI (wrI ga6 11 2 ((rdI ga6 11 2) + (1 : Int32))) 11 4) (5 : Int32) (0 : Int32) (wrI ga6 11 2 ((rdI ga6 11 2) + (1 : Int32)))) (fun ra10 ga11 => bdd (gl_ 120 1 (0 : Int32) (0 : Int32) (0 : Int32) (0 : Int32) ga11) (fun ra13 ga14 => (if ra13 = (0 : Int32) then some ((0 : Int32), ga14) else bdd (m_X4_add (rdI ga14 11 4) (6 : Int32) (0 : Int32) ga14) (fun ra17 ga18 => bdd (m_X4_skipToEnd (rdI ga18 11 4) v9 ga18) (fun ra20 ga21 => some ((1 : Int32), ga21)))))))))))
set_option maxHeartbeats 2000000 in
theorem c_X3_readLine {r2 : Int32} {g g2 : Mm} (h : m_X3_readLine g = some (r2, g2)) : gx_M 124 yX3_readLine cX3_readLine 2 (some .boolean) (fun al => [.ref (al (11))]) g (some (.int r2)) g2 := by
  have hd : 124 ≤ 124 := Nat.le_refl _
  refine gx_M.of (by decide +kernel) (fun _ => Nat.le_of_ble_eq_true rfl) ?_
  intro p l e R s m args below meth c D al cI cJ A X
  refine gx_eq (pc' := 0) (ls' := [(0, .ref (al (11)))]) (st' := []) (g' := g) ⟨rfl, rfl, rfl, rfl⟩ ?_
  unfold m_X3_readLine at h
  refine gx_aload_n X 0 rfl dX3_readLine_0 ?_
  refine gx_iconst X (v := (0 : Int32)) dX3_readLine_1 (by decide) ?_
  refine gx_iconst X (v := (0 : Int32)) dX3_readLine_2 (by decide) ?_
  obtain ⟨ra1, ga2, ca3, h⟩ := bdd_eq h
  refine gx_callVi X (11) (c_X3_readJoined ca3) lc_X3_readJoined li_X3_readJoined lm_X3_35 (by decide) (cl_11 _ _) rfl rfl rfl (Nat.le_trans (by decide) hd) rfl (Nat.le_of_ble_eq_true rfl) dX3_readLine_3 ?_
  refine gx_if_ne X 11 dX3_readLine_6 (by decide) (fun q4 => ?_) (fun q4 => ?_)
  · replace h := (if_neg q4).symm.trans h
    refine gx_aload_n X 0 rfl dX3_readLine_11 ?_
    refine gx_bipush X (v := (63 : Int32)) dX3_readLine_12 (by decide) ?_
    obtain ⟨ra5, ga6, ca7, h⟩ := bdd_eq h
    refine gx_callVi X (11) (c_X3_isNext ca7) lc_X3_isNext li_X3_isNext lm_X3_39 (by decide) (cl_11 _ _) rfl rfl rfl (Nat.le_trans (by decide) hd) rfl (Nat.le_of_ble_eq_true rfl) dX3_readLine_14 ?_
    refine gx_if_ne X 32 dX3_readLine_17 (by decide) (fun q8 => ?_) (fun q8 => ?_)
    · replace h := (if_neg q8).symm.trans h
      refine gx_aload_n X 0 rfl dX3_readLine_32 ?_
      refine gx_dup X dX3_readLine_33 rfl ?_
      refine gx_getf X (11) lf_X3_17 (by decide) (cl_11 _ _) (v := .int ((rdI ga6 11 2))) rfl dX3_readLine_34 ?_
      refine gx_iconst X (v := (1 : Int32)) dX3_readLine_37 (by decide) ?_
      refine gx_iadd X dX3_readLine_38 ?_
      refine gx_putf X (11) ((rdI ga6 11 2) + (1 : Int32)) lf_X3_17 lp_X3_2 (by decide) (cl_11 _ _) (Nat.le_of_ble_eq_true rfl) rfl rfl rfl dX3_readLine_39 ?_
      refine gx_aload_n X 0 rfl dX3_readLine_42 ?_
      refine gx_getf X (11) lf_X3_27 (by decide) (cl_11 _ _) (v := .ref (al (pgm (rdI (wrI ga6 11 2 ((rdI ga6 11 2) + (1 : Int32))) 11 4)))) rfl dX3_readLine_43 ?_
      refine gx_getn X (pgm (rdI (wrI ga6 11 2 ((rdI ga6 11 2) + (1 : Int32))) 11 4)) lf_X3_30 (pg_lt _) (cl_pg _ _ _) (v := .int ((rdI (wrI ga6 11 2 ((rdI ga6 11 2) + (1 : Int32))) (pgm (rdI (wrI ga6 11 2 ((rdI ga6 11 2) + (1 : Int32))) 11 4)) 4))) rfl dX3_readLine_46 ?_
      obtain ⟨v9, ev9, h⟩ := lti_eq h
      refine gx_topi ev9 ?_
      refine gx_istore_n X [(1, .int (v9)), (0, .ref (al (11)))] dX3_readLine_49 (by decide) rfl ?_
      refine gx_aload_n X 1 rfl dX3_readLine_50 ?_
      refine gx_getf X (11) lf_X3_27 (by decide) (cl_11 _ _) (v := .ref (al (pgm (rdI (wrI ga6 11 2 ((rdI ga6 11 2) + (1 : Int32))) 11 4)))) rfl dX3_readLine_51 ?_
      refine gx_iconst X (v := (5 : Int32)) dX3_readLine_54 (by decide) ?_
      refine gx_iconst X (v := (0 : Int32)) dX3_readLine_55 (by decide) ?_
      obtain ⟨ra10, ga11, ca12, h⟩ := bdd_eq h
      refine gx_callNv X (pgm (rdI (wrI ga6 11 2 ((rdI ga6 11 2) + (1 : Int32))) 11 4)) (c_X4_add ca12) lc_X4_add li_X4_add lm_X3_43 (pg_lt _) (cl_pg _ _ _) rfl rfl rfl (Nat.le_trans (by decide) hd) rfl (Nat.le_of_ble_eq_true rfl) dX3_readLine_56 ?_
      refine gx_aload_n X 1 rfl dX3_readLine_59 ?_
      refine gx_iconst X (v := (0 : Int32)) dX3_readLine_60 (by decide) ?_
      refine gx_iconst X (v := (0 : Int32)) dX3_readLine_61 (by decide) ?_
      obtain ⟨ra13, ga14, ca15, h⟩ := bdd_eq h
      refine gx_callVi X (11) (c_X3_readJoined ca15) lc_X3_readJoined li_X3_readJoined lm_X3_35 (by decide) (cl_11 _ _) rfl rfl rfl (Nat.le_trans (by decide) hd) rfl (Nat.le_of_ble_eq_true rfl) dX3_readLine_62 ?_
      refine gx_if_ne X 70 dX3_readLine_65 (by decide) (fun q16 => ?_) (fun q16 => ?_)
      · replace h := (if_neg q16).symm.trans h
        refine gx_aload_n X 1 rfl dX3_readLine_70 ?_
        refine gx_getf X (11) lf_X3_27 (by decide) (cl_11 _ _) (v := .ref (al (pgm (rdI ga14 11 4)))) rfl dX3_readLine_71 ?_
        refine gx_bipush X (v := (6 : Int32)) dX3_readLine_74 (by decide) ?_
        refine gx_iconst X (v := (0 : Int32)) dX3_readLine_76 (by decide) ?_
        obtain ⟨ra17, ga18, ca19, h⟩ := bdd_eq h
        refine gx_callNv X (pgm (rdI ga14 11 4)) (c_X4_add ca19) lc_X4_add li_X4_add lm_X3_43 (pg_lt _) (cl_pg _ _ _) rfl rfl rfl (Nat.le_trans (by decide) hd) rfl (Nat.le_of_ble_eq_true rfl) dX3_readLine_77 ?_
        refine gx_aload_n X 1 rfl dX3_readLine_80 ?_
        refine gx_getf X (11) lf_X3_27 (by decide) (cl_11 _ _) (v := .ref (al (pgm (rdI ga18 11 4)))) rfl dX3_readLine_81 ?_
        refine gx_iload_n X 0 rfl dX3_readLine_84 ?_
        obtain ⟨ra20, ga21, ca22, h⟩ := bdd_eq h
        refine gx_callNv X (pgm (rdI ga18 11 4)) (c_X4_skipToEnd ca22) lc_X4_skipToEnd li_X4_skipToEnd lm_X3_47 (pg_lt _) (cl_pg _ _ _) rfl rfl rfl (Nat.le_trans (by decide) hd) rfl (Nat.le_of_ble_eq_true rfl) dX3_readLine_85 ?_
        refine gx_iconst X (v := (1 : Int32)) dX3_readLine_88 (by decide) ?_
        obtain ⟨rfl, rfl⟩ := ret_eq h
        exact gx_iret X rfl dX3_readLine_89
      · replace h := (if_pos q16).symm.trans h
        refine gx_iconst X (v := (0 : Int32)) dX3_readLine_68 (by decide) ?_
        obtain ⟨rfl, rfl⟩ := ret_eq h
        exact gx_iret X rfl dX3_readLine_69
    · replace h := (if_pos q8).symm.trans h
      refine gx_aload_n X 0 rfl dX3_readLine_20 ?_
      refine gx_getf X (11) lf_X3_27 (by decide) (cl_11 _ _) (v := .ref (al (pgm (rdI ga6 11 4)))) rfl dX3_readLine_21 ?_
      refine gx_bipush X (v := (6 : Int32)) dX3_readLine_24 (by decide) ?_
      refine gx_iconst X (v := (0 : Int32)) dX3_readLine_26 (by decide) ?_
      obtain ⟨ra23, ga24, ca25, h⟩ := bdd_eq h
      refine gx_callNv X (pgm (rdI ga6 11 4)) (c_X4_add ca25) lc_X4_add li_X4_add lm_X3_43 (pg_lt _) (cl_pg _ _ _) rfl rfl rfl (Nat.le_trans (by decide) hd) rfl (Nat.le_of_ble_eq_true rfl) dX3_readLine_27 ?_
      refine gx_iconst X (v := (1 : Int32)) dX3_readLine_30 (by decide) ?_
      obtain ⟨rfl, rfl⟩ := ret_eq h
      exact gx_iret X rfl dX3_readLine_31
  · replace h := (if_pos q4).symm.trans h
    refine gx_iconst X (v := (0 : Int32)) dX3_readLine_9 (by decide) ?_
    obtain ⟨rfl, rfl⟩ := ret_eq h
    exact gx_iret X rfl dX3_readLine_10
theorem dX3_readAll_0 : decode cX3_readAll 0 = .ok (.aload_n 0, 1) := by decide +kernel
theorem dX3_readAll_1 : decode cX3_readAll 1 = .ok (.iconst 0, 1) := by decide +kernel
theorem dX3_readAll_2 : decode cX3_readAll 2 = .ok (.putfield 17, 3) := by decide +kernel
theorem dX3_readAll_5 : decode cX3_readAll 5 = .ok (.aload_n 0, 1) := by decide +kernel
theorem dX3_readAll_6 : decode cX3_readAll 6 = .ok (.getfield 27, 3) := by decide +kernel
theorem dX3_readAll_9 : decode cX3_readAll 9 = .ok (.iconst 0, 1) := by decide +kernel
theorem dX3_readAll_10 : decode cX3_readAll 10 = .ok (.putfield 30, 3) := by decide +kernel
theorem dX3_readAll_13 : decode cX3_readAll 13 = .ok (.aload_n 0, 1) := by decide +kernel
theorem dX3_readAll_14 : decode cX3_readAll 14 = .ok (.invokevirtual 31, 3) := by decide +kernel
theorem dX3_readAll_17 : decode cX3_readAll 17 = .ok (.istore_n 1, 1) := by decide +kernel
theorem dX3_readAll_18 : decode cX3_readAll 18 = .ok (.iload_n 1, 1) := by decide +kernel
theorem dX3_readAll_19 : decode cX3_readAll 19 = .ok (.ifCond .eq 46, 3) := by decide +kernel
theorem dX3_readAll_22 : decode cX3_readAll 22 = .ok (.aload_n 0, 1) := by decide +kernel
theorem dX3_readAll_23 : decode cX3_readAll 23 = .ok (.getfield 17, 3) := by decide +kernel
theorem dX3_readAll_26 : decode cX3_readAll 26 = .ok (.aload_n 0, 1) := by decide +kernel
theorem dX3_readAll_27 : decode cX3_readAll 27 = .ok (.getfield 13, 3) := by decide +kernel
theorem dX3_readAll_30 : decode cX3_readAll 30 = .ok (.if_icmp .ge 35, 3) := by decide +kernel
theorem dX3_readAll_33 : decode cX3_readAll 33 = .ok (.aload_n 0, 1) := by decide +kernel
theorem dX3_readAll_34 : decode cX3_readAll 34 = .ok (.getfield 9, 3) := by decide +kernel
theorem dX3_readAll_37 : decode cX3_readAll 37 = .ok (.aload_n 0, 1) := by decide +kernel
theorem dX3_readAll_38 : decode cX3_readAll 38 = .ok (.getfield 17, 3) := by decide +kernel
theorem dX3_readAll_41 : decode cX3_readAll 41 = .ok (.iaload, 1) := by decide +kernel
theorem dX3_readAll_42 : decode cX3_readAll 42 = .ok (.bipush 59, 2) := by decide +kernel
theorem dX3_readAll_44 : decode cX3_readAll 44 = .ok (.if_icmp .ne 21, 3) := by decide +kernel
theorem dX3_readAll_47 : decode cX3_readAll 47 = .ok (.aload_n 0, 1) := by decide +kernel
theorem dX3_readAll_48 : decode cX3_readAll 48 = .ok (.dup, 1) := by decide +kernel
theorem dX3_readAll_49 : decode cX3_readAll 49 = .ok (.getfield 17, 3) := by decide +kernel
theorem dX3_readAll_52 : decode cX3_readAll 52 = .ok (.iconst 1, 1) := by decide +kernel
theorem dX3_readAll_53 : decode cX3_readAll 53 = .ok (.iadd, 1) := by decide +kernel
theorem dX3_readAll_54 : decode cX3_readAll 54 = .ok (.putfield 17, 3) := by decide +kernel
theorem dX3_readAll_57 : decode cX3_readAll 57 = .ok (.aload_n 0, 1) := by decide +kernel
theorem dX3_readAll_58 : decode cX3_readAll 58 = .ok (.invokevirtual 31, 3) := by decide +kernel
theorem dX3_readAll_61 : decode cX3_readAll 61 = .ok (.istore_n 1, 1) := by decide +kernel
theorem dX3_readAll_62 : decode cX3_readAll 62 = .ok (.goto (-44), 3) := by decide +kernel
theorem dX3_readAll_65 : decode cX3_readAll 65 = .ok (.iload_n 1, 1) := by decide +kernel
theorem dX3_readAll_66 : decode cX3_readAll 66 = .ok (.ifCond .eq 18, 3) := by decide +kernel
theorem dX3_readAll_69 : decode cX3_readAll 69 = .ok (.aload_n 0, 1) := by decide +kernel
theorem dX3_readAll_70 : decode cX3_readAll 70 = .ok (.getfield 17, 3) := by decide +kernel
theorem dX3_readAll_73 : decode cX3_readAll 73 = .ok (.aload_n 0, 1) := by decide +kernel
theorem dX3_readAll_74 : decode cX3_readAll 74 = .ok (.getfield 13, 3) := by decide +kernel
theorem dX3_readAll_77 : decode cX3_readAll 77 = .ok (.if_icmp .ne 7, 3) := by decide +kernel
theorem dX3_readAll_80 : decode cX3_readAll 80 = .ok (.iconst (-1), 1) := by decide +kernel
theorem dX3_readAll_81 : decode cX3_readAll 81 = .ok (.goto 7, 3) := by decide +kernel
theorem dX3_readAll_84 : decode cX3_readAll 84 = .ok (.aload_n 0, 1) := by decide +kernel
theorem dX3_readAll_85 : decode cX3_readAll 85 = .ok (.getfield 17, 3) := by decide +kernel
theorem dX3_readAll_88 : decode cX3_readAll 88 = .ok (.istore_n 2, 1) := by decide +kernel
theorem dX3_readAll_89 : decode cX3_readAll 89 = .ok (.iload_n 2, 1) := by decide +kernel
theorem dX3_readAll_90 : decode cX3_readAll 90 = .ok (.ifCond .ge 21, 3) := by decide +kernel
theorem dX3_readAll_93 : decode cX3_readAll 93 = .ok (.aload_n 0, 1) := by decide +kernel
theorem dX3_readAll_94 : decode cX3_readAll 94 = .ok (.getfield 23, 3) := by decide +kernel
theorem dX3_readAll_97 : decode cX3_readAll 97 = .ok (.astore_n 3, 1) := by decide +kernel
theorem dX3_readAll_98 : decode cX3_readAll 98 = .ok (.aload_n 0, 1) := by decide +kernel
theorem dX3_readAll_99 : decode cX3_readAll 99 = .ok (.aload_n 0, 1) := by decide +kernel
theorem dX3_readAll_100 : decode cX3_readAll 100 = .ok (.getfield 27, 3) := by decide +kernel
theorem dX3_readAll_103 : decode cX3_readAll 103 = .ok (.putfield 23, 3) := by decide +kernel
theorem dX3_readAll_106 : decode cX3_readAll 106 = .ok (.aload_n 0, 1) := by decide +kernel
theorem dX3_readAll_107 : decode cX3_readAll 107 = .ok (.aload_n 3, 1) := by decide +kernel
theorem dX3_readAll_108 : decode cX3_readAll 108 = .ok (.putfield 27, 3) := by decide +kernel
theorem dX3_readAll_111 : decode cX3_readAll 111 = .ok (.aload_n 0, 1) := by decide +kernel
theorem dX3_readAll_112 : decode cX3_readAll 112 = .ok (.iconst 0, 1) := by decide +kernel
theorem dX3_readAll_113 : decode cX3_readAll 113 = .ok (.putfield 13, 3) := by decide +kernel
theorem dX3_readAll_116 : decode cX3_readAll 116 = .ok (.iload_n 2, 1) := by decide +kernel
theorem dX3_readAll_117 : decode cX3_readAll 117 = .ok (.ireturn, 1) := by decide +kernel
def m_X3_readAll_88 (k0 : Int32) (g : Mm) : Option (Int32 × Mm) := (if (0 : Int32) ≤ k0 then some (k0, (wrI g 11 1 (0 : Int32))) else some (k0, (wrI (wrI (wrI g 11 3 (rdI g 11 4)) 11 4 (rdI g 11 3)) 11 1 (0 : Int32))))
set_option maxHeartbeats 2000000 in
theorem t_X3_readAll_88 {r2 : Int32} {g2 : Mm} (X : gx_X p R s m args meth c D al cI cJ A RX3 cX3_readAll 4 (some .int) d 0 0) (hd : 125 ≤ d) : ∀ (k0 : Int32) (g : Mm), m_X3_readAll_88 k0 g = some (r2, g2) → gx_G p l e R s m args below meth c (gx_Q below args s D al cI cJ A (some (.int r2)) g2) D al cI cJ A 4 0 0 88 [(0, .ref (al (11)))] [.int (k0)] g := by
  intro k0 g h
  unfold m_X3_readAll_88 at h
  refine gx_istore_n X [(2, .int (k0)), (0, .ref (al (11)))] dX3_readAll_88 (by decide) rfl ?_
  refine gx_iload_n X 0 rfl dX3_readAll_89 ?_
  refine gx_if_ge X 111 dX3_readAll_90 (by decide) (fun q1 => ?_) (fun q1 => ?_)
  · replace h := (if_pos q1).symm.trans h
    refine gx_aload_n X 1 rfl dX3_readAll_111 ?_
    refine gx_iconst X (v := (0 : Int32)) dX3_readAll_112 (by decide) ?_
    refine gx_putf X (11) (0 : Int32) lf_X3_13 lp_X3_1 (by decide) (cl_11 _ _) (Nat.le_of_ble_eq_true rfl) rfl rfl rfl dX3_readAll_113 ?_
    refine gx_iload_n X 0 rfl dX3_readAll_116 ?_
    obtain ⟨rfl, rfl⟩ := ret_eq h
    exact gx_iret X rfl dX3_readAll_117
  · replace h := (if_neg q1).symm.trans h
    refine gx_aload_n X 1 rfl dX3_readAll_93 ?_
    refine gx_getf X (11) lf_X3_23 (by decide) (cl_11 _ _) (v := .ref (al (pgm (rdI g 11 3)))) rfl dX3_readAll_94 ?_
    refine gx_astore_n X [(3, .ref (al (pgm (rdI g 11 3)))), (2, .int (k0)), (0, .ref (al (11)))] dX3_readAll_97 (by decide) rfl ?_
    refine gx_aload_n X 2 rfl dX3_readAll_98 ?_
    refine gx_aload_n X 2 rfl dX3_readAll_99 ?_
    refine gx_getf X (11) lf_X3_27 (by decide) (cl_11 _ _) (v := .ref (al (pgm (rdI g 11 4)))) rfl dX3_readAll_100 ?_
    refine gx_putf X (11) (rdI g 11 4) lf_X3_23 lp_X3_3 (by decide) (cl_11 _ _) (Nat.le_of_ble_eq_true rfl) rfl rfl rfl dX3_readAll_103 ?_
    refine gx_aload_n X 2 rfl dX3_readAll_106 ?_
    refine gx_aload_n X 0 rfl dX3_readAll_107 ?_
    refine gx_putf X (11) (rdI g 11 3) lf_X3_27 lp_X3_4 (by decide) (cl_11 _ _) (Nat.le_of_ble_eq_true rfl) rfl rfl rfl dX3_readAll_108 ?_
    refine gx_aload_n X 2 rfl dX3_readAll_111 ?_
    refine gx_iconst X (v := (0 : Int32)) dX3_readAll_112 (by decide) ?_
    refine gx_putf X (11) (0 : Int32) lf_X3_13 lp_X3_1 (by decide) (cl_11 _ _) (Nat.le_of_ble_eq_true rfl) rfl rfl rfl dX3_readAll_113 ?_
    refine gx_iload_n X 1 rfl dX3_readAll_116 ?_
    obtain ⟨rfl, rfl⟩ := ret_eq h
    exact gx_iret X rfl dX3_readAll_117
def m_X3_readAll_65 (x1 : Int32) (g : Mm) : Option (Int32 × Mm) := (if x1 = (0 : Int32) then m_X3_readAll_88 (rdI g 11 2) g else (if (rdI g 11 2) = (rdI g 11 1) then m_X3_readAll_88 (-1 : Int32) g else m_X3_readAll_88 (rdI g 11 2) g))
set_option maxHeartbeats 2000000 in
theorem t_X3_readAll_65 {r2 : Int32} {g2 : Mm} (X : gx_X p R s m args meth c D al cI cJ A RX3 cX3_readAll 4 (some .int) d 0 0) (hd : 125 ≤ d) : ∀ (x1 : Int32) (g : Mm), m_X3_readAll_65 x1 g = some (r2, g2) → gx_G p l e R s m args below meth c (gx_Q below args s D al cI cJ A (some (.int r2)) g2) D al cI cJ A 4 0 0 65 [(0, .ref (al (11))), (1, .int (x1))] [] g := by
  intro x1 g h
  unfold m_X3_readAll_65 at h
  refine gx_iload_n X 1 rfl dX3_readAll_65 ?_
  refine gx_if_eq X 84 dX3_readAll_66 (by decide) (fun q1 => ?_) (fun q1 => ?_)
  · replace h := (if_pos q1).symm.trans h
    refine gx_aload_n X 0 rfl dX3_readAll_84 ?_
    refine gx_getf X (11) lf_X3_17 (by decide) (cl_11 _ _) (v := .int ((rdI g 11 2))) rfl dX3_readAll_85 ?_
    exact gx_sub [0] rfl (t_X3_readAll_88 X hd (rdI g 11 2) g h)
  · replace h := (if_neg q1).symm.trans h
    refine gx_aload_n X 0 rfl dX3_readAll_69 ?_
    refine gx_getf X (11) lf_X3_17 (by decide) (cl_11 _ _) (v := .int ((rdI g 11 2))) rfl dX3_readAll_70 ?_
    refine gx_aload_n X 0 rfl dX3_readAll_73 ?_
    refine gx_getf X (11) lf_X3_13 (by decide) (cl_11 _ _) (v := .int ((rdI g 11 1))) rfl dX3_readAll_74 ?_
    refine gx_icmp_ne X 84 dX3_readAll_77 (by decide) (fun q2 => ?_) (fun q2 => ?_)
    · replace h := (if_neg q2).symm.trans h
      refine gx_aload_n X 0 rfl dX3_readAll_84 ?_
      refine gx_getf X (11) lf_X3_17 (by decide) (cl_11 _ _) (v := .int ((rdI g 11 2))) rfl dX3_readAll_85 ?_
      exact gx_sub [0] rfl (t_X3_readAll_88 X hd (rdI g 11 2) g h)
    · replace h := (if_pos q2).symm.trans h
      refine gx_iconst X (v := (-1 : Int32)) dX3_readAll_80 (by decide) ?_
      refine gx_goto X 88 dX3_readAll_81 (by decide) ?_
      exact gx_sub [0] rfl (t_X3_readAll_88 X hd (-1 : Int32) g h)
def m_X3_readAll_18 : Nat → Int32 → Mm → Option (Int32 × Mm)
  | 0, _, _ => none
  | n + 1, x1, g => (if x1 = (0 : Int32) then m_X3_readAll_65 x1 g else (if (rdI g 11 1) ≤ (rdI g 11 2) then m_X3_readAll_65 x1 g else gdd (ixo (rdI g 11 2) 120) ((if (rdI g 12 (rdI g 11 2).toNatClampNeg) = (59 : Int32) then bdd (m_X3_readLine  (wrI g 11 2 ((rdI g 11 2) + (1 : Int32)))) (fun ra5 ga6 => m_X3_readAll_18 n ra5 ga6) else m_X3_readAll_65 x1 g))))
set_option maxHeartbeats 2000000 in
theorem t_X3_readAll_18 {r2 : Int32} {g2 : Mm} (X : gx_X p R s m args meth c D al cI cJ A RX3 cX3_readAll 4 (some .int) d 0 0) (hd : 125 ≤ d) : ∀ (n : Nat) (x1 : Int32) (g : Mm), m_X3_readAll_18 n x1 g = some (r2, g2) → gx_G p l e R s m args below meth c (gx_Q below args s D al cI cJ A (some (.int r2)) g2) D al cI cJ A 4 0 0 18 [(0, .ref (al (11))), (1, .int (x1))] [] g := by
  intro n
  induction n with
  | zero => intro x1 g h; cases h
  | succ n ih =>
    intro x1 g h
    rw [m_X3_readAll_18] at h
    refine gx_iload_n X 1 rfl dX3_readAll_18 ?_
    refine gx_if_eq X 65 dX3_readAll_19 (by decide) (fun q1 => ?_) (fun q1 => ?_)
    · replace h := (if_pos q1).symm.trans h
      exact gx_sub [0, 1] rfl (t_X3_readAll_65 X hd x1 g h)
    · replace h := (if_neg q1).symm.trans h
      refine gx_aload_n X 0 rfl dX3_readAll_22 ?_
      refine gx_getf X (11) lf_X3_17 (by decide) (cl_11 _ _) (v := .int ((rdI g 11 2))) rfl dX3_readAll_23 ?_
      refine gx_aload_n X 0 rfl dX3_readAll_26 ?_
      refine gx_getf X (11) lf_X3_13 (by decide) (cl_11 _ _) (v := .int ((rdI g 11 1))) rfl dX3_readAll_27 ?_
      refine gx_icmp_ge X 65 dX3_readAll_30 (by decide) (fun q2 => ?_) (fun q2 => ?_)
      · replace h := (if_pos q2).symm.trans h
        exact gx_sub [0, 1] rfl (t_X3_readAll_65 X hd x1 g h)
      · replace h := (if_neg q2).symm.trans h
        refine gx_aload_n X 0 rfl dX3_readAll_33 ?_
        refine gx_getf X (11) lf_X3_9 (by decide) (cl_11 _ _) (v := .ref (al (12))) rfl dX3_readAll_34 ?_
        refine gx_aload_n X 0 rfl dX3_readAll_37 ?_
        refine gx_getf X (11) lf_X3_17 (by decide) (cl_11 _ _) (v := .int ((rdI g 11 2))) rfl dX3_readAll_38 ?_
        obtain ⟨q3, h⟩ := gdd_eq h
        refine gx_iald X (12) 120 (by decide) (cl_12 _ _) q3 dX3_readAll_41 ?_
        refine gx_bipush X (v := (59 : Int32)) dX3_readAll_42 (by decide) ?_
        refine gx_icmp_ne X 65 dX3_readAll_44 (by decide) (fun q4 => ?_) (fun q4 => ?_)
        · replace h := (if_neg q4).symm.trans h
          exact gx_sub [0, 1] rfl (t_X3_readAll_65 X hd x1 g h)
        · replace h := (if_pos q4).symm.trans h
          refine gx_aload_n X 0 rfl dX3_readAll_47 ?_
          refine gx_dup X dX3_readAll_48 rfl ?_
          refine gx_getf X (11) lf_X3_17 (by decide) (cl_11 _ _) (v := .int ((rdI g 11 2))) rfl dX3_readAll_49 ?_
          refine gx_iconst X (v := (1 : Int32)) dX3_readAll_52 (by decide) ?_
          refine gx_iadd X dX3_readAll_53 ?_
          refine gx_putf X (11) ((rdI g 11 2) + (1 : Int32)) lf_X3_17 lp_X3_2 (by decide) (cl_11 _ _) (Nat.le_of_ble_eq_true rfl) rfl rfl rfl dX3_readAll_54 ?_
          refine gx_aload_n X 0 rfl dX3_readAll_57 ?_
          obtain ⟨ra5, ga6, ca7, h⟩ := bdd_eq h
          refine gx_callVi X (11) (c_X3_readLine ca7) lc_X3_readLine li_X3_readLine lm_X3_31 (by decide) (cl_11 _ _) rfl rfl rfl (Nat.le_trans (by decide) hd) rfl (Nat.le_of_ble_eq_true rfl) dX3_readAll_58 ?_
          refine gx_istore_n X [(1, .int (ra5)), (0, .ref (al (11)))] dX3_readAll_61 (by decide) rfl ?_
          refine gx_goto X 18 dX3_readAll_62 (by decide) ?_
          exact gx_sub [1, 0] rfl (ih ra5 ga6 h)
def m_X3_readAll (g : Mm) : Option (Int32 × Mm) := bdd (m_X3_readLine  (wrI (wrI g 11 2 (0 : Int32)) (pgm (rdI (wrI g 11 2 (0 : Int32)) 11 4)) 4 (0 : Int32))) (fun ra1 ga2 => m_X3_readAll_18 fuL ra1 ga2)
set_option maxHeartbeats 2000000 in
theorem c_X3_readAll {r2 : Int32} {g g2 : Mm} (h : m_X3_readAll g = some (r2, g2)) : gx_M 125 yX3_readAll cX3_readAll 4 (some .int) (fun al => [.ref (al (11))]) g (some (.int r2)) g2 := by
  have hd : 125 ≤ 125 := Nat.le_refl _
  refine gx_M.of (by decide +kernel) (fun _ => Nat.le_of_ble_eq_true rfl) ?_
  intro p l e R s m args below meth c D al cI cJ A X
  refine gx_eq (pc' := 0) (ls' := [(0, .ref (al (11)))]) (st' := []) (g' := g) ⟨rfl, rfl, rfl, rfl⟩ ?_
  unfold m_X3_readAll at h
  refine gx_aload_n X 0 rfl dX3_readAll_0 ?_
  refine gx_iconst X (v := (0 : Int32)) dX3_readAll_1 (by decide) ?_
  refine gx_putf X (11) (0 : Int32) lf_X3_17 lp_X3_2 (by decide) (cl_11 _ _) (Nat.le_of_ble_eq_true rfl) rfl rfl rfl dX3_readAll_2 ?_
  refine gx_aload_n X 0 rfl dX3_readAll_5 ?_
  refine gx_getf X (11) lf_X3_27 (by decide) (cl_11 _ _) (v := .ref (al (pgm (rdI (wrI g 11 2 (0 : Int32)) 11 4)))) rfl dX3_readAll_6 ?_
  refine gx_iconst X (v := (0 : Int32)) dX3_readAll_9 (by decide) ?_
  refine gx_putn X (pgm (rdI (wrI g 11 2 (0 : Int32)) 11 4)) (0 : Int32) lf_X3_30 lp_X4_4 (pg_lt _) (cl_pg _ _ _) (Nat.le_of_ble_eq_true rfl) rfl rfl (cl_pg _ _ _) dX3_readAll_10 ?_
  refine gx_aload_n X 0 rfl dX3_readAll_13 ?_
  obtain ⟨ra1, ga2, ca3, h⟩ := bdd_eq h
  refine gx_callVi X (11) (c_X3_readLine ca3) lc_X3_readLine li_X3_readLine lm_X3_31 (by decide) (cl_11 _ _) rfl rfl rfl (Nat.le_trans (by decide) hd) rfl (Nat.le_of_ble_eq_true rfl) dX3_readAll_14 ?_
  refine gx_istore_n X [(1, .int (ra1)), (0, .ref (al (11)))] dX3_readAll_17 (by decide) rfl ?_
  exact gx_sub [1, 0] rfl (t_X3_readAll_18 X hd fuL ra1 ga2 h)
end DC
