section DC
variable {p : Program} {l : Launch} {e : Env} {R : Room} {s : State} {m : MethodId} {args : Array Value} {below : List Frame} {meth : Method} {c : Code} {D : va_G} {al : Nat → Nat} {cI cJ : ClassId} {A : Nat → Prop} {d : Nat}
theorem dX10_line_0 : decode cX10_line 0 = .ok (.aload_n 0, 1) := by decide +kernel
theorem dX10_line_1 : decode cX10_line 1 = .ok (.iload_n 1, 1) := by decide +kernel
theorem dX10_line_2 : decode cX10_line 2 = .ok (.invokevirtual 100, 3) := by decide +kernel
theorem dX10_line_5 : decode cX10_line 5 = .ok (.ifCond .eq 32, 3) := by decide +kernel
theorem dX10_line_8 : decode cX10_line 8 = .ok (.iload_n 2, 1) := by decide +kernel
theorem dX10_line_9 : decode cX10_line 9 = .ok (.i2l, 1) := by decide +kernel
theorem dX10_line_10 : decode cX10_line 10 = .ok (.lconst 0, 1) := by decide +kernel
theorem dX10_line_11 : decode cX10_line 11 = .ok (.ldc2_w 222, 3) := by decide +kernel
theorem dX10_line_14 : decode cX10_line 14 = .ok (.invokestatic 92, 3) := by decide +kernel
theorem dX10_line_17 : decode cX10_line 17 = .ok (.ifCond .eq 20, 3) := by decide +kernel
theorem dX10_line_20 : decode cX10_line 20 = .ok (.iload_n 2, 1) := by decide +kernel
theorem dX10_line_21 : decode cX10_line 21 = .ok (.bipush 100, 2) := by decide +kernel
theorem dX10_line_23 : decode cX10_line 23 = .ok (.irem, 1) := by decide +kernel
theorem dX10_line_24 : decode cX10_line 24 = .ok (.i2l, 1) := by decide +kernel
theorem dX10_line_25 : decode cX10_line 25 = .ok (.ldc2_w 105, 3) := by decide +kernel
theorem dX10_line_28 : decode cX10_line 28 = .ok (.ldc2_w 224, 3) := by decide +kernel
theorem dX10_line_31 : decode cX10_line 31 = .ok (.invokestatic 92, 3) := by decide +kernel
theorem dX10_line_34 : decode cX10_line 34 = .ok (.ifCond .ne 5, 3) := by decide +kernel
theorem dX10_line_37 : decode cX10_line 37 = .ok (.iconst (-1), 1) := by decide +kernel
theorem dX10_line_38 : decode cX10_line 38 = .ok (.ireturn, 1) := by decide +kernel
theorem dX10_line_39 : decode cX10_line 39 = .ok (.aload_n 0, 1) := by decide +kernel
theorem dX10_line_40 : decode cX10_line 40 = .ok (.invokevirtual 111, 3) := by decide +kernel
theorem dX10_line_43 : decode cX10_line 43 = .ok (.iconst 0, 1) := by decide +kernel
theorem dX10_line_44 : decode cX10_line 44 = .ok (.istore_n 3, 1) := by decide +kernel
theorem dX10_line_45 : decode cX10_line 45 = .ok (.iload_n 3, 1) := by decide +kernel
theorem dX10_line_46 : decode cX10_line 46 = .ok (.aload_n 0, 1) := by decide +kernel
theorem dX10_line_47 : decode cX10_line 47 = .ok (.getfield 21, 3) := by decide +kernel
theorem dX10_line_50 : decode cX10_line 50 = .ok (.if_icmp .ge 64, 3) := by decide +kernel
theorem dX10_line_53 : decode cX10_line 53 = .ok (.iload_n 2, 1) := by decide +kernel
theorem dX10_line_54 : decode cX10_line 54 = .ok (.sipush 10000, 3) := by decide +kernel
theorem dX10_line_57 : decode cX10_line 57 = .ok (.idiv, 1) := by decide +kernel
theorem dX10_line_58 : decode cX10_line 58 = .ok (.iload_n 3, 1) := by decide +kernel
theorem dX10_line_59 : decode cX10_line 59 = .ok (.imul, 1) := by decide +kernel
theorem dX10_line_60 : decode cX10_line 60 = .ok (.iload_n 2, 1) := by decide +kernel
theorem dX10_line_61 : decode cX10_line 61 = .ok (.bipush 100, 2) := by decide +kernel
theorem dX10_line_63 : decode cX10_line 63 = .ok (.idiv, 1) := by decide +kernel
theorem dX10_line_64 : decode cX10_line 64 = .ok (.bipush 100, 2) := by decide +kernel
theorem dX10_line_66 : decode cX10_line 66 = .ok (.irem, 1) := by decide +kernel
theorem dX10_line_67 : decode cX10_line 67 = .ok (.iadd, 1) := by decide +kernel
theorem dX10_line_68 : decode cX10_line 68 = .ok (.iload_n 2, 1) := by decide +kernel
theorem dX10_line_69 : decode cX10_line 69 = .ok (.bipush 100, 2) := by decide +kernel
theorem dX10_line_71 : decode cX10_line 71 = .ok (.irem, 1) := by decide +kernel
theorem dX10_line_72 : decode cX10_line 72 = .ok (.irem, 1) := by decide +kernel
theorem dX10_line_73 : decode cX10_line 73 = .ok (.istore 4, 2) := by decide +kernel
theorem dX10_line_75 : decode cX10_line 75 = .ok (.aload_n 0, 1) := by decide +kernel
theorem dX10_line_76 : decode cX10_line 76 = .ok (.getfield 28, 3) := by decide +kernel
theorem dX10_line_79 : decode cX10_line 79 = .ok (.bipush 6, 2) := by decide +kernel
theorem dX10_line_81 : decode cX10_line 81 = .ok (.iload_n 3, 1) := by decide +kernel
theorem dX10_line_82 : decode cX10_line 82 = .ok (.imul, 1) := by decide +kernel
theorem dX10_line_83 : decode cX10_line 83 = .ok (.iload_n 1, 1) := by decide +kernel
theorem dX10_line_84 : decode cX10_line 84 = .ok (.iadd, 1) := by decide +kernel
theorem dX10_line_85 : decode cX10_line 85 = .ok (.iload 4, 2) := by decide +kernel
theorem dX10_line_87 : decode cX10_line 87 = .ok (.aload_n 0, 1) := by decide +kernel
theorem dX10_line_88 : decode cX10_line 88 = .ok (.getfield 9, 3) := by decide +kernel
theorem dX10_line_91 : decode cX10_line 91 = .ok (.iload_n 1, 1) := by decide +kernel
theorem dX10_line_92 : decode cX10_line 92 = .ok (.iaload, 1) := by decide +kernel
theorem dX10_line_93 : decode cX10_line 93 = .ok (.if_icmp .le 12, 3) := by decide +kernel
theorem dX10_line_96 : decode cX10_line 96 = .ok (.aload_n 0, 1) := by decide +kernel
theorem dX10_line_97 : decode cX10_line 97 = .ok (.getfield 9, 3) := by decide +kernel
theorem dX10_line_100 : decode cX10_line 100 = .ok (.iload_n 1, 1) := by decide +kernel
theorem dX10_line_101 : decode cX10_line 101 = .ok (.iaload, 1) := by decide +kernel
theorem dX10_line_102 : decode cX10_line 102 = .ok (.goto 5, 3) := by decide +kernel
theorem dX10_line_105 : decode cX10_line 105 = .ok (.iload 4, 2) := by decide +kernel
theorem dX10_line_107 : decode cX10_line 107 = .ok (.iastore, 1) := by decide +kernel
theorem dX10_line_108 : decode cX10_line 108 = .ok (.iinc 3 1, 3) := by decide +kernel
theorem dX10_line_111 : decode cX10_line 111 = .ok (.goto (-66), 3) := by decide +kernel
theorem dX10_line_114 : decode cX10_line 114 = .ok (.aload_n 0, 1) := by decide +kernel
theorem dX10_line_115 : decode cX10_line 115 = .ok (.iload_n 1, 1) := by decide +kernel
theorem dX10_line_116 : decode cX10_line 116 = .ok (.invokevirtual 226, 3) := by decide +kernel
theorem dX10_line_119 : decode cX10_line 119 = .ok (.ireturn, 1) := by decide +kernel
def m_X10_line_45 : Nat → Int32 → Int32 → Int32 → Mm → Option (Int32 × Mm)
  | 0, _, _, _, _ => none
  | n + 1, x1, x2, x3, g => (if (rdI g 40 5) ≤ x3 then bdd (m_X10_sumOf x1 g) (fun ra2 ga3 => some (ra2, ga3)) else gdd (decide (¬ (rmI x2 (100 : Int32)) = 0)) (lti (rmI (((x2 / (10000 : Int32)) * x3) + (rmI (x2 / (100 : Int32)) (100 : Int32))) (rmI x2 (100 : Int32))) (fun v6 => gdd (ixo x1 6) ((if v6 ≤ (rdI g 41 x1.toNatClampNeg) then gdd (ixo (((6 : Int32) * x3) + x1) 144) (m_X10_line_45 n x1 x2 (x3 + (1 : Int32)) (wrI g 44 (((6 : Int32) * x3) + x1).toNatClampNeg v6)) else gdd (ixo x1 6) (gdd (ixo (((6 : Int32) * x3) + x1) 144) (m_X10_line_45 n x1 x2 (x3 + (1 : Int32)) (wrI g 44 (((6 : Int32) * x3) + x1).toNatClampNeg (rdI g 41 x1.toNatClampNeg)))))))))
set_option maxHeartbeats 2000000 in
theorem t_X10_line_45 {r2 : Int32} {g2 : Mm} (X : gx_X p R s m args meth c D al cI cJ A RX10 cX10_line 5 (some .int) d 0 0) (hd : 3 ≤ d) : ∀ (n : Nat) (x1 : Int32) (x2 : Int32) (x3 : Int32) (g : Mm), m_X10_line_45 n x1 x2 x3 g = some (r2, g2) → gx_G p l e R s m args below meth c (gx_Q below args s D al cI cJ A (some (.int r2)) g2) D al cI cJ A 5 0 0 45 [(0, .ref (al (40))), (1, .int (x1)), (2, .int (x2)), (3, .int (x3))] [] g := by
  intro n
  induction n with
  | zero => intro x1 x2 x3 g h; cases h
  | succ n ih =>
    intro x1 x2 x3 g h
    rw [m_X10_line_45] at h
    refine gx_iload_n X 3 rfl dX10_line_45 ?_
    refine gx_aload_n X 0 rfl dX10_line_46 ?_
    refine gx_getf X (40) lf_X10_21 (by decide) (cl_40 _ _) (v := .int ((rdI g 40 5))) rfl dX10_line_47 ?_
    refine gx_icmp_ge X 114 dX10_line_50 (by decide) (fun q1 => ?_) (fun q1 => ?_)
    · replace h := (if_pos q1).symm.trans h
      refine gx_aload_n X 0 rfl dX10_line_114 ?_
      refine gx_iload_n X 1 rfl dX10_line_115 ?_
      obtain ⟨ra2, ga3, ca4, h⟩ := bdd_eq h
      refine gx_callVi X (40) (c_X10_sumOf ca4) lc_X10_sumOf li_X10_sumOf lm_X10_226 (by decide) (cl_40 _ _) rfl rfl rfl (Nat.le_trans (by decide) hd) rfl (Nat.le_of_ble_eq_true rfl) dX10_line_116 ?_
      obtain ⟨rfl, rfl⟩ := ret_eq h
      exact gx_iret X rfl dX10_line_119
    · replace h := (if_neg q1).symm.trans h
      refine gx_iload_n X 2 rfl dX10_line_53 ?_
      refine gx_sipush X (v := (10000 : Int32)) dX10_line_54 (by decide) ?_
      refine gx_idiv X dX10_line_57 (by decide) ?_
      refine gx_iload_n X 3 rfl dX10_line_58 ?_
      refine gx_imul X dX10_line_59 ?_
      refine gx_iload_n X 2 rfl dX10_line_60 ?_
      refine gx_bipush X (v := (100 : Int32)) dX10_line_61 (by decide) ?_
      refine gx_idiv X dX10_line_63 (by decide) ?_
      refine gx_bipush X (v := (100 : Int32)) dX10_line_64 (by decide) ?_
      refine gx_irem X dX10_line_66 (by decide) ?_
      refine gx_iadd X dX10_line_67 ?_
      refine gx_iload_n X 2 rfl dX10_line_68 ?_
      refine gx_bipush X (v := (100 : Int32)) dX10_line_69 (by decide) ?_
      refine gx_irem X dX10_line_71 (by decide) ?_
      obtain ⟨q5, h⟩ := gdd_eq h
      refine gx_irem X dX10_line_72 (of_decide_eq_true q5) ?_
      obtain ⟨v6, ev6, h⟩ := lti_eq h
      refine gx_topi ev6 ?_
      refine gx_istore X [(4, .int (v6)), (0, .ref (al (40))), (1, .int (x1)), (2, .int (x2)), (3, .int (x3))] dX10_line_73 (by decide) rfl ?_
      refine gx_aload_n X 1 rfl dX10_line_75 ?_
      refine gx_getf X (40) lf_X10_28 (by decide) (cl_40 _ _) (v := .ref (al (44))) rfl dX10_line_76 ?_
      refine gx_bipush X (v := (6 : Int32)) dX10_line_79 (by decide) ?_
      refine gx_iload_n X 4 rfl dX10_line_81 ?_
      refine gx_imul X dX10_line_82 ?_
      refine gx_iload_n X 2 rfl dX10_line_83 ?_
      refine gx_iadd X dX10_line_84 ?_
      refine gx_iload X 0 rfl dX10_line_85 ?_
      refine gx_aload_n X 1 rfl dX10_line_87 ?_
      refine gx_getf X (40) lf_X10_9 (by decide) (cl_40 _ _) (v := .ref (al (41))) rfl dX10_line_88 ?_
      refine gx_iload_n X 2 rfl dX10_line_91 ?_
      obtain ⟨q7, h⟩ := gdd_eq h
      refine gx_iald X (41) 6 (by decide) (cl_41 _ _) q7 dX10_line_92 ?_
      refine gx_icmp_le X 105 dX10_line_93 (by decide) (fun q8 => ?_) (fun q8 => ?_)
      · replace h := (if_pos q8).symm.trans h
        refine gx_iload X 0 rfl dX10_line_105 ?_
        obtain ⟨q9, h⟩ := gdd_eq h
        refine gx_iast X (44) 144 (by decide) (fun r => cl_44 r _) q9 dX10_line_107 ?_
        refine gx_iinc X [(3, .int ((x3 + (1 : Int32)))), (4, .int (v6)), (0, .ref (al (40))), (1, .int (x1)), (2, .int (x2))] 4 dX10_line_108 rfl rfl (by decide) rfl ?_
        refine gx_goto X 45 dX10_line_111 (by decide) ?_
        exact gx_sub [2, 3, 4, 0] rfl (ih x1 x2 (x3 + (1 : Int32)) (wrI g 44 (((6 : Int32) * x3) + x1).toNatClampNeg v6) h)
      · replace h := (if_neg q8).symm.trans h
        refine gx_aload_n X 1 rfl dX10_line_96 ?_
        refine gx_getf X (40) lf_X10_9 (by decide) (cl_40 _ _) (v := .ref (al (41))) rfl dX10_line_97 ?_
        refine gx_iload_n X 2 rfl dX10_line_100 ?_
        obtain ⟨q10, h⟩ := gdd_eq h
        refine gx_iald X (41) 6 (by decide) (cl_41 _ _) q10 dX10_line_101 ?_
        refine gx_goto X 107 dX10_line_102 (by decide) ?_
        obtain ⟨q11, h⟩ := gdd_eq h
        refine gx_iast X (44) 144 (by decide) (fun r => cl_44 r _) q11 dX10_line_107 ?_
        refine gx_iinc X [(3, .int ((x3 + (1 : Int32)))), (4, .int (v6)), (0, .ref (al (40))), (1, .int (x1)), (2, .int (x2))] 4 dX10_line_108 rfl rfl (by decide) rfl ?_
        refine gx_goto X 45 dX10_line_111 (by decide) ?_
        exact gx_sub [2, 3, 4, 0] rfl (ih x1 x2 (x3 + (1 : Int32)) (wrI g 44 (((6 : Int32) * x3) + x1).toNatClampNeg (rdI g 41 x1.toNatClampNeg)) h)
def m_X10_line (a1 : Int32) (a2 : Int32) (g : Mm) : Option (Int32 × Mm) := bdd (m_X10_isBell a1 g) (fun ra1 ga2 => (if ra1 = (0 : Int32) then some ((-1 : Int32), ga2) else bdd (m_X10_in (a2.toInt64) (0 : Int64) (999999 : Int64) ga2) (fun ra5 ga6 => (if ra5 = (0 : Int32) then some ((-1 : Int32), ga6) else bdd (m_X10_in ((rmI a2 (100 : Int32)).toInt64) (2 : Int64) (16 : Int64) ga6) (fun ra9 ga10 => (if ra9 = (0 : Int32) then some ((-1 : Int32), ga10) else bdd (m_X10_forgets  ga10) (fun ra13 ga14 => m_X10_line_45 fuL a1 a2 (0 : Int32) ga14)))))))
set_option maxHeartbeats 2000000 in
theorem c_X10_line {r2 : Int32} {g g2 : Mm} {a1 : Int32} {a2 : Int32} (h : m_X10_line a1 a2 g = some (r2, g2)) : gx_M 3 yX10_line cX10_line 5 (some .int) (fun al => [.ref (al (40)), .int (a1), .int (a2)]) g (some (.int r2)) g2 := by
  have hd : 3 ≤ 3 := Nat.le_refl _
  refine gx_M.of (by decide +kernel) (fun _ => Nat.le_of_ble_eq_true rfl) ?_
  intro p l e R s m args below meth c D al cI cJ A X
  refine gx_eq (pc' := 0) (ls' := [(0, .ref (al (40))), (1, .int (a1)), (2, .int (a2))]) (st' := []) (g' := g) ⟨rfl, rfl, rfl, rfl⟩ ?_
  unfold m_X10_line at h
  refine gx_aload_n X 0 rfl dX10_line_0 ?_
  refine gx_iload_n X 1 rfl dX10_line_1 ?_
  obtain ⟨ra1, ga2, ca3, h⟩ := bdd_eq h
  refine gx_callVi X (40) (c_X10_isBell ca3) lc_X10_isBell li_X10_isBell lm_X10_100 (by decide) (cl_40 _ _) rfl rfl rfl (Nat.le_trans (by decide) hd) rfl (Nat.le_of_ble_eq_true rfl) dX10_line_2 ?_
  refine gx_if_eq X 37 dX10_line_5 (by decide) (fun q4 => ?_) (fun q4 => ?_)
  · replace h := (if_pos q4).symm.trans h
    refine gx_iconst X (v := (-1 : Int32)) dX10_line_37 (by decide) ?_
    obtain ⟨rfl, rfl⟩ := ret_eq h
    exact gx_iret X rfl dX10_line_38
  · replace h := (if_neg q4).symm.trans h
    refine gx_iload_n X 2 rfl dX10_line_8 ?_
    refine gx_i2l X dX10_line_9 ?_
    refine gx_lconst X (v := (0 : Int64)) dX10_line_10 (by decide) ?_
    refine gx_ldc2 X (v := (999999 : Int64)) lk_X10_222 dX10_line_11 ?_
    obtain ⟨ra5, ga6, ca7, h⟩ := bdd_eq h
    refine gx_callSi X (c_X10_in ca7) lc_X10_in li_X10_in lm_X10_92 rfl rfl (Nat.le_trans (by decide) hd) rfl (Nat.le_of_ble_eq_true rfl) dX10_line_14 ?_
    refine gx_if_eq X 37 dX10_line_17 (by decide) (fun q8 => ?_) (fun q8 => ?_)
    · replace h := (if_pos q8).symm.trans h
      refine gx_iconst X (v := (-1 : Int32)) dX10_line_37 (by decide) ?_
      obtain ⟨rfl, rfl⟩ := ret_eq h
      exact gx_iret X rfl dX10_line_38
    · replace h := (if_neg q8).symm.trans h
      refine gx_iload_n X 2 rfl dX10_line_20 ?_
      refine gx_bipush X (v := (100 : Int32)) dX10_line_21 (by decide) ?_
      refine gx_irem X dX10_line_23 (by decide) ?_
      refine gx_i2l X dX10_line_24 ?_
      refine gx_ldc2 X (v := (2 : Int64)) lk_X10_105 dX10_line_25 ?_
      refine gx_ldc2 X (v := (16 : Int64)) lk_X10_224 dX10_line_28 ?_
      obtain ⟨ra9, ga10, ca11, h⟩ := bdd_eq h
      refine gx_callSi X (c_X10_in ca11) lc_X10_in li_X10_in lm_X10_92 rfl rfl (Nat.le_trans (by decide) hd) rfl (Nat.le_of_ble_eq_true rfl) dX10_line_31 ?_
      refine gx_if_ne X 39 dX10_line_34 (by decide) (fun q12 => ?_) (fun q12 => ?_)
      · replace h := (if_neg q12).symm.trans h
        refine gx_aload_n X 0 rfl dX10_line_39 ?_
        obtain ⟨ra13, ga14, ca15, h⟩ := bdd_eq h
        refine gx_callVv X (40) (c_X10_forgets ca15) lc_X10_forgets li_X10_forgets lm_X10_111 (by decide) (cl_40 _ _) rfl rfl rfl (Nat.le_trans (by decide) hd) rfl (Nat.le_of_ble_eq_true rfl) dX10_line_40 ?_
        refine gx_iconst X (v := (0 : Int32)) dX10_line_43 (by decide) ?_
        refine gx_istore_n X [(3, .int ((0 : Int32))), (0, .ref (al (40))), (1, .int (a1)), (2, .int (a2))] dX10_line_44 (by decide) rfl ?_
        exact gx_sub [1, 2, 3, 0] rfl (t_X10_line_45 X hd fuL a1 a2 (0 : Int32) ga14 h)
      · replace h := (if_pos q12).symm.trans h
        refine gx_iconst X (v := (-1 : Int32)) dX10_line_37 (by decide) ?_
        obtain ⟨rfl, rfl⟩ := ret_eq h
        exact gx_iret X rfl dX10_line_38
theorem dX10_lowest_0 : decode cX10_lowest 0 = .ok (.lload_n 0, 1) := by decide +kernel
theorem dX10_lowest_1 : decode cX10_lowest 1 = .ok (.lstore 5, 2) := by decide +kernel
theorem dX10_lowest_3 : decode cX10_lowest 3 = .ok (.lload_n 2, 1) := by decide +kernel
theorem dX10_lowest_4 : decode cX10_lowest 4 = .ok (.lstore 7, 2) := by decide +kernel
theorem dX10_lowest_6 : decode cX10_lowest 6 = .ok (.lload 7, 2) := by decide +kernel
theorem dX10_lowest_8 : decode cX10_lowest 8 = .ok (.lconst 0, 1) := by decide +kernel
theorem dX10_lowest_9 : decode cX10_lowest 9 = .ok (.lcmp, 1) := by decide +kernel
theorem dX10_lowest_10 : decode cX10_lowest 10 = .ok (.ifCond .eq 21, 3) := by decide +kernel
theorem dX10_lowest_13 : decode cX10_lowest 13 = .ok (.lload 5, 2) := by decide +kernel
theorem dX10_lowest_15 : decode cX10_lowest 15 = .ok (.lload 7, 2) := by decide +kernel
theorem dX10_lowest_17 : decode cX10_lowest 17 = .ok (.lrem, 1) := by decide +kernel
theorem dX10_lowest_18 : decode cX10_lowest 18 = .ok (.lstore 9, 2) := by decide +kernel
theorem dX10_lowest_20 : decode cX10_lowest 20 = .ok (.lload 7, 2) := by decide +kernel
theorem dX10_lowest_22 : decode cX10_lowest 22 = .ok (.lstore 5, 2) := by decide +kernel
theorem dX10_lowest_24 : decode cX10_lowest 24 = .ok (.lload 9, 2) := by decide +kernel
theorem dX10_lowest_26 : decode cX10_lowest 26 = .ok (.lstore 7, 2) := by decide +kernel
theorem dX10_lowest_28 : decode cX10_lowest 28 = .ok (.goto (-22), 3) := by decide +kernel
theorem dX10_lowest_31 : decode cX10_lowest 31 = .ok (.iload 4, 2) := by decide +kernel
theorem dX10_lowest_33 : decode cX10_lowest 33 = .ok (.ifCond .ne 10, 3) := by decide +kernel
theorem dX10_lowest_36 : decode cX10_lowest 36 = .ok (.lload_n 0, 1) := by decide +kernel
theorem dX10_lowest_37 : decode cX10_lowest 37 = .ok (.lload 5, 2) := by decide +kernel
theorem dX10_lowest_39 : decode cX10_lowest 39 = .ok (.ldiv, 1) := by decide +kernel
theorem dX10_lowest_40 : decode cX10_lowest 40 = .ok (.goto 7, 3) := by decide +kernel
theorem dX10_lowest_43 : decode cX10_lowest 43 = .ok (.lload_n 2, 1) := by decide +kernel
theorem dX10_lowest_44 : decode cX10_lowest 44 = .ok (.lload 5, 2) := by decide +kernel
theorem dX10_lowest_46 : decode cX10_lowest 46 = .ok (.ldiv, 1) := by decide +kernel
theorem dX10_lowest_47 : decode cX10_lowest 47 = .ok (.lreturn, 1) := by decide +kernel
def m_X10_lowest_6 : Nat → Int64 → Int64 → Int32 → Int64 → Int64 → Mm → Option (Int64 × Mm)
  | 0, _, _, _, _, _, _ => none
  | n + 1, x0, x2, x4, x5, x7, g => (if (lg_cmp x7 (0 : Int64)) = (0 : Int32) then (if x4 = (0 : Int32) then gdd (decide (¬ x5 = 0)) (some ((x0 / x5), g)) else gdd (decide (¬ x5 = 0)) (some ((x2 / x5), g))) else gdd (decide (¬ x7 = 0)) (m_X10_lowest_6 n x0 x2 x4 x7 (rmL x5 x7) g))
set_option maxHeartbeats 2000000 in
theorem t_X10_lowest_6 {r2 : Int64} {g2 : Mm} (X : gx_X p R s m args meth c D al cI cJ A RX10 cX10_lowest 11 (some .long) d 0 0) (hd : 1 ≤ d) : ∀ (n : Nat) (x0 : Int64) (x2 : Int64) (x4 : Int32) (x5 : Int64) (x7 : Int64) (g : Mm), m_X10_lowest_6 n x0 x2 x4 x5 x7 g = some (r2, g2) → gx_G p l e R s m args below meth c (gx_Q below args s D al cI cJ A (some (.long r2)) g2) D al cI cJ A 11 0 0 6 [(0, .long (x0)), (2, .long (x2)), (4, .int (x4)), (5, .long (x5)), (7, .long (x7))] [] g := by
  intro n
  induction n with
  | zero => intro x0 x2 x4 x5 x7 g h; cases h
  | succ n ih =>
    intro x0 x2 x4 x5 x7 g h
    rw [m_X10_lowest_6] at h
    refine gx_lload X 4 rfl dX10_lowest_6 ?_
    refine gx_lconst X (v := (0 : Int64)) dX10_lowest_8 (by decide) ?_
    refine gx_lcmp X dX10_lowest_9 ?_
    refine gx_if_eq X 31 dX10_lowest_10 (by decide) (fun q1 => ?_) (fun q1 => ?_)
    · replace h := (if_pos q1).symm.trans h
      refine gx_iload X 2 rfl dX10_lowest_31 ?_
      refine gx_if_ne X 43 dX10_lowest_33 (by decide) (fun q2 => ?_) (fun q2 => ?_)
      · replace h := (if_neg q2).symm.trans h
        refine gx_lload_n X 1 rfl dX10_lowest_43 ?_
        refine gx_lload X 3 rfl dX10_lowest_44 ?_
        obtain ⟨q3, h⟩ := gdd_eq h
        refine gx_ldiv X dX10_lowest_46 (of_decide_eq_true q3) ?_
        obtain ⟨rfl, rfl⟩ := ret_eq h
        exact gx_lret X dX10_lowest_47
      · replace h := (if_pos q2).symm.trans h
        refine gx_lload_n X 0 rfl dX10_lowest_36 ?_
        refine gx_lload X 3 rfl dX10_lowest_37 ?_
        obtain ⟨q4, h⟩ := gdd_eq h
        refine gx_ldiv X dX10_lowest_39 (of_decide_eq_true q4) ?_
        refine gx_goto X 47 dX10_lowest_40 (by decide) ?_
        obtain ⟨rfl, rfl⟩ := ret_eq h
        exact gx_lret X dX10_lowest_47
    · replace h := (if_neg q1).symm.trans h
      refine gx_lload X 3 rfl dX10_lowest_13 ?_
      refine gx_lload X 4 rfl dX10_lowest_15 ?_
      obtain ⟨q5, h⟩ := gdd_eq h
      refine gx_lrem X dX10_lowest_17 (of_decide_eq_true q5) ?_
      refine gx_lstore X [(9, .long ((rmL x5 x7))), (0, .long (x0)), (2, .long (x2)), (4, .int (x4)), (5, .long (x5)), (7, .long (x7))] dX10_lowest_18 (by decide) rfl ?_
      refine gx_lload X 5 rfl dX10_lowest_20 ?_
      refine gx_lstore X [(5, .long (x7)), (9, .long ((rmL x5 x7))), (0, .long (x0)), (2, .long (x2)), (4, .int (x4)), (7, .long (x7))] dX10_lowest_22 (by decide) rfl ?_
      refine gx_lload X 1 rfl dX10_lowest_24 ?_
      refine gx_lstore X [(7, .long ((rmL x5 x7))), (5, .long (x7)), (9, .long ((rmL x5 x7))), (0, .long (x0)), (2, .long (x2)), (4, .int (x4))] dX10_lowest_26 (by decide) rfl ?_
      refine gx_goto X 6 dX10_lowest_28 (by decide) ?_
      exact gx_sub [3, 4, 5, 1, 0] rfl (ih x0 x2 x4 x7 (rmL x5 x7) g h)
def m_X10_lowest (a0 : Int64) (a2 : Int64) (a4 : Int32) (g : Mm) : Option (Int64 × Mm) := m_X10_lowest_6 fuL a0 a2 a4 a0 a2 g
set_option maxHeartbeats 2000000 in
theorem c_X10_lowest {r2 : Int64} {g g2 : Mm} {a0 : Int64} {a2 : Int64} {a4 : Int32} (h : m_X10_lowest a0 a2 a4 g = some (r2, g2)) : gx_M 1 yX10_lowest cX10_lowest 11 (some .long) (fun al => [.long (a0), .long (a2), .int (a4)]) g (some (.long r2)) g2 := by
  have hd : 1 ≤ 1 := Nat.le_refl _
  refine gx_M.of (by decide +kernel) (fun _ => Nat.le_of_ble_eq_true rfl) ?_
  intro p l e R s m args below meth c D al cI cJ A X
  refine gx_eq (pc' := 0) (ls' := [(0, .long (a0)), (2, .long (a2)), (4, .int (a4))]) (st' := []) (g' := g) ⟨rfl, rfl, rfl, rfl⟩ ?_
  unfold m_X10_lowest at h
  refine gx_lload_n X 0 rfl dX10_lowest_0 ?_
  refine gx_lstore X [(5, .long (a0)), (0, .long (a0)), (2, .long (a2)), (4, .int (a4))] dX10_lowest_1 (by decide) rfl ?_
  refine gx_lload_n X 2 rfl dX10_lowest_3 ?_
  refine gx_lstore X [(7, .long (a2)), (5, .long (a0)), (0, .long (a0)), (2, .long (a2)), (4, .int (a4))] dX10_lowest_4 (by decide) rfl ?_
  exact gx_sub [2, 3, 4, 1, 0] rfl (t_X10_lowest_6 X hd fuL a0 a2 a4 a0 a2 g h)
theorem dX10_mix_0 : decode cX10_mix 0 = .ok (.aload_n 0, 1) := by decide +kernel
theorem dX10_mix_1 : decode cX10_mix 1 = .ok (.iload_n 1, 1) := by decide +kernel
theorem dX10_mix_2 : decode cX10_mix 2 = .ok (.invokevirtual 131, 3) := by decide +kernel
theorem dX10_mix_5 : decode cX10_mix 5 = .ok (.ifCond .eq 13, 3) := by decide +kernel
theorem dX10_mix_8 : decode cX10_mix 8 = .ok (.iload_n 2, 1) := by decide +kernel
theorem dX10_mix_9 : decode cX10_mix 9 = .ok (.i2l, 1) := by decide +kernel
theorem dX10_mix_10 : decode cX10_mix 10 = .ok (.lconst 0, 1) := by decide +kernel
theorem dX10_mix_11 : decode cX10_mix 11 = .ok (.lconst 1, 1) := by decide +kernel
theorem dX10_mix_12 : decode cX10_mix 12 = .ok (.invokestatic 92, 3) := by decide +kernel
theorem dX10_mix_15 : decode cX10_mix 15 = .ok (.ifCond .ne 5, 3) := by decide +kernel
theorem dX10_mix_18 : decode cX10_mix 18 = .ok (.iconst (-1), 1) := by decide +kernel
theorem dX10_mix_19 : decode cX10_mix 19 = .ok (.ireturn, 1) := by decide +kernel
theorem dX10_mix_20 : decode cX10_mix 20 = .ok (.iload_n 1, 1) := by decide +kernel
theorem dX10_mix_21 : decode cX10_mix 21 = .ok (.bipush 100, 2) := by decide +kernel
theorem dX10_mix_23 : decode cX10_mix 23 = .ok (.idiv, 1) := by decide +kernel
theorem dX10_mix_24 : decode cX10_mix 24 = .ok (.istore_n 3, 1) := by decide +kernel
theorem dX10_mix_25 : decode cX10_mix 25 = .ok (.iload_n 1, 1) := by decide +kernel
theorem dX10_mix_26 : decode cX10_mix 26 = .ok (.bipush 100, 2) := by decide +kernel
theorem dX10_mix_28 : decode cX10_mix 28 = .ok (.irem, 1) := by decide +kernel
theorem dX10_mix_29 : decode cX10_mix 29 = .ok (.istore 4, 2) := by decide +kernel
theorem dX10_mix_31 : decode cX10_mix 31 = .ok (.aload_n 0, 1) := by decide +kernel
theorem dX10_mix_32 : decode cX10_mix 32 = .ok (.getfield 31, 3) := by decide +kernel
theorem dX10_mix_35 : decode cX10_mix 35 = .ok (.iload_n 3, 1) := by decide +kernel
theorem dX10_mix_36 : decode cX10_mix 36 = .ok (.iaload, 1) := by decide +kernel
theorem dX10_mix_37 : decode cX10_mix 37 = .ok (.iload 4, 2) := by decide +kernel
theorem dX10_mix_39 : decode cX10_mix 39 = .ok (.ishr, 1) := by decide +kernel
theorem dX10_mix_40 : decode cX10_mix 40 = .ok (.iconst 1, 1) := by decide +kernel
theorem dX10_mix_41 : decode cX10_mix 41 = .ok (.iand, 1) := by decide +kernel
theorem dX10_mix_42 : decode cX10_mix 42 = .ok (.istore 5, 2) := by decide +kernel
theorem dX10_mix_44 : decode cX10_mix 44 = .ok (.aload_n 0, 1) := by decide +kernel
theorem dX10_mix_45 : decode cX10_mix 45 = .ok (.getfield 31, 3) := by decide +kernel
theorem dX10_mix_48 : decode cX10_mix 48 = .ok (.iload_n 3, 1) := by decide +kernel
theorem dX10_mix_49 : decode cX10_mix 49 = .ok (.aload_n 0, 1) := by decide +kernel
theorem dX10_mix_50 : decode cX10_mix 50 = .ok (.getfield 31, 3) := by decide +kernel
theorem dX10_mix_53 : decode cX10_mix 53 = .ok (.iload_n 3, 1) := by decide +kernel
theorem dX10_mix_54 : decode cX10_mix 54 = .ok (.iaload, 1) := by decide +kernel
theorem dX10_mix_55 : decode cX10_mix 55 = .ok (.iconst 1, 1) := by decide +kernel
theorem dX10_mix_56 : decode cX10_mix 56 = .ok (.iload 4, 2) := by decide +kernel
theorem dX10_mix_58 : decode cX10_mix 58 = .ok (.ishl, 1) := by decide +kernel
theorem dX10_mix_59 : decode cX10_mix 59 = .ok (.iconst (-1), 1) := by decide +kernel
theorem dX10_mix_60 : decode cX10_mix 60 = .ok (.ixor, 1) := by decide +kernel
theorem dX10_mix_61 : decode cX10_mix 61 = .ok (.iand, 1) := by decide +kernel
theorem dX10_mix_62 : decode cX10_mix 62 = .ok (.iload_n 2, 1) := by decide +kernel
theorem dX10_mix_63 : decode cX10_mix 63 = .ok (.iload 4, 2) := by decide +kernel
theorem dX10_mix_65 : decode cX10_mix 65 = .ok (.ishl, 1) := by decide +kernel
theorem dX10_mix_66 : decode cX10_mix 66 = .ok (.ior, 1) := by decide +kernel
theorem dX10_mix_67 : decode cX10_mix 67 = .ok (.iastore, 1) := by decide +kernel
theorem dX10_mix_68 : decode cX10_mix 68 = .ok (.aload_n 0, 1) := by decide +kernel
theorem dX10_mix_69 : decode cX10_mix 69 = .ok (.getfield 31, 3) := by decide +kernel
theorem dX10_mix_72 : decode cX10_mix 72 = .ok (.iload 4, 2) := by decide +kernel
theorem dX10_mix_74 : decode cX10_mix 74 = .ok (.aload_n 0, 1) := by decide +kernel
theorem dX10_mix_75 : decode cX10_mix 75 = .ok (.getfield 31, 3) := by decide +kernel
theorem dX10_mix_78 : decode cX10_mix 78 = .ok (.iload 4, 2) := by decide +kernel
theorem dX10_mix_80 : decode cX10_mix 80 = .ok (.iaload, 1) := by decide +kernel
theorem dX10_mix_81 : decode cX10_mix 81 = .ok (.iconst 1, 1) := by decide +kernel
theorem dX10_mix_82 : decode cX10_mix 82 = .ok (.iload_n 3, 1) := by decide +kernel
theorem dX10_mix_83 : decode cX10_mix 83 = .ok (.ishl, 1) := by decide +kernel
theorem dX10_mix_84 : decode cX10_mix 84 = .ok (.iconst (-1), 1) := by decide +kernel
theorem dX10_mix_85 : decode cX10_mix 85 = .ok (.ixor, 1) := by decide +kernel
theorem dX10_mix_86 : decode cX10_mix 86 = .ok (.iand, 1) := by decide +kernel
theorem dX10_mix_87 : decode cX10_mix 87 = .ok (.iload_n 2, 1) := by decide +kernel
theorem dX10_mix_88 : decode cX10_mix 88 = .ok (.iload_n 3, 1) := by decide +kernel
theorem dX10_mix_89 : decode cX10_mix 89 = .ok (.ishl, 1) := by decide +kernel
theorem dX10_mix_90 : decode cX10_mix 90 = .ok (.ior, 1) := by decide +kernel
theorem dX10_mix_91 : decode cX10_mix 91 = .ok (.iastore, 1) := by decide +kernel
theorem dX10_mix_92 : decode cX10_mix 92 = .ok (.iload 5, 2) := by decide +kernel
theorem dX10_mix_94 : decode cX10_mix 94 = .ok (.ireturn, 1) := by decide +kernel
def m_X10_mix (a1 : Int32) (a2 : Int32) (g : Mm) : Option (Int32 × Mm) := bdd (m_X10_isPair a1 g) (fun ra1 ga2 => (if ra1 = (0 : Int32) then some ((-1 : Int32), ga2) else bdd (m_X10_in (a2.toInt64) (0 : Int64) (1 : Int64) ga2) (fun ra5 ga6 => (if ra5 = (0 : Int32) then some ((-1 : Int32), ga6) else gdd (ixo (a1 / (100 : Int32)) 24) (lti ((shrI (rdI ga6 45 (a1 / (100 : Int32)).toNatClampNeg) (rmI a1 (100 : Int32))) &&& (1 : Int32)) (fun v10 => gdd (ixo (a1 / (100 : Int32)) 24) (gdd (ixo (a1 / (100 : Int32)) 24) (gdd (ixo (rmI a1 (100 : Int32)) 24) (gdd (ixo (rmI a1 (100 : Int32)) 24) (some (v10, (wrI (wrI ga6 45 (a1 / (100 : Int32)).toNatClampNeg (((rdI ga6 45 (a1 / (100 : Int32)).toNatClampNeg) &&& ((shlI (1 : Int32) (rmI a1 (100 : Int32))) ^^^ (-1 : Int32))) ||| (shlI a2 (rmI a1 (100 : Int32))))) 45 (rmI a1 (100 : Int32)).toNatClampNeg (((rdI (wrI ga6 45 (a1 / (100 : Int32)).toNatClampNeg (((rdI ga6 45 (a1 / (100 : Int32)).toNatClampNeg) &&& ((shlI (1 : Int32) (rmI a1 (100 : Int32))) ^^^ (-1 : Int32))) ||| (shlI a2 (rmI a1 (100 : Int32))))) 45 (rmI a1 (100 : Int32)).toNatClampNeg) &&& ((shlI (1 : Int32) (a1 / (100 : Int32))) ^^^ (-1 : Int32))) ||| (shlI a2 (a1 / (100 : Int32))))))))))))))))
set_option maxHeartbeats 2000000 in
theorem c_X10_mix {r2 : Int32} {g g2 : Mm} {a1 : Int32} {a2 : Int32} (h : m_X10_mix a1 a2 g = some (r2, g2)) : gx_M 4 yX10_mix cX10_mix 6 (some .int) (fun al => [.ref (al (40)), .int (a1), .int (a2)]) g (some (.int r2)) g2 := by
  have hd : 4 ≤ 4 := Nat.le_refl _
  refine gx_M.of (by decide +kernel) (fun _ => Nat.le_of_ble_eq_true rfl) ?_
  intro p l e R s m args below meth c D al cI cJ A X
  refine gx_eq (pc' := 0) (ls' := [(0, .ref (al (40))), (1, .int (a1)), (2, .int (a2))]) (st' := []) (g' := g) ⟨rfl, rfl, rfl, rfl⟩ ?_
  unfold m_X10_mix at h
  refine gx_aload_n X 0 rfl dX10_mix_0 ?_
  refine gx_iload_n X 1 rfl dX10_mix_1 ?_
  obtain ⟨ra1, ga2, ca3, h⟩ := bdd_eq h
  refine gx_callVi X (40) (c_X10_isPair ca3) lc_X10_isPair li_X10_isPair lm_X10_131 (by decide) (cl_40 _ _) rfl rfl rfl (Nat.le_trans (by decide) hd) rfl (Nat.le_of_ble_eq_true rfl) dX10_mix_2 ?_
  refine gx_if_eq X 18 dX10_mix_5 (by decide) (fun q4 => ?_) (fun q4 => ?_)
  · replace h := (if_pos q4).symm.trans h
    refine gx_iconst X (v := (-1 : Int32)) dX10_mix_18 (by decide) ?_
    obtain ⟨rfl, rfl⟩ := ret_eq h
    exact gx_iret X rfl dX10_mix_19
  · replace h := (if_neg q4).symm.trans h
    refine gx_iload_n X 2 rfl dX10_mix_8 ?_
    refine gx_i2l X dX10_mix_9 ?_
    refine gx_lconst X (v := (0 : Int64)) dX10_mix_10 (by decide) ?_
    refine gx_lconst X (v := (1 : Int64)) dX10_mix_11 (by decide) ?_
    obtain ⟨ra5, ga6, ca7, h⟩ := bdd_eq h
    refine gx_callSi X (c_X10_in ca7) lc_X10_in li_X10_in lm_X10_92 rfl rfl (Nat.le_trans (by decide) hd) rfl (Nat.le_of_ble_eq_true rfl) dX10_mix_12 ?_
    refine gx_if_ne X 20 dX10_mix_15 (by decide) (fun q8 => ?_) (fun q8 => ?_)
    · replace h := (if_neg q8).symm.trans h
      refine gx_iload_n X 1 rfl dX10_mix_20 ?_
      refine gx_bipush X (v := (100 : Int32)) dX10_mix_21 (by decide) ?_
      refine gx_idiv X dX10_mix_23 (by decide) ?_
      refine gx_istore_n X [(3, .int ((a1 / (100 : Int32)))), (0, .ref (al (40))), (1, .int (a1)), (2, .int (a2))] dX10_mix_24 (by decide) rfl ?_
      refine gx_iload_n X 2 rfl dX10_mix_25 ?_
      refine gx_bipush X (v := (100 : Int32)) dX10_mix_26 (by decide) ?_
      refine gx_irem X dX10_mix_28 (by decide) ?_
      refine gx_istore X [(4, .int ((rmI a1 (100 : Int32)))), (3, .int ((a1 / (100 : Int32)))), (0, .ref (al (40))), (1, .int (a1)), (2, .int (a2))] dX10_mix_29 (by decide) rfl ?_
      refine gx_aload_n X 2 rfl dX10_mix_31 ?_
      refine gx_getf X (40) lf_X10_31 (by decide) (cl_40 _ _) (v := .ref (al (45))) rfl dX10_mix_32 ?_
      refine gx_iload_n X 1 rfl dX10_mix_35 ?_
      obtain ⟨q9, h⟩ := gdd_eq h
      refine gx_iald X (45) 24 (by decide) (cl_45 _ _) q9 dX10_mix_36 ?_
      refine gx_iload X 0 rfl dX10_mix_37 ?_
      refine gx_ishr X dX10_mix_39 ?_
      refine gx_iconst X (v := (1 : Int32)) dX10_mix_40 (by decide) ?_
      refine gx_iand X dX10_mix_41 ?_
      obtain ⟨v10, ev10, h⟩ := lti_eq h
      refine gx_topi ev10 ?_
      refine gx_istore X [(5, .int (v10)), (4, .int ((rmI a1 (100 : Int32)))), (3, .int ((a1 / (100 : Int32)))), (0, .ref (al (40))), (1, .int (a1)), (2, .int (a2))] dX10_mix_42 (by decide) rfl ?_
      refine gx_aload_n X 3 rfl dX10_mix_44 ?_
      refine gx_getf X (40) lf_X10_31 (by decide) (cl_40 _ _) (v := .ref (al (45))) rfl dX10_mix_45 ?_
      refine gx_iload_n X 2 rfl dX10_mix_48 ?_
      refine gx_aload_n X 3 rfl dX10_mix_49 ?_
      refine gx_getf X (40) lf_X10_31 (by decide) (cl_40 _ _) (v := .ref (al (45))) rfl dX10_mix_50 ?_
      refine gx_iload_n X 2 rfl dX10_mix_53 ?_
      obtain ⟨q11, h⟩ := gdd_eq h
      refine gx_iald X (45) 24 (by decide) (cl_45 _ _) q11 dX10_mix_54 ?_
      refine gx_iconst X (v := (1 : Int32)) dX10_mix_55 (by decide) ?_
      refine gx_iload X 1 rfl dX10_mix_56 ?_
      refine gx_ishl X dX10_mix_58 ?_
      refine gx_iconst X (v := (-1 : Int32)) dX10_mix_59 (by decide) ?_
      refine gx_ixor X dX10_mix_60 ?_
      refine gx_iand X dX10_mix_61 ?_
      refine gx_iload_n X 5 rfl dX10_mix_62 ?_
      refine gx_iload X 1 rfl dX10_mix_63 ?_
      refine gx_ishl X dX10_mix_65 ?_
      refine gx_ior X dX10_mix_66 ?_
      obtain ⟨q12, h⟩ := gdd_eq h
      refine gx_iast X (45) 24 (by decide) (fun r => cl_45 r _) q12 dX10_mix_67 ?_
      refine gx_aload_n X 3 rfl dX10_mix_68 ?_
      refine gx_getf X (40) lf_X10_31 (by decide) (cl_40 _ _) (v := .ref (al (45))) rfl dX10_mix_69 ?_
      refine gx_iload X 1 rfl dX10_mix_72 ?_
      refine gx_aload_n X 3 rfl dX10_mix_74 ?_
      refine gx_getf X (40) lf_X10_31 (by decide) (cl_40 _ _) (v := .ref (al (45))) rfl dX10_mix_75 ?_
      refine gx_iload X 1 rfl dX10_mix_78 ?_
      obtain ⟨q13, h⟩ := gdd_eq h
      refine gx_iald X (45) 24 (by decide) (cl_45 _ _) q13 dX10_mix_80 ?_
      refine gx_iconst X (v := (1 : Int32)) dX10_mix_81 (by decide) ?_
      refine gx_iload_n X 2 rfl dX10_mix_82 ?_
      refine gx_ishl X dX10_mix_83 ?_
      refine gx_iconst X (v := (-1 : Int32)) dX10_mix_84 (by decide) ?_
      refine gx_ixor X dX10_mix_85 ?_
      refine gx_iand X dX10_mix_86 ?_
      refine gx_iload_n X 5 rfl dX10_mix_87 ?_
      refine gx_iload_n X 2 rfl dX10_mix_88 ?_
      refine gx_ishl X dX10_mix_89 ?_
      refine gx_ior X dX10_mix_90 ?_
      obtain ⟨q14, h⟩ := gdd_eq h
      refine gx_iast X (45) 24 (by decide) (fun r => cl_45 r _) q14 dX10_mix_91 ?_
      refine gx_iload X 0 rfl dX10_mix_92 ?_
      obtain ⟨rfl, rfl⟩ := ret_eq h
      exact gx_iret X rfl dX10_mix_94
    · replace h := (if_pos q8).symm.trans h
      refine gx_iconst X (v := (-1 : Int32)) dX10_mix_18 (by decide) ?_
      obtain ⟨rfl, rfl⟩ := ret_eq h
      exact gx_iret X rfl dX10_mix_19
theorem dX10_most_0 : decode cX10_most 0 = .ok (.aload_n 0, 1) := by decide +kernel
theorem dX10_most_1 : decode cX10_most 1 = .ok (.iload_n 1, 1) := by decide +kernel
theorem dX10_most_2 : decode cX10_most 2 = .ok (.invokevirtual 100, 3) := by decide +kernel
theorem dX10_most_5 : decode cX10_most 5 = .ok (.ifCond .eq 15, 3) := by decide +kernel
theorem dX10_most_8 : decode cX10_most 8 = .ok (.iload_n 2, 1) := by decide +kernel
theorem dX10_most_9 : decode cX10_most 9 = .ok (.i2l, 1) := by decide +kernel
theorem dX10_most_10 : decode cX10_most 10 = .ok (.lconst 1, 1) := by decide +kernel
theorem dX10_most_11 : decode cX10_most 11 = .ok (.ldc2_w 103, 3) := by decide +kernel
theorem dX10_most_14 : decode cX10_most 14 = .ok (.invokestatic 92, 3) := by decide +kernel
theorem dX10_most_17 : decode cX10_most 17 = .ok (.ifCond .ne 5, 3) := by decide +kernel
theorem dX10_most_20 : decode cX10_most 20 = .ok (.iconst (-1), 1) := by decide +kernel
theorem dX10_most_21 : decode cX10_most 21 = .ok (.ireturn, 1) := by decide +kernel
theorem dX10_most_22 : decode cX10_most 22 = .ok (.iconst 0, 1) := by decide +kernel
theorem dX10_most_23 : decode cX10_most 23 = .ok (.istore_n 3, 1) := by decide +kernel
theorem dX10_most_24 : decode cX10_most 24 = .ok (.iload_n 3, 1) := by decide +kernel
theorem dX10_most_25 : decode cX10_most 25 = .ok (.aload_n 0, 1) := by decide +kernel
theorem dX10_most_26 : decode cX10_most 26 = .ok (.getfield 21, 3) := by decide +kernel
theorem dX10_most_29 : decode cX10_most 29 = .ok (.if_icmp .ge 26, 3) := by decide +kernel
theorem dX10_most_32 : decode cX10_most 32 = .ok (.aload_n 0, 1) := by decide +kernel
theorem dX10_most_33 : decode cX10_most 33 = .ok (.getfield 28, 3) := by decide +kernel
theorem dX10_most_36 : decode cX10_most 36 = .ok (.bipush 6, 2) := by decide +kernel
theorem dX10_most_38 : decode cX10_most 38 = .ok (.iload_n 3, 1) := by decide +kernel
theorem dX10_most_39 : decode cX10_most 39 = .ok (.imul, 1) := by decide +kernel
theorem dX10_most_40 : decode cX10_most 40 = .ok (.iload_n 1, 1) := by decide +kernel
theorem dX10_most_41 : decode cX10_most 41 = .ok (.iadd, 1) := by decide +kernel
theorem dX10_most_42 : decode cX10_most 42 = .ok (.iaload, 1) := by decide +kernel
theorem dX10_most_43 : decode cX10_most 43 = .ok (.iload_n 2, 1) := by decide +kernel
theorem dX10_most_44 : decode cX10_most 44 = .ok (.if_icmp .le 5, 3) := by decide +kernel
theorem dX10_most_47 : decode cX10_most 47 = .ok (.iconst (-1), 1) := by decide +kernel
theorem dX10_most_48 : decode cX10_most 48 = .ok (.ireturn, 1) := by decide +kernel
theorem dX10_most_49 : decode cX10_most 49 = .ok (.iinc 3 1, 3) := by decide +kernel
theorem dX10_most_52 : decode cX10_most 52 = .ok (.goto (-28), 3) := by decide +kernel
theorem dX10_most_55 : decode cX10_most 55 = .ok (.aload_n 0, 1) := by decide +kernel
theorem dX10_most_56 : decode cX10_most 56 = .ok (.getfield 9, 3) := by decide +kernel
theorem dX10_most_59 : decode cX10_most 59 = .ok (.iload_n 1, 1) := by decide +kernel
theorem dX10_most_60 : decode cX10_most 60 = .ok (.iaload, 1) := by decide +kernel
theorem dX10_most_61 : decode cX10_most 61 = .ok (.istore_n 3, 1) := by decide +kernel
theorem dX10_most_62 : decode cX10_most 62 = .ok (.aload_n 0, 1) := by decide +kernel
theorem dX10_most_63 : decode cX10_most 63 = .ok (.getfield 9, 3) := by decide +kernel
theorem dX10_most_66 : decode cX10_most 66 = .ok (.iload_n 1, 1) := by decide +kernel
theorem dX10_most_67 : decode cX10_most 67 = .ok (.iload_n 2, 1) := by decide +kernel
theorem dX10_most_68 : decode cX10_most 68 = .ok (.iastore, 1) := by decide +kernel
theorem dX10_most_69 : decode cX10_most 69 = .ok (.iload_n 3, 1) := by decide +kernel
theorem dX10_most_70 : decode cX10_most 70 = .ok (.iload_n 2, 1) := by decide +kernel
theorem dX10_most_71 : decode cX10_most 71 = .ok (.if_icmp .eq 14, 3) := by decide +kernel
theorem dX10_most_74 : decode cX10_most 74 = .ok (.aload_n 0, 1) := by decide +kernel
theorem dX10_most_75 : decode cX10_most 75 = .ok (.sipush 1000, 3) := by decide +kernel
theorem dX10_most_78 : decode cX10_most 78 = .ok (.iload_n 1, 1) := by decide +kernel
theorem dX10_most_79 : decode cX10_most 79 = .ok (.iadd, 1) := by decide +kernel
theorem dX10_most_80 : decode cX10_most 80 = .ok (.iload_n 3, 1) := by decide +kernel
theorem dX10_most_81 : decode cX10_most 81 = .ok (.iload_n 2, 1) := by decide +kernel
theorem dX10_most_82 : decode cX10_most 82 = .ok (.invokevirtual 127, 3) := by decide +kernel
theorem dX10_most_85 : decode cX10_most 85 = .ok (.iload_n 3, 1) := by decide +kernel
theorem dX10_most_86 : decode cX10_most 86 = .ok (.ireturn, 1) := by decide +kernel
def m_X10_most_24 : Nat → Int32 → Int32 → Int32 → Mm → Option (Int32 × Mm)
  | 0, _, _, _, _ => none
  | n + 1, x1, x2, x3, g => (if (rdI g 40 5) ≤ x3 then gdd (ixo x1 6) (gdd (ixo x1 6) ((if (rdI g 41 x1.toNatClampNeg) = x2 then some ((rdI g 41 x1.toNatClampNeg), (wrI g 41 x1.toNatClampNeg x2)) else bdd (m_X10_keeps ((1000 : Int32) + x1) (rdI g 41 x1.toNatClampNeg) x2 (wrI g 41 x1.toNatClampNeg x2)) (fun ra5 ga6 => some ((rdI g 41 x1.toNatClampNeg), ga6))))) else gdd (ixo (((6 : Int32) * x3) + x1) 144) ((if (rdI g 44 (((6 : Int32) * x3) + x1).toNatClampNeg) ≤ x2 then m_X10_most_24 n x1 x2 (x3 + (1 : Int32)) g else some ((-1 : Int32), g))))
set_option maxHeartbeats 2000000 in
theorem t_X10_most_24 {r2 : Int32} {g2 : Mm} (X : gx_X p R s m args meth c D al cI cJ A RX10 cX10_most 4 (some .int) d 0 0) (hd : 3 ≤ d) : ∀ (n : Nat) (x1 : Int32) (x2 : Int32) (x3 : Int32) (g : Mm), m_X10_most_24 n x1 x2 x3 g = some (r2, g2) → gx_G p l e R s m args below meth c (gx_Q below args s D al cI cJ A (some (.int r2)) g2) D al cI cJ A 4 0 0 24 [(0, .ref (al (40))), (1, .int (x1)), (2, .int (x2)), (3, .int (x3))] [] g := by
  intro n
  induction n with
  | zero => intro x1 x2 x3 g h; cases h
  | succ n ih =>
    intro x1 x2 x3 g h
    rw [m_X10_most_24] at h
    refine gx_iload_n X 3 rfl dX10_most_24 ?_
    refine gx_aload_n X 0 rfl dX10_most_25 ?_
    refine gx_getf X (40) lf_X10_21 (by decide) (cl_40 _ _) (v := .int ((rdI g 40 5))) rfl dX10_most_26 ?_
    refine gx_icmp_ge X 55 dX10_most_29 (by decide) (fun q1 => ?_) (fun q1 => ?_)
    · replace h := (if_pos q1).symm.trans h
      refine gx_aload_n X 0 rfl dX10_most_55 ?_
      refine gx_getf X (40) lf_X10_9 (by decide) (cl_40 _ _) (v := .ref (al (41))) rfl dX10_most_56 ?_
      refine gx_iload_n X 1 rfl dX10_most_59 ?_
      obtain ⟨q2, h⟩ := gdd_eq h
      refine gx_iald X (41) 6 (by decide) (cl_41 _ _) q2 dX10_most_60 ?_
      refine gx_istore_n X [(3, .int ((rdI g 41 x1.toNatClampNeg))), (0, .ref (al (40))), (1, .int (x1)), (2, .int (x2))] dX10_most_61 (by decide) rfl ?_
      refine gx_aload_n X 1 rfl dX10_most_62 ?_
      refine gx_getf X (40) lf_X10_9 (by decide) (cl_40 _ _) (v := .ref (al (41))) rfl dX10_most_63 ?_
      refine gx_iload_n X 2 rfl dX10_most_66 ?_
      refine gx_iload_n X 3 rfl dX10_most_67 ?_
      obtain ⟨q3, h⟩ := gdd_eq h
      refine gx_iast X (41) 6 (by decide) (fun r => cl_41 r _) q3 dX10_most_68 ?_
      refine gx_iload_n X 0 rfl dX10_most_69 ?_
      refine gx_iload_n X 3 rfl dX10_most_70 ?_
      refine gx_icmp_eq X 85 dX10_most_71 (by decide) (fun q4 => ?_) (fun q4 => ?_)
      · replace h := (if_pos q4).symm.trans h
        refine gx_iload_n X 0 rfl dX10_most_85 ?_
        obtain ⟨rfl, rfl⟩ := ret_eq h
        exact gx_iret X rfl dX10_most_86
      · replace h := (if_neg q4).symm.trans h
        refine gx_aload_n X 1 rfl dX10_most_74 ?_
        refine gx_sipush X (v := (1000 : Int32)) dX10_most_75 (by decide) ?_
        refine gx_iload_n X 2 rfl dX10_most_78 ?_
        refine gx_iadd X dX10_most_79 ?_
        refine gx_iload_n X 0 rfl dX10_most_80 ?_
        refine gx_iload_n X 3 rfl dX10_most_81 ?_
        obtain ⟨ra5, ga6, ca7, h⟩ := bdd_eq h
        refine gx_callVv X (40) (c_X10_keeps ca7) lc_X10_keeps li_X10_keeps lm_X10_127 (by decide) (cl_40 _ _) rfl rfl rfl (Nat.le_trans (by decide) hd) rfl (Nat.le_of_ble_eq_true rfl) dX10_most_82 ?_
        refine gx_iload_n X 0 rfl dX10_most_85 ?_
        obtain ⟨rfl, rfl⟩ := ret_eq h
        exact gx_iret X rfl dX10_most_86
    · replace h := (if_neg q1).symm.trans h
      refine gx_aload_n X 0 rfl dX10_most_32 ?_
      refine gx_getf X (40) lf_X10_28 (by decide) (cl_40 _ _) (v := .ref (al (44))) rfl dX10_most_33 ?_
      refine gx_bipush X (v := (6 : Int32)) dX10_most_36 (by decide) ?_
      refine gx_iload_n X 3 rfl dX10_most_38 ?_
      refine gx_imul X dX10_most_39 ?_
      refine gx_iload_n X 1 rfl dX10_most_40 ?_
      refine gx_iadd X dX10_most_41 ?_
      obtain ⟨q8, h⟩ := gdd_eq h
      refine gx_iald X (44) 144 (by decide) (cl_44 _ _) q8 dX10_most_42 ?_
      refine gx_iload_n X 2 rfl dX10_most_43 ?_
      refine gx_icmp_le X 49 dX10_most_44 (by decide) (fun q9 => ?_) (fun q9 => ?_)
      · replace h := (if_pos q9).symm.trans h
        refine gx_iinc X [(3, .int ((x3 + (1 : Int32)))), (0, .ref (al (40))), (1, .int (x1)), (2, .int (x2))] 3 dX10_most_49 rfl rfl (by decide) rfl ?_
        refine gx_goto X 24 dX10_most_52 (by decide) ?_
        exact gx_sub [1, 2, 3, 0] rfl (ih x1 x2 (x3 + (1 : Int32)) g h)
      · replace h := (if_neg q9).symm.trans h
        refine gx_iconst X (v := (-1 : Int32)) dX10_most_47 (by decide) ?_
        obtain ⟨rfl, rfl⟩ := ret_eq h
        exact gx_iret X rfl dX10_most_48
def m_X10_most (a1 : Int32) (a2 : Int32) (g : Mm) : Option (Int32 × Mm) := bdd (m_X10_isBell a1 g) (fun ra1 ga2 => (if ra1 = (0 : Int32) then some ((-1 : Int32), ga2) else bdd (m_X10_in (a2.toInt64) (1 : Int64) (15 : Int64) ga2) (fun ra5 ga6 => (if ra5 = (0 : Int32) then some ((-1 : Int32), ga6) else m_X10_most_24 fuL a1 a2 (0 : Int32) ga6))))
set_option maxHeartbeats 2000000 in
theorem c_X10_most {r2 : Int32} {g g2 : Mm} {a1 : Int32} {a2 : Int32} (h : m_X10_most a1 a2 g = some (r2, g2)) : gx_M 3 yX10_most cX10_most 4 (some .int) (fun al => [.ref (al (40)), .int (a1), .int (a2)]) g (some (.int r2)) g2 := by
  have hd : 3 ≤ 3 := Nat.le_refl _
  refine gx_M.of (by decide +kernel) (fun _ => Nat.le_of_ble_eq_true rfl) ?_
  intro p l e R s m args below meth c D al cI cJ A X
  refine gx_eq (pc' := 0) (ls' := [(0, .ref (al (40))), (1, .int (a1)), (2, .int (a2))]) (st' := []) (g' := g) ⟨rfl, rfl, rfl, rfl⟩ ?_
  unfold m_X10_most at h
  refine gx_aload_n X 0 rfl dX10_most_0 ?_
  refine gx_iload_n X 1 rfl dX10_most_1 ?_
  obtain ⟨ra1, ga2, ca3, h⟩ := bdd_eq h
  refine gx_callVi X (40) (c_X10_isBell ca3) lc_X10_isBell li_X10_isBell lm_X10_100 (by decide) (cl_40 _ _) rfl rfl rfl (Nat.le_trans (by decide) hd) rfl (Nat.le_of_ble_eq_true rfl) dX10_most_2 ?_
  refine gx_if_eq X 20 dX10_most_5 (by decide) (fun q4 => ?_) (fun q4 => ?_)
  · replace h := (if_pos q4).symm.trans h
    refine gx_iconst X (v := (-1 : Int32)) dX10_most_20 (by decide) ?_
    obtain ⟨rfl, rfl⟩ := ret_eq h
    exact gx_iret X rfl dX10_most_21
  · replace h := (if_neg q4).symm.trans h
    refine gx_iload_n X 2 rfl dX10_most_8 ?_
    refine gx_i2l X dX10_most_9 ?_
    refine gx_lconst X (v := (1 : Int64)) dX10_most_10 (by decide) ?_
    refine gx_ldc2 X (v := (15 : Int64)) lk_X10_103 dX10_most_11 ?_
    obtain ⟨ra5, ga6, ca7, h⟩ := bdd_eq h
    refine gx_callSi X (c_X10_in ca7) lc_X10_in li_X10_in lm_X10_92 rfl rfl (Nat.le_trans (by decide) hd) rfl (Nat.le_of_ble_eq_true rfl) dX10_most_14 ?_
    refine gx_if_ne X 22 dX10_most_17 (by decide) (fun q8 => ?_) (fun q8 => ?_)
    · replace h := (if_neg q8).symm.trans h
      refine gx_iconst X (v := (0 : Int32)) dX10_most_22 (by decide) ?_
      refine gx_istore_n X [(3, .int ((0 : Int32))), (0, .ref (al (40))), (1, .int (a1)), (2, .int (a2))] dX10_most_23 (by decide) rfl ?_
      exact gx_sub [1, 2, 3, 0] rfl (t_X10_most_24 X hd fuL a1 a2 (0 : Int32) ga6 h)
    · replace h := (if_pos q8).symm.trans h
      refine gx_iconst X (v := (-1 : Int32)) dX10_most_20 (by decide) ?_
      obtain ⟨rfl, rfl⟩ := ret_eq h
      exact gx_iret X rfl dX10_most_21
theorem dX10_night_0 : decode cX10_night 0 = .ok (.iload_n 1, 1) := by decide +kernel
theorem dX10_night_1 : decode cX10_night 1 = .ok (.i2l, 1) := by decide +kernel
theorem dX10_night_2 : decode cX10_night 2 = .ok (.lconst 0, 1) := by decide +kernel
theorem dX10_night_3 : decode cX10_night 3 = .ok (.lconst 1, 1) := by decide +kernel
theorem dX10_night_4 : decode cX10_night 4 = .ok (.invokestatic 92, 3) := by decide +kernel
theorem dX10_night_7 : decode cX10_night 7 = .ok (.ifCond .ne 5, 3) := by decide +kernel
theorem dX10_night_10 : decode cX10_night 10 = .ok (.iconst (-1), 1) := by decide +kernel
theorem dX10_night_11 : decode cX10_night 11 = .ok (.ireturn, 1) := by decide +kernel
theorem dX10_night_12 : decode cX10_night 12 = .ok (.iload_n 1, 1) := by decide +kernel
theorem dX10_night_13 : decode cX10_night 13 = .ok (.ifCond .ne 10, 3) := by decide +kernel
theorem dX10_night_16 : decode cX10_night 16 = .ok (.aload_n 0, 1) := by decide +kernel
theorem dX10_night_17 : decode cX10_night 17 = .ok (.iconst 0, 1) := by decide +kernel
theorem dX10_night_18 : decode cX10_night 18 = .ok (.putfield 323, 3) := by decide +kernel
theorem dX10_night_21 : decode cX10_night 21 = .ok (.iconst 0, 1) := by decide +kernel
theorem dX10_night_22 : decode cX10_night 22 = .ok (.ireturn, 1) := by decide +kernel
theorem dX10_night_23 : decode cX10_night 23 = .ok (.aload_n 0, 1) := by decide +kernel
theorem dX10_night_24 : decode cX10_night 24 = .ok (.getfield 323, 3) := by decide +kernel
theorem dX10_night_27 : decode cX10_night 27 = .ok (.bipush 12, 2) := by decide +kernel
theorem dX10_night_29 : decode cX10_night 29 = .ok (.if_icmp .ne 6, 3) := by decide +kernel
theorem dX10_night_32 : decode cX10_night 32 = .ok (.bipush (-3), 2) := by decide +kernel
theorem dX10_night_34 : decode cX10_night 34 = .ok (.ireturn, 1) := by decide +kernel
theorem dX10_night_35 : decode cX10_night 35 = .ok (.iconst 0, 1) := by decide +kernel
theorem dX10_night_36 : decode cX10_night 36 = .ok (.istore_n 2, 1) := by decide +kernel
theorem dX10_night_37 : decode cX10_night 37 = .ok (.iload_n 2, 1) := by decide +kernel
theorem dX10_night_38 : decode cX10_night 38 = .ok (.bipush 6, 2) := by decide +kernel
theorem dX10_night_40 : decode cX10_night 40 = .ok (.if_icmp .ge 41, 3) := by decide +kernel
theorem dX10_night_43 : decode cX10_night 43 = .ok (.aload_n 0, 1) := by decide +kernel
theorem dX10_night_44 : decode cX10_night 44 = .ok (.getfield 61, 3) := by decide +kernel
theorem dX10_night_47 : decode cX10_night 47 = .ok (.bipush 6, 2) := by decide +kernel
theorem dX10_night_49 : decode cX10_night 49 = .ok (.aload_n 0, 1) := by decide +kernel
theorem dX10_night_50 : decode cX10_night 50 = .ok (.getfield 323, 3) := by decide +kernel
theorem dX10_night_53 : decode cX10_night 53 = .ok (.imul, 1) := by decide +kernel
theorem dX10_night_54 : decode cX10_night 54 = .ok (.iload_n 2, 1) := by decide +kernel
theorem dX10_night_55 : decode cX10_night 55 = .ok (.iadd, 1) := by decide +kernel
theorem dX10_night_56 : decode cX10_night 56 = .ok (.iload_n 2, 1) := by decide +kernel
theorem dX10_night_57 : decode cX10_night 57 = .ok (.aload_n 0, 1) := by decide +kernel
theorem dX10_night_58 : decode cX10_night 58 = .ok (.getfield 266, 3) := by decide +kernel
theorem dX10_night_61 : decode cX10_night 61 = .ok (.if_icmp .ge 12, 3) := by decide +kernel
theorem dX10_night_64 : decode cX10_night 64 = .ok (.aload_n 0, 1) := by decide +kernel
theorem dX10_night_65 : decode cX10_night 65 = .ok (.getfield 49, 3) := by decide +kernel
theorem dX10_night_68 : decode cX10_night 68 = .ok (.iload_n 2, 1) := by decide +kernel
theorem dX10_night_69 : decode cX10_night 69 = .ok (.iaload, 1) := by decide +kernel
theorem dX10_night_70 : decode cX10_night 70 = .ok (.goto 4, 3) := by decide +kernel
theorem dX10_night_73 : decode cX10_night 73 = .ok (.iconst (-1), 1) := by decide +kernel
theorem dX10_night_74 : decode cX10_night 74 = .ok (.iastore, 1) := by decide +kernel
theorem dX10_night_75 : decode cX10_night 75 = .ok (.iinc 2 1, 3) := by decide +kernel
theorem dX10_night_78 : decode cX10_night 78 = .ok (.goto (-41), 3) := by decide +kernel
theorem dX10_night_81 : decode cX10_night 81 = .ok (.aload_n 0, 1) := by decide +kernel
theorem dX10_night_82 : decode cX10_night 82 = .ok (.iconst 0, 1) := by decide +kernel
theorem dX10_night_83 : decode cX10_night 83 = .ok (.putfield 266, 3) := by decide +kernel
theorem dX10_night_86 : decode cX10_night 86 = .ok (.aload_n 0, 1) := by decide +kernel
theorem dX10_night_87 : decode cX10_night 87 = .ok (.dup, 1) := by decide +kernel
theorem dX10_night_88 : decode cX10_night 88 = .ok (.getfield 323, 3) := by decide +kernel
theorem dX10_night_91 : decode cX10_night 91 = .ok (.iconst 1, 1) := by decide +kernel
theorem dX10_night_92 : decode cX10_night 92 = .ok (.iadd, 1) := by decide +kernel
theorem dX10_night_93 : decode cX10_night 93 = .ok (.putfield 323, 3) := by decide +kernel
theorem dX10_night_96 : decode cX10_night 96 = .ok (.aload_n 0, 1) := by decide +kernel
theorem dX10_night_97 : decode cX10_night 97 = .ok (.getfield 323, 3) := by decide +kernel
theorem dX10_night_100 : decode cX10_night 100 = .ok (.ireturn, 1) := by decide +kernel
def m_X10_night_37 : Nat → Int32 → Mm → Option (Int32 × Mm)
  | 0, _, _ => none
  | n + 1, x2, g => (if (6 : Int32) ≤ x2 then some ((rdI (wrI (wrI g 40 33 (0 : Int32)) 40 38 ((rdI (wrI g 40 33 (0 : Int32)) 40 38) + (1 : Int32))) 40 38), (wrI (wrI g 40 33 (0 : Int32)) 40 38 ((rdI (wrI g 40 33 (0 : Int32)) 40 38) + (1 : Int32)))) else (if (rdI g 40 33) ≤ x2 then gdd (ixo (((6 : Int32) * (rdI g 40 38)) + x2) 72) (m_X10_night_37 n (x2 + (1 : Int32)) (wrI g 55 (((6 : Int32) * (rdI g 40 38)) + x2).toNatClampNeg (-1 : Int32))) else gdd (ixo x2 6) (gdd (ixo (((6 : Int32) * (rdI g 40 38)) + x2) 72) (m_X10_night_37 n (x2 + (1 : Int32)) (wrI g 55 (((6 : Int32) * (rdI g 40 38)) + x2).toNatClampNeg (rdI g 51 x2.toNatClampNeg))))))
set_option maxHeartbeats 2000000 in
theorem t_X10_night_37 {r2 : Int32} {g2 : Mm} (X : gx_X p R s m args meth c D al cI cJ A RX10 cX10_night 3 (some .int) d 0 0) (hd : 2 ≤ d) : ∀ (n : Nat) (x2 : Int32) (g : Mm), m_X10_night_37 n x2 g = some (r2, g2) → gx_G p l e R s m args below meth c (gx_Q below args s D al cI cJ A (some (.int r2)) g2) D al cI cJ A 3 0 0 37 [(0, .ref (al (40))), (2, .int (x2))] [] g := by
  intro n
  induction n with
  | zero => intro x2 g h; cases h
  | succ n ih =>
    intro x2 g h
    rw [m_X10_night_37] at h
    refine gx_iload_n X 1 rfl dX10_night_37 ?_
    refine gx_bipush X (v := (6 : Int32)) dX10_night_38 (by decide) ?_
    refine gx_icmp_ge X 81 dX10_night_40 (by decide) (fun q1 => ?_) (fun q1 => ?_)
    · replace h := (if_pos q1).symm.trans h
      refine gx_aload_n X 0 rfl dX10_night_81 ?_
      refine gx_iconst X (v := (0 : Int32)) dX10_night_82 (by decide) ?_
      refine gx_putf X (40) (0 : Int32) lf_X10_266 lp_X10_33 (by decide) (cl_40 _ _) (Nat.le_of_ble_eq_true rfl) rfl rfl rfl dX10_night_83 ?_
      refine gx_aload_n X 0 rfl dX10_night_86 ?_
      refine gx_dup X dX10_night_87 rfl ?_
      refine gx_getf X (40) lf_X10_323 (by decide) (cl_40 _ _) (v := .int ((rdI (wrI g 40 33 (0 : Int32)) 40 38))) rfl dX10_night_88 ?_
      refine gx_iconst X (v := (1 : Int32)) dX10_night_91 (by decide) ?_
      refine gx_iadd X dX10_night_92 ?_
      refine gx_putf X (40) ((rdI (wrI g 40 33 (0 : Int32)) 40 38) + (1 : Int32)) lf_X10_323 lp_X10_38 (by decide) (cl_40 _ _) (Nat.le_of_ble_eq_true rfl) rfl rfl rfl dX10_night_93 ?_
      refine gx_aload_n X 0 rfl dX10_night_96 ?_
      refine gx_getf X (40) lf_X10_323 (by decide) (cl_40 _ _) (v := .int ((rdI (wrI (wrI g 40 33 (0 : Int32)) 40 38 ((rdI (wrI g 40 33 (0 : Int32)) 40 38) + (1 : Int32))) 40 38))) rfl dX10_night_97 ?_
      obtain ⟨rfl, rfl⟩ := ret_eq h
      exact gx_iret X rfl dX10_night_100
    · replace h := (if_neg q1).symm.trans h
      refine gx_aload_n X 0 rfl dX10_night_43 ?_
      refine gx_getf X (40) lf_X10_61 (by decide) (cl_40 _ _) (v := .ref (al (55))) rfl dX10_night_44 ?_
      refine gx_bipush X (v := (6 : Int32)) dX10_night_47 (by decide) ?_
      refine gx_aload_n X 0 rfl dX10_night_49 ?_
      refine gx_getf X (40) lf_X10_323 (by decide) (cl_40 _ _) (v := .int ((rdI g 40 38))) rfl dX10_night_50 ?_
      refine gx_imul X dX10_night_53 ?_
      refine gx_iload_n X 1 rfl dX10_night_54 ?_
      refine gx_iadd X dX10_night_55 ?_
      refine gx_iload_n X 1 rfl dX10_night_56 ?_
      refine gx_aload_n X 0 rfl dX10_night_57 ?_
      refine gx_getf X (40) lf_X10_266 (by decide) (cl_40 _ _) (v := .int ((rdI g 40 33))) rfl dX10_night_58 ?_
      refine gx_icmp_ge X 73 dX10_night_61 (by decide) (fun q2 => ?_) (fun q2 => ?_)
      · replace h := (if_pos q2).symm.trans h
        refine gx_iconst X (v := (-1 : Int32)) dX10_night_73 (by decide) ?_
        obtain ⟨q3, h⟩ := gdd_eq h
        refine gx_iast X (55) 72 (by decide) (fun r => cl_55 r _) q3 dX10_night_74 ?_
        refine gx_iinc X [(2, .int ((x2 + (1 : Int32)))), (0, .ref (al (40)))] 1 dX10_night_75 rfl rfl (by decide) rfl ?_
        refine gx_goto X 37 dX10_night_78 (by decide) ?_
        exact gx_sub [1, 0] rfl (ih (x2 + (1 : Int32)) (wrI g 55 (((6 : Int32) * (rdI g 40 38)) + x2).toNatClampNeg (-1 : Int32)) h)
      · replace h := (if_neg q2).symm.trans h
        refine gx_aload_n X 0 rfl dX10_night_64 ?_
        refine gx_getf X (40) lf_X10_49 (by decide) (cl_40 _ _) (v := .ref (al (51))) rfl dX10_night_65 ?_
        refine gx_iload_n X 1 rfl dX10_night_68 ?_
        obtain ⟨q4, h⟩ := gdd_eq h
        refine gx_iald X (51) 6 (by decide) (cl_51 _ _) q4 dX10_night_69 ?_
        refine gx_goto X 74 dX10_night_70 (by decide) ?_
        obtain ⟨q5, h⟩ := gdd_eq h
        refine gx_iast X (55) 72 (by decide) (fun r => cl_55 r _) q5 dX10_night_74 ?_
        refine gx_iinc X [(2, .int ((x2 + (1 : Int32)))), (0, .ref (al (40)))] 1 dX10_night_75 rfl rfl (by decide) rfl ?_
        refine gx_goto X 37 dX10_night_78 (by decide) ?_
        exact gx_sub [1, 0] rfl (ih (x2 + (1 : Int32)) (wrI g 55 (((6 : Int32) * (rdI g 40 38)) + x2).toNatClampNeg (rdI g 51 x2.toNatClampNeg)) h)
def m_X10_night (a1 : Int32) (g : Mm) : Option (Int32 × Mm) := bdd (m_X10_in (a1.toInt64) (0 : Int64) (1 : Int64) g) (fun ra1 ga2 => (if ra1 = (0 : Int32) then some ((-1 : Int32), ga2) else (if a1 = (0 : Int32) then some ((0 : Int32), (wrI ga2 40 38 (0 : Int32))) else (if (rdI ga2 40 38) = (12 : Int32) then some ((-3 : Int32), ga2) else m_X10_night_37 fuL (0 : Int32) ga2))))
set_option maxHeartbeats 2000000 in
theorem c_X10_night {r2 : Int32} {g g2 : Mm} {a1 : Int32} (h : m_X10_night a1 g = some (r2, g2)) : gx_M 2 yX10_night cX10_night 3 (some .int) (fun al => [.ref (al (40)), .int (a1)]) g (some (.int r2)) g2 := by
  have hd : 2 ≤ 2 := Nat.le_refl _
  refine gx_M.of (by decide +kernel) (fun _ => Nat.le_of_ble_eq_true rfl) ?_
  intro p l e R s m args below meth c D al cI cJ A X
  refine gx_eq (pc' := 0) (ls' := [(0, .ref (al (40))), (1, .int (a1))]) (st' := []) (g' := g) ⟨rfl, rfl, rfl, rfl⟩ ?_
  unfold m_X10_night at h
  refine gx_iload_n X 1 rfl dX10_night_0 ?_
  refine gx_i2l X dX10_night_1 ?_
  refine gx_lconst X (v := (0 : Int64)) dX10_night_2 (by decide) ?_
  refine gx_lconst X (v := (1 : Int64)) dX10_night_3 (by decide) ?_
  obtain ⟨ra1, ga2, ca3, h⟩ := bdd_eq h
  refine gx_callSi X (c_X10_in ca3) lc_X10_in li_X10_in lm_X10_92 rfl rfl (Nat.le_trans (by decide) hd) rfl (Nat.le_of_ble_eq_true rfl) dX10_night_4 ?_
  refine gx_if_ne X 12 dX10_night_7 (by decide) (fun q4 => ?_) (fun q4 => ?_)
  · replace h := (if_neg q4).symm.trans h
    refine gx_iload_n X 1 rfl dX10_night_12 ?_
    refine gx_if_ne X 23 dX10_night_13 (by decide) (fun q5 => ?_) (fun q5 => ?_)
    · replace h := (if_neg q5).symm.trans h
      refine gx_aload_n X 0 rfl dX10_night_23 ?_
      refine gx_getf X (40) lf_X10_323 (by decide) (cl_40 _ _) (v := .int ((rdI ga2 40 38))) rfl dX10_night_24 ?_
      refine gx_bipush X (v := (12 : Int32)) dX10_night_27 (by decide) ?_
      refine gx_icmp_ne X 35 dX10_night_29 (by decide) (fun q6 => ?_) (fun q6 => ?_)
      · replace h := (if_neg q6).symm.trans h
        refine gx_iconst X (v := (0 : Int32)) dX10_night_35 (by decide) ?_
        refine gx_istore_n X [(2, .int ((0 : Int32))), (0, .ref (al (40))), (1, .int (a1))] dX10_night_36 (by decide) rfl ?_
        exact gx_sub [1, 0] rfl (t_X10_night_37 X hd fuL (0 : Int32) ga2 h)
      · replace h := (if_pos q6).symm.trans h
        refine gx_bipush X (v := (-3 : Int32)) dX10_night_32 (by decide) ?_
        obtain ⟨rfl, rfl⟩ := ret_eq h
        exact gx_iret X rfl dX10_night_34
    · replace h := (if_pos q5).symm.trans h
      refine gx_aload_n X 0 rfl dX10_night_16 ?_
      refine gx_iconst X (v := (0 : Int32)) dX10_night_17 (by decide) ?_
      refine gx_putf X (40) (0 : Int32) lf_X10_323 lp_X10_38 (by decide) (cl_40 _ _) (Nat.le_of_ble_eq_true rfl) rfl rfl rfl dX10_night_18 ?_
      refine gx_iconst X (v := (0 : Int32)) dX10_night_21 (by decide) ?_
      obtain ⟨rfl, rfl⟩ := ret_eq h
      exact gx_iret X rfl dX10_night_22
  · replace h := (if_pos q4).symm.trans h
    refine gx_iconst X (v := (-1 : Int32)) dX10_night_10 (by decide) ?_
    obtain ⟨rfl, rfl⟩ := ret_eq h
    exact gx_iret X rfl dX10_night_11
theorem dX10_tellsAbove_0 : decode cX10_tellsAbove 0 = .ok (.lconst 0, 1) := by decide +kernel
theorem dX10_tellsAbove_1 : decode cX10_tellsAbove 1 = .ok (.lstore_n 2, 1) := by decide +kernel
theorem dX10_tellsAbove_2 : decode cX10_tellsAbove 2 = .ok (.iconst 0, 1) := by decide +kernel
theorem dX10_tellsAbove_3 : decode cX10_tellsAbove 3 = .ok (.istore 4, 2) := by decide +kernel
theorem dX10_tellsAbove_5 : decode cX10_tellsAbove 5 = .ok (.iload 4, 2) := by decide +kernel
theorem dX10_tellsAbove_7 : decode cX10_tellsAbove 7 = .ok (.iconst 1, 1) := by decide +kernel
theorem dX10_tellsAbove_8 : decode cX10_tellsAbove 8 = .ok (.aload_n 0, 1) := by decide +kernel
theorem dX10_tellsAbove_9 : decode cX10_tellsAbove 9 = .ok (.getfield 89, 3) := by decide +kernel
theorem dX10_tellsAbove_12 : decode cX10_tellsAbove 12 = .ok (.ishl, 1) := by decide +kernel
theorem dX10_tellsAbove_13 : decode cX10_tellsAbove 13 = .ok (.if_icmp .ge 144, 3) := by decide +kernel
theorem dX10_tellsAbove_16 : decode cX10_tellsAbove 16 = .ok (.iconst 1, 1) := by decide +kernel
theorem dX10_tellsAbove_17 : decode cX10_tellsAbove 17 = .ok (.istore 5, 2) := by decide +kernel
theorem dX10_tellsAbove_19 : decode cX10_tellsAbove 19 = .ok (.iconst 0, 1) := by decide +kernel
theorem dX10_tellsAbove_20 : decode cX10_tellsAbove 20 = .ok (.istore 6, 2) := by decide +kernel
theorem dX10_tellsAbove_22 : decode cX10_tellsAbove 22 = .ok (.iload 6, 2) := by decide +kernel
theorem dX10_tellsAbove_24 : decode cX10_tellsAbove 24 = .ok (.aload_n 0, 1) := by decide +kernel
theorem dX10_tellsAbove_25 : decode cX10_tellsAbove 25 = .ok (.getfield 21, 3) := by decide +kernel
theorem dX10_tellsAbove_28 : decode cX10_tellsAbove 28 = .ok (.if_icmp .ge 50, 3) := by decide +kernel
theorem dX10_tellsAbove_31 : decode cX10_tellsAbove 31 = .ok (.iload 5, 2) := by decide +kernel
theorem dX10_tellsAbove_33 : decode cX10_tellsAbove 33 = .ok (.ifCond .eq 36, 3) := by decide +kernel
theorem dX10_tellsAbove_36 : decode cX10_tellsAbove 36 = .ok (.iload 6, 2) := by decide +kernel
theorem dX10_tellsAbove_38 : decode cX10_tellsAbove 38 = .ok (.iload_n 1, 1) := by decide +kernel
theorem dX10_tellsAbove_39 : decode cX10_tellsAbove 39 = .ok (.if_icmp .eq 26, 3) := by decide +kernel
theorem dX10_tellsAbove_42 : decode cX10_tellsAbove 42 = .ok (.aload_n 0, 1) := by decide +kernel
theorem dX10_tellsAbove_43 : decode cX10_tellsAbove 43 = .ok (.iload 6, 2) := by decide +kernel
theorem dX10_tellsAbove_45 : decode cX10_tellsAbove 45 = .ok (.iload_n 1, 1) := by decide +kernel
theorem dX10_tellsAbove_46 : decode cX10_tellsAbove 46 = .ok (.invokevirtual 232, 3) := by decide +kernel
theorem dX10_tellsAbove_49 : decode cX10_tellsAbove 49 = .ok (.ifCond .ne 16, 3) := by decide +kernel
theorem dX10_tellsAbove_52 : decode cX10_tellsAbove 52 = .ok (.aload_n 0, 1) := by decide +kernel
theorem dX10_tellsAbove_53 : decode cX10_tellsAbove 53 = .ok (.iload 6, 2) := by decide +kernel
theorem dX10_tellsAbove_55 : decode cX10_tellsAbove 55 = .ok (.iload_n 1, 1) := by decide +kernel
theorem dX10_tellsAbove_56 : decode cX10_tellsAbove 56 = .ok (.invokevirtual 236, 3) := by decide +kernel
theorem dX10_tellsAbove_59 : decode cX10_tellsAbove 59 = .ok (.iload 4, 2) := by decide +kernel
theorem dX10_tellsAbove_61 : decode cX10_tellsAbove 61 = .ok (.iand, 1) := by decide +kernel
theorem dX10_tellsAbove_62 : decode cX10_tellsAbove 62 = .ok (.ifCond .eq 7, 3) := by decide +kernel
theorem dX10_tellsAbove_65 : decode cX10_tellsAbove 65 = .ok (.iconst 1, 1) := by decide +kernel
theorem dX10_tellsAbove_66 : decode cX10_tellsAbove 66 = .ok (.goto 4, 3) := by decide +kernel
theorem dX10_tellsAbove_69 : decode cX10_tellsAbove 69 = .ok (.iconst 0, 1) := by decide +kernel
theorem dX10_tellsAbove_70 : decode cX10_tellsAbove 70 = .ok (.istore 5, 2) := by decide +kernel
theorem dX10_tellsAbove_72 : decode cX10_tellsAbove 72 = .ok (.iinc 6 1, 3) := by decide +kernel
theorem dX10_tellsAbove_75 : decode cX10_tellsAbove 75 = .ok (.goto (-53), 3) := by decide +kernel
theorem dX10_tellsAbove_78 : decode cX10_tellsAbove 78 = .ok (.iload 5, 2) := by decide +kernel
theorem dX10_tellsAbove_80 : decode cX10_tellsAbove 80 = .ok (.ifCond .eq 7, 3) := by decide +kernel
theorem dX10_tellsAbove_83 : decode cX10_tellsAbove 83 = .ok (.lconst 1, 1) := by decide +kernel
theorem dX10_tellsAbove_84 : decode cX10_tellsAbove 84 = .ok (.goto 4, 3) := by decide +kernel
theorem dX10_tellsAbove_87 : decode cX10_tellsAbove 87 = .ok (.lconst 0, 1) := by decide +kernel
theorem dX10_tellsAbove_88 : decode cX10_tellsAbove 88 = .ok (.lstore 6, 2) := by decide +kernel
theorem dX10_tellsAbove_90 : decode cX10_tellsAbove 90 = .ok (.iconst 0, 1) := by decide +kernel
theorem dX10_tellsAbove_91 : decode cX10_tellsAbove 91 = .ok (.istore 8, 2) := by decide +kernel
theorem dX10_tellsAbove_93 : decode cX10_tellsAbove 93 = .ok (.iload 8, 2) := by decide +kernel
theorem dX10_tellsAbove_95 : decode cX10_tellsAbove 95 = .ok (.aload_n 0, 1) := by decide +kernel
theorem dX10_tellsAbove_96 : decode cX10_tellsAbove 96 = .ok (.getfield 89, 3) := by decide +kernel
theorem dX10_tellsAbove_99 : decode cX10_tellsAbove 99 = .ok (.if_icmp .ge 47, 3) := by decide +kernel
theorem dX10_tellsAbove_102 : decode cX10_tellsAbove 102 = .ok (.lload 6, 2) := by decide +kernel
theorem dX10_tellsAbove_104 : decode cX10_tellsAbove 104 = .ok (.iload 4, 2) := by decide +kernel
theorem dX10_tellsAbove_106 : decode cX10_tellsAbove 106 = .ok (.iload 8, 2) := by decide +kernel
theorem dX10_tellsAbove_108 : decode cX10_tellsAbove 108 = .ok (.ishr, 1) := by decide +kernel
theorem dX10_tellsAbove_109 : decode cX10_tellsAbove 109 = .ok (.iconst 1, 1) := by decide +kernel
theorem dX10_tellsAbove_110 : decode cX10_tellsAbove 110 = .ok (.iand, 1) := by decide +kernel
theorem dX10_tellsAbove_111 : decode cX10_tellsAbove 111 = .ok (.iconst 1, 1) := by decide +kernel
theorem dX10_tellsAbove_112 : decode cX10_tellsAbove 112 = .ok (.if_icmp .ne 17, 3) := by decide +kernel
theorem dX10_tellsAbove_115 : decode cX10_tellsAbove 115 = .ok (.bipush 100, 2) := by decide +kernel
theorem dX10_tellsAbove_117 : decode cX10_tellsAbove 117 = .ok (.aload_n 0, 1) := by decide +kernel
theorem dX10_tellsAbove_118 : decode cX10_tellsAbove 118 = .ok (.getfield 18, 3) := by decide +kernel
theorem dX10_tellsAbove_121 : decode cX10_tellsAbove 121 = .ok (.iload 8, 2) := by decide +kernel
theorem dX10_tellsAbove_123 : decode cX10_tellsAbove 123 = .ok (.iaload, 1) := by decide +kernel
theorem dX10_tellsAbove_124 : decode cX10_tellsAbove 124 = .ok (.isub, 1) := by decide +kernel
theorem dX10_tellsAbove_125 : decode cX10_tellsAbove 125 = .ok (.i2l, 1) := by decide +kernel
theorem dX10_tellsAbove_126 : decode cX10_tellsAbove 126 = .ok (.goto 11, 3) := by decide +kernel
theorem dX10_tellsAbove_129 : decode cX10_tellsAbove 129 = .ok (.aload_n 0, 1) := by decide +kernel
theorem dX10_tellsAbove_130 : decode cX10_tellsAbove 130 = .ok (.getfield 18, 3) := by decide +kernel
theorem dX10_tellsAbove_133 : decode cX10_tellsAbove 133 = .ok (.iload 8, 2) := by decide +kernel
theorem dX10_tellsAbove_135 : decode cX10_tellsAbove 135 = .ok (.iaload, 1) := by decide +kernel
theorem dX10_tellsAbove_136 : decode cX10_tellsAbove 136 = .ok (.i2l, 1) := by decide +kernel
theorem dX10_tellsAbove_137 : decode cX10_tellsAbove 137 = .ok (.lmul, 1) := by decide +kernel
theorem dX10_tellsAbove_138 : decode cX10_tellsAbove 138 = .ok (.lstore 6, 2) := by decide +kernel
theorem dX10_tellsAbove_140 : decode cX10_tellsAbove 140 = .ok (.iinc 8 1, 3) := by decide +kernel
theorem dX10_tellsAbove_143 : decode cX10_tellsAbove 143 = .ok (.goto (-50), 3) := by decide +kernel
theorem dX10_tellsAbove_146 : decode cX10_tellsAbove 146 = .ok (.lload_n 2, 1) := by decide +kernel
theorem dX10_tellsAbove_147 : decode cX10_tellsAbove 147 = .ok (.lload 6, 2) := by decide +kernel
theorem dX10_tellsAbove_149 : decode cX10_tellsAbove 149 = .ok (.ladd, 1) := by decide +kernel
theorem dX10_tellsAbove_150 : decode cX10_tellsAbove 150 = .ok (.lstore_n 2, 1) := by decide +kernel
theorem dX10_tellsAbove_151 : decode cX10_tellsAbove 151 = .ok (.iinc 4 1, 3) := by decide +kernel
theorem dX10_tellsAbove_154 : decode cX10_tellsAbove 154 = .ok (.goto (-149), 3) := by decide +kernel
theorem dX10_tellsAbove_157 : decode cX10_tellsAbove 157 = .ok (.lload_n 2, 1) := by decide +kernel
theorem dX10_tellsAbove_158 : decode cX10_tellsAbove 158 = .ok (.lreturn, 1) := by decide +kernel
def m_X10_tellsAbove_93 (K5 : Int32 → Int64 → Int32 → Mm → Option (Int64 × Mm)) : Nat → Int32 → Int64 → Int32 → Int64 → Int32 → Mm → Option (Int64 × Mm)
  | 0, _, _, _, _, _, _ => none
  | n + 1, x1, x2, x4, x6, x8, g => (if (rdI g 40 4) ≤ x8 then K5 x1 (x2 + x6) (x4 + (1 : Int32)) g else (if ((shrI x4 x8) &&& (1 : Int32)) = (1 : Int32) then gdd (ixo x8 6) (lti (x6 * ((100 : Int32) - (rdI g 43 x8.toNatClampNeg)).toInt64) (fun v6 => m_X10_tellsAbove_93 K5 n x1 x2 x4 v6 (x8 + (1 : Int32)) g)) else gdd (ixo x8 6) (lti (x6 * (rdI g 43 x8.toNatClampNeg).toInt64) (fun v4 => m_X10_tellsAbove_93 K5 n x1 x2 x4 v4 (x8 + (1 : Int32)) g))))
set_option maxHeartbeats 2000000 in
theorem t_X10_tellsAbove_93 {r2 : Int64} {g2 : Mm} (X : gx_X p R s m args meth c D al cI cJ A RX10 cX10_tellsAbove 9 (some .long) d 0 0) (hd : 2 ≤ d) {K5 : Int32 → Int64 → Int32 → Mm → Option (Int64 × Mm)} (hK5 : ∀ (u0 : Int32) (u1 : Int64) (u2 : Int32) (g : Mm), K5 u0 u1 u2 g = some (r2, g2) → gx_G p l e R s m args below meth c (gx_Q below args s D al cI cJ A (some (.long r2)) g2) D al cI cJ A 9 0 0 5 [(0, .ref (al (40))), (1, .int (u0)), (2, .long (u1)), (4, .int (u2))] [] g) : ∀ (n : Nat) (x1 : Int32) (x2 : Int64) (x4 : Int32) (x6 : Int64) (x8 : Int32) (g : Mm), m_X10_tellsAbove_93 K5 n x1 x2 x4 x6 x8 g = some (r2, g2) → gx_G p l e R s m args below meth c (gx_Q below args s D al cI cJ A (some (.long r2)) g2) D al cI cJ A 9 0 0 93 [(0, .ref (al (40))), (1, .int (x1)), (2, .long (x2)), (4, .int (x4)), (6, .long (x6)), (8, .int (x8))] [] g := by
  intro n
  induction n with
  | zero => intro x1 x2 x4 x6 x8 g h; cases h
  | succ n ih =>
    intro x1 x2 x4 x6 x8 g h
    rw [m_X10_tellsAbove_93] at h
    refine gx_iload X 5 rfl dX10_tellsAbove_93 ?_
    refine gx_aload_n X 0 rfl dX10_tellsAbove_95 ?_
    refine gx_getf X (40) lf_X10_89 (by decide) (cl_40 _ _) (v := .int ((rdI g 40 4))) rfl dX10_tellsAbove_96 ?_
    refine gx_icmp_ge X 146 dX10_tellsAbove_99 (by decide) (fun q1 => ?_) (fun q1 => ?_)
    · replace h := (if_pos q1).symm.trans h
      refine gx_lload_n X 2 rfl dX10_tellsAbove_146 ?_
      refine gx_lload X 4 rfl dX10_tellsAbove_147 ?_
      refine gx_ladd X dX10_tellsAbove_149 ?_
      refine gx_lstore_n X [(2, .long ((x2 + x6))), (0, .ref (al (40))), (1, .int (x1)), (4, .int (x4)), (6, .long (x6)), (8, .int (x8))] dX10_tellsAbove_150 (by decide) rfl ?_
      refine gx_iinc X [(4, .int ((x4 + (1 : Int32)))), (2, .long ((x2 + x6))), (0, .ref (al (40))), (1, .int (x1)), (6, .long (x6)), (8, .int (x8))] 3 dX10_tellsAbove_151 rfl rfl (by decide) rfl ?_
      refine gx_goto X 5 dX10_tellsAbove_154 (by decide) ?_
      exact gx_sub [2, 3, 1, 0] rfl (hK5 x1 (x2 + x6) (x4 + (1 : Int32)) g h)
    · replace h := (if_neg q1).symm.trans h
      refine gx_lload X 4 rfl dX10_tellsAbove_102 ?_
      refine gx_iload X 3 rfl dX10_tellsAbove_104 ?_
      refine gx_iload X 5 rfl dX10_tellsAbove_106 ?_
      refine gx_ishr X dX10_tellsAbove_108 ?_
      refine gx_iconst X (v := (1 : Int32)) dX10_tellsAbove_109 (by decide) ?_
      refine gx_iand X dX10_tellsAbove_110 ?_
      refine gx_iconst X (v := (1 : Int32)) dX10_tellsAbove_111 (by decide) ?_
      refine gx_icmp_ne X 129 dX10_tellsAbove_112 (by decide) (fun q2 => ?_) (fun q2 => ?_)
      · replace h := (if_neg q2).symm.trans h
        refine gx_aload_n X 0 rfl dX10_tellsAbove_129 ?_
        refine gx_getf X (40) lf_X10_18 (by decide) (cl_40 _ _) (v := .ref (al (43))) rfl dX10_tellsAbove_130 ?_
        refine gx_iload X 5 rfl dX10_tellsAbove_133 ?_
        obtain ⟨q3, h⟩ := gdd_eq h
        refine gx_iald X (43) 6 (by decide) (cl_43 _ _) q3 dX10_tellsAbove_135 ?_
        refine gx_i2l X dX10_tellsAbove_136 ?_
        refine gx_lmul X dX10_tellsAbove_137 ?_
        obtain ⟨v4, ev4, h⟩ := lti_eq h
        refine gx_topl ev4 ?_
        refine gx_lstore X [(6, .long (v4)), (0, .ref (al (40))), (1, .int (x1)), (2, .long (x2)), (4, .int (x4)), (8, .int (x8))] dX10_tellsAbove_138 (by decide) rfl ?_
        refine gx_iinc X [(8, .int ((x8 + (1 : Int32)))), (6, .long (v4)), (0, .ref (al (40))), (1, .int (x1)), (2, .long (x2)), (4, .int (x4))] 5 dX10_tellsAbove_140 rfl rfl (by decide) rfl ?_
        refine gx_goto X 93 dX10_tellsAbove_143 (by decide) ?_
        exact gx_sub [2, 3, 4, 5, 1, 0] rfl (ih x1 x2 x4 v4 (x8 + (1 : Int32)) g h)
      · replace h := (if_pos q2).symm.trans h
        refine gx_bipush X (v := (100 : Int32)) dX10_tellsAbove_115 (by decide) ?_
        refine gx_aload_n X 0 rfl dX10_tellsAbove_117 ?_
        refine gx_getf X (40) lf_X10_18 (by decide) (cl_40 _ _) (v := .ref (al (43))) rfl dX10_tellsAbove_118 ?_
        refine gx_iload X 5 rfl dX10_tellsAbove_121 ?_
        obtain ⟨q5, h⟩ := gdd_eq h
        refine gx_iald X (43) 6 (by decide) (cl_43 _ _) q5 dX10_tellsAbove_123 ?_
        refine gx_isub X dX10_tellsAbove_124 ?_
        refine gx_i2l X dX10_tellsAbove_125 ?_
        refine gx_goto X 137 dX10_tellsAbove_126 (by decide) ?_
        refine gx_lmul X dX10_tellsAbove_137 ?_
        obtain ⟨v6, ev6, h⟩ := lti_eq h
        refine gx_topl ev6 ?_
        refine gx_lstore X [(6, .long (v6)), (0, .ref (al (40))), (1, .int (x1)), (2, .long (x2)), (4, .int (x4)), (8, .int (x8))] dX10_tellsAbove_138 (by decide) rfl ?_
        refine gx_iinc X [(8, .int ((x8 + (1 : Int32)))), (6, .long (v6)), (0, .ref (al (40))), (1, .int (x1)), (2, .long (x2)), (4, .int (x4))] 5 dX10_tellsAbove_140 rfl rfl (by decide) rfl ?_
        refine gx_goto X 93 dX10_tellsAbove_143 (by decide) ?_
        exact gx_sub [2, 3, 4, 5, 1, 0] rfl (ih x1 x2 x4 v6 (x8 + (1 : Int32)) g h)
def m_X10_tellsAbove_22 (K5 : Int32 → Int64 → Int32 → Mm → Option (Int64 × Mm)) : Nat → Int32 → Int64 → Int32 → Int32 → Int32 → Mm → Option (Int64 × Mm)
  | 0, _, _, _, _, _, _ => none
  | n + 1, x1, x2, x4, x5, x6, g => (if (rdI g 40 5) ≤ x6 then (if x5 = (0 : Int32) then m_X10_tellsAbove_93 (K5) fuL x1 x2 x4 (0 : Int64) (0 : Int32) g else m_X10_tellsAbove_93 (K5) fuL x1 x2 x4 (1 : Int64) (0 : Int32) g) else (if x5 = (0 : Int32) then m_X10_tellsAbove_22 K5 n x1 x2 x4 (0 : Int32) (x6 + (1 : Int32)) g else (if x6 = x1 then m_X10_tellsAbove_22 K5 n x1 x2 x4 (1 : Int32) (x6 + (1 : Int32)) g else bdd (m_X10_areMixed x6 x1 g) (fun ra5 ga6 => (if ra5 = (0 : Int32) then bdd (m_X10_differ x6 x1 ga6) (fun ra9 ga10 => (if (ra9 &&& x4) = (0 : Int32) then m_X10_tellsAbove_22 K5 n x1 x2 x4 (0 : Int32) (x6 + (1 : Int32)) ga10 else m_X10_tellsAbove_22 K5 n x1 x2 x4 (1 : Int32) (x6 + (1 : Int32)) ga10)) else m_X10_tellsAbove_22 K5 n x1 x2 x4 (1 : Int32) (x6 + (1 : Int32)) ga6)))))
set_option maxHeartbeats 2000000 in
theorem t_X10_tellsAbove_22 {r2 : Int64} {g2 : Mm} (X : gx_X p R s m args meth c D al cI cJ A RX10 cX10_tellsAbove 9 (some .long) d 0 0) (hd : 2 ≤ d) {K5 : Int32 → Int64 → Int32 → Mm → Option (Int64 × Mm)} (hK5 : ∀ (u0 : Int32) (u1 : Int64) (u2 : Int32) (g : Mm), K5 u0 u1 u2 g = some (r2, g2) → gx_G p l e R s m args below meth c (gx_Q below args s D al cI cJ A (some (.long r2)) g2) D al cI cJ A 9 0 0 5 [(0, .ref (al (40))), (1, .int (u0)), (2, .long (u1)), (4, .int (u2))] [] g) : ∀ (n : Nat) (x1 : Int32) (x2 : Int64) (x4 : Int32) (x5 : Int32) (x6 : Int32) (g : Mm), m_X10_tellsAbove_22 K5 n x1 x2 x4 x5 x6 g = some (r2, g2) → gx_G p l e R s m args below meth c (gx_Q below args s D al cI cJ A (some (.long r2)) g2) D al cI cJ A 9 0 0 22 [(0, .ref (al (40))), (1, .int (x1)), (2, .long (x2)), (4, .int (x4)), (5, .int (x5)), (6, .int (x6))] [] g := by
  intro n
  induction n with
  | zero => intro x1 x2 x4 x5 x6 g h; cases h
  | succ n ih =>
    intro x1 x2 x4 x5 x6 g h
    rw [m_X10_tellsAbove_22] at h
    refine gx_iload X 5 rfl dX10_tellsAbove_22 ?_
    refine gx_aload_n X 0 rfl dX10_tellsAbove_24 ?_
    refine gx_getf X (40) lf_X10_21 (by decide) (cl_40 _ _) (v := .int ((rdI g 40 5))) rfl dX10_tellsAbove_25 ?_
    refine gx_icmp_ge X 78 dX10_tellsAbove_28 (by decide) (fun q1 => ?_) (fun q1 => ?_)
    · replace h := (if_pos q1).symm.trans h
      refine gx_iload X 4 rfl dX10_tellsAbove_78 ?_
      refine gx_if_eq X 87 dX10_tellsAbove_80 (by decide) (fun q2 => ?_) (fun q2 => ?_)
      · replace h := (if_pos q2).symm.trans h
        refine gx_lconst X (v := (0 : Int64)) dX10_tellsAbove_87 (by decide) ?_
        refine gx_lstore X [(6, .long ((0 : Int64))), (0, .ref (al (40))), (1, .int (x1)), (2, .long (x2)), (4, .int (x4)), (5, .int (x5))] dX10_tellsAbove_88 (by decide) rfl ?_
        refine gx_iconst X (v := (0 : Int32)) dX10_tellsAbove_90 (by decide) ?_
        refine gx_istore X [(8, .int ((0 : Int32))), (6, .long ((0 : Int64))), (0, .ref (al (40))), (1, .int (x1)), (2, .long (x2)), (4, .int (x4)), (5, .int (x5))] dX10_tellsAbove_91 (by decide) rfl ?_
        exact gx_sub [2, 3, 4, 5, 1, 0] rfl (t_X10_tellsAbove_93 X hd (fun u0 u1 u2 g h => hK5 u0 u1 u2 g h) fuL x1 x2 x4 (0 : Int64) (0 : Int32) g h)
      · replace h := (if_neg q2).symm.trans h
        refine gx_lconst X (v := (1 : Int64)) dX10_tellsAbove_83 (by decide) ?_
        refine gx_goto X 88 dX10_tellsAbove_84 (by decide) ?_
        refine gx_lstore X [(6, .long ((1 : Int64))), (0, .ref (al (40))), (1, .int (x1)), (2, .long (x2)), (4, .int (x4)), (5, .int (x5))] dX10_tellsAbove_88 (by decide) rfl ?_
        refine gx_iconst X (v := (0 : Int32)) dX10_tellsAbove_90 (by decide) ?_
        refine gx_istore X [(8, .int ((0 : Int32))), (6, .long ((1 : Int64))), (0, .ref (al (40))), (1, .int (x1)), (2, .long (x2)), (4, .int (x4)), (5, .int (x5))] dX10_tellsAbove_91 (by decide) rfl ?_
        exact gx_sub [2, 3, 4, 5, 1, 0] rfl (t_X10_tellsAbove_93 X hd (fun u0 u1 u2 g h => hK5 u0 u1 u2 g h) fuL x1 x2 x4 (1 : Int64) (0 : Int32) g h)
    · replace h := (if_neg q1).symm.trans h
      refine gx_iload X 4 rfl dX10_tellsAbove_31 ?_
      refine gx_if_eq X 69 dX10_tellsAbove_33 (by decide) (fun q3 => ?_) (fun q3 => ?_)
      · replace h := (if_pos q3).symm.trans h
        refine gx_iconst X (v := (0 : Int32)) dX10_tellsAbove_69 (by decide) ?_
        refine gx_istore X [(5, .int ((0 : Int32))), (0, .ref (al (40))), (1, .int (x1)), (2, .long (x2)), (4, .int (x4)), (6, .int (x6))] dX10_tellsAbove_70 (by decide) rfl ?_
        refine gx_iinc X [(6, .int ((x6 + (1 : Int32)))), (5, .int ((0 : Int32))), (0, .ref (al (40))), (1, .int (x1)), (2, .long (x2)), (4, .int (x4))] 5 dX10_tellsAbove_72 rfl rfl (by decide) rfl ?_
        refine gx_goto X 22 dX10_tellsAbove_75 (by decide) ?_
        exact gx_sub [2, 3, 4, 5, 1, 0] rfl (ih x1 x2 x4 (0 : Int32) (x6 + (1 : Int32)) g h)
      · replace h := (if_neg q3).symm.trans h
        refine gx_iload X 5 rfl dX10_tellsAbove_36 ?_
        refine gx_iload_n X 1 rfl dX10_tellsAbove_38 ?_
        refine gx_icmp_eq X 65 dX10_tellsAbove_39 (by decide) (fun q4 => ?_) (fun q4 => ?_)
        · replace h := (if_pos q4).symm.trans h
          refine gx_iconst X (v := (1 : Int32)) dX10_tellsAbove_65 (by decide) ?_
          refine gx_goto X 70 dX10_tellsAbove_66 (by decide) ?_
          refine gx_istore X [(5, .int ((1 : Int32))), (0, .ref (al (40))), (1, .int (x1)), (2, .long (x2)), (4, .int (x4)), (6, .int (x6))] dX10_tellsAbove_70 (by decide) rfl ?_
          refine gx_iinc X [(6, .int ((x6 + (1 : Int32)))), (5, .int ((1 : Int32))), (0, .ref (al (40))), (1, .int (x1)), (2, .long (x2)), (4, .int (x4))] 5 dX10_tellsAbove_72 rfl rfl (by decide) rfl ?_
          refine gx_goto X 22 dX10_tellsAbove_75 (by decide) ?_
          exact gx_sub [2, 3, 4, 5, 1, 0] rfl (ih x1 x2 x4 (1 : Int32) (x6 + (1 : Int32)) g h)
        · replace h := (if_neg q4).symm.trans h
          refine gx_aload_n X 0 rfl dX10_tellsAbove_42 ?_
          refine gx_iload X 5 rfl dX10_tellsAbove_43 ?_
          refine gx_iload_n X 1 rfl dX10_tellsAbove_45 ?_
          obtain ⟨ra5, ga6, ca7, h⟩ := bdd_eq h
          refine gx_callVi X (40) (c_X10_areMixed ca7) lc_X10_areMixed li_X10_areMixed lm_X10_232 (by decide) (cl_40 _ _) rfl rfl rfl (Nat.le_trans (by decide) hd) rfl (Nat.le_of_ble_eq_true rfl) dX10_tellsAbove_46 ?_
          refine gx_if_ne X 65 dX10_tellsAbove_49 (by decide) (fun q8 => ?_) (fun q8 => ?_)
          · replace h := (if_neg q8).symm.trans h
            refine gx_iconst X (v := (1 : Int32)) dX10_tellsAbove_65 (by decide) ?_
            refine gx_goto X 70 dX10_tellsAbove_66 (by decide) ?_
            refine gx_istore X [(5, .int ((1 : Int32))), (0, .ref (al (40))), (1, .int (x1)), (2, .long (x2)), (4, .int (x4)), (6, .int (x6))] dX10_tellsAbove_70 (by decide) rfl ?_
            refine gx_iinc X [(6, .int ((x6 + (1 : Int32)))), (5, .int ((1 : Int32))), (0, .ref (al (40))), (1, .int (x1)), (2, .long (x2)), (4, .int (x4))] 5 dX10_tellsAbove_72 rfl rfl (by decide) rfl ?_
            refine gx_goto X 22 dX10_tellsAbove_75 (by decide) ?_
            exact gx_sub [2, 3, 4, 5, 1, 0] rfl (ih x1 x2 x4 (1 : Int32) (x6 + (1 : Int32)) ga6 h)
          · replace h := (if_pos q8).symm.trans h
            refine gx_aload_n X 0 rfl dX10_tellsAbove_52 ?_
            refine gx_iload X 5 rfl dX10_tellsAbove_53 ?_
            refine gx_iload_n X 1 rfl dX10_tellsAbove_55 ?_
            obtain ⟨ra9, ga10, ca11, h⟩ := bdd_eq h
            refine gx_callVi X (40) (c_X10_differ ca11) lc_X10_differ li_X10_differ lm_X10_236 (by decide) (cl_40 _ _) rfl rfl rfl (Nat.le_trans (by decide) hd) rfl (Nat.le_of_ble_eq_true rfl) dX10_tellsAbove_56 ?_
            refine gx_iload X 3 rfl dX10_tellsAbove_59 ?_
            refine gx_iand X dX10_tellsAbove_61 ?_
            refine gx_if_eq X 69 dX10_tellsAbove_62 (by decide) (fun q12 => ?_) (fun q12 => ?_)
            · replace h := (if_pos q12).symm.trans h
              refine gx_iconst X (v := (0 : Int32)) dX10_tellsAbove_69 (by decide) ?_
              refine gx_istore X [(5, .int ((0 : Int32))), (0, .ref (al (40))), (1, .int (x1)), (2, .long (x2)), (4, .int (x4)), (6, .int (x6))] dX10_tellsAbove_70 (by decide) rfl ?_
              refine gx_iinc X [(6, .int ((x6 + (1 : Int32)))), (5, .int ((0 : Int32))), (0, .ref (al (40))), (1, .int (x1)), (2, .long (x2)), (4, .int (x4))] 5 dX10_tellsAbove_72 rfl rfl (by decide) rfl ?_
              refine gx_goto X 22 dX10_tellsAbove_75 (by decide) ?_
              exact gx_sub [2, 3, 4, 5, 1, 0] rfl (ih x1 x2 x4 (0 : Int32) (x6 + (1 : Int32)) ga10 h)
            · replace h := (if_neg q12).symm.trans h
              refine gx_iconst X (v := (1 : Int32)) dX10_tellsAbove_65 (by decide) ?_
              refine gx_goto X 70 dX10_tellsAbove_66 (by decide) ?_
              refine gx_istore X [(5, .int ((1 : Int32))), (0, .ref (al (40))), (1, .int (x1)), (2, .long (x2)), (4, .int (x4)), (6, .int (x6))] dX10_tellsAbove_70 (by decide) rfl ?_
              refine gx_iinc X [(6, .int ((x6 + (1 : Int32)))), (5, .int ((1 : Int32))), (0, .ref (al (40))), (1, .int (x1)), (2, .long (x2)), (4, .int (x4))] 5 dX10_tellsAbove_72 rfl rfl (by decide) rfl ?_
              refine gx_goto X 22 dX10_tellsAbove_75 (by decide) ?_
              exact gx_sub [2, 3, 4, 5, 1, 0] rfl (ih x1 x2 x4 (1 : Int32) (x6 + (1 : Int32)) ga10 h)
def m_X10_tellsAbove_5 : Nat → Int32 → Int64 → Int32 → Mm → Option (Int64 × Mm)
  | 0, _, _, _, _ => none
  | n + 1, x1, x2, x4, g => (if (shlI (1 : Int32) (rdI g 40 4)) ≤ x4 then some (x2, g) else m_X10_tellsAbove_22 (m_X10_tellsAbove_5 n) fuL x1 x2 x4 (1 : Int32) (0 : Int32) g)
set_option maxHeartbeats 2000000 in
theorem t_X10_tellsAbove_5 {r2 : Int64} {g2 : Mm} (X : gx_X p R s m args meth c D al cI cJ A RX10 cX10_tellsAbove 9 (some .long) d 0 0) (hd : 2 ≤ d) : ∀ (n : Nat) (x1 : Int32) (x2 : Int64) (x4 : Int32) (g : Mm), m_X10_tellsAbove_5 n x1 x2 x4 g = some (r2, g2) → gx_G p l e R s m args below meth c (gx_Q below args s D al cI cJ A (some (.long r2)) g2) D al cI cJ A 9 0 0 5 [(0, .ref (al (40))), (1, .int (x1)), (2, .long (x2)), (4, .int (x4))] [] g := by
  intro n
  induction n with
  | zero => intro x1 x2 x4 g h; cases h
  | succ n ih =>
    intro x1 x2 x4 g h
    rw [m_X10_tellsAbove_5] at h
    refine gx_iload X 3 rfl dX10_tellsAbove_5 ?_
    refine gx_iconst X (v := (1 : Int32)) dX10_tellsAbove_7 (by decide) ?_
    refine gx_aload_n X 0 rfl dX10_tellsAbove_8 ?_
    refine gx_getf X (40) lf_X10_89 (by decide) (cl_40 _ _) (v := .int ((rdI g 40 4))) rfl dX10_tellsAbove_9 ?_
    refine gx_ishl X dX10_tellsAbove_12 ?_
    refine gx_icmp_ge X 157 dX10_tellsAbove_13 (by decide) (fun q1 => ?_) (fun q1 => ?_)
    · replace h := (if_pos q1).symm.trans h
      refine gx_lload_n X 2 rfl dX10_tellsAbove_157 ?_
      obtain ⟨rfl, rfl⟩ := ret_eq h
      exact gx_lret X dX10_tellsAbove_158
    · replace h := (if_neg q1).symm.trans h
      refine gx_iconst X (v := (1 : Int32)) dX10_tellsAbove_16 (by decide) ?_
      refine gx_istore X [(5, .int ((1 : Int32))), (0, .ref (al (40))), (1, .int (x1)), (2, .long (x2)), (4, .int (x4))] dX10_tellsAbove_17 (by decide) rfl ?_
      refine gx_iconst X (v := (0 : Int32)) dX10_tellsAbove_19 (by decide) ?_
      refine gx_istore X [(6, .int ((0 : Int32))), (5, .int ((1 : Int32))), (0, .ref (al (40))), (1, .int (x1)), (2, .long (x2)), (4, .int (x4))] dX10_tellsAbove_20 (by decide) rfl ?_
      exact gx_sub [2, 3, 4, 5, 1, 0] rfl (t_X10_tellsAbove_22 X hd (fun u0 u1 u2 g h => ih u0 u1 u2 g h) fuL x1 x2 x4 (1 : Int32) (0 : Int32) g h)
def m_X10_tellsAbove (a1 : Int32) (g : Mm) : Option (Int64 × Mm) := m_X10_tellsAbove_5 fuL a1 (0 : Int64) (0 : Int32) g
set_option maxHeartbeats 2000000 in
theorem c_X10_tellsAbove {r2 : Int64} {g g2 : Mm} {a1 : Int32} (h : m_X10_tellsAbove a1 g = some (r2, g2)) : gx_M 2 yX10_tellsAbove cX10_tellsAbove 9 (some .long) (fun al => [.ref (al (40)), .int (a1)]) g (some (.long r2)) g2 := by
  have hd : 2 ≤ 2 := Nat.le_refl _
  refine gx_M.of (by decide +kernel) (fun _ => Nat.le_of_ble_eq_true rfl) ?_
  intro p l e R s m args below meth c D al cI cJ A X
  refine gx_eq (pc' := 0) (ls' := [(0, .ref (al (40))), (1, .int (a1))]) (st' := []) (g' := g) ⟨rfl, rfl, rfl, rfl⟩ ?_
  unfold m_X10_tellsAbove at h
  refine gx_lconst X (v := (0 : Int64)) dX10_tellsAbove_0 (by decide) ?_
  refine gx_lstore_n X [(2, .long ((0 : Int64))), (0, .ref (al (40))), (1, .int (a1))] dX10_tellsAbove_1 (by decide) rfl ?_
  refine gx_iconst X (v := (0 : Int32)) dX10_tellsAbove_2 (by decide) ?_
  refine gx_istore X [(4, .int ((0 : Int32))), (2, .long ((0 : Int64))), (0, .ref (al (40))), (1, .int (a1))] dX10_tellsAbove_3 (by decide) rfl ?_
  exact gx_sub [2, 3, 1, 0] rfl (t_X10_tellsAbove_5 X hd fuL a1 (0 : Int64) (0 : Int32) g h)
theorem dX10_odds_0 : decode cX10_odds 0 = .ok (.iload_n 1, 1) := by decide +kernel
theorem dX10_odds_1 : decode cX10_odds 1 = .ok (.iconst (-1), 1) := by decide +kernel
theorem dX10_odds_2 : decode cX10_odds 2 = .ok (.if_icmp .eq 11, 3) := by decide +kernel
theorem dX10_odds_5 : decode cX10_odds 5 = .ok (.aload_n 0, 1) := by decide +kernel
theorem dX10_odds_6 : decode cX10_odds 6 = .ok (.iload_n 1, 1) := by decide +kernel
theorem dX10_odds_7 : decode cX10_odds 7 = .ok (.invokevirtual 96, 3) := by decide +kernel
theorem dX10_odds_10 : decode cX10_odds 10 = .ok (.ifCond .eq 13, 3) := by decide +kernel
theorem dX10_odds_13 : decode cX10_odds 13 = .ok (.iload_n 2, 1) := by decide +kernel
theorem dX10_odds_14 : decode cX10_odds 14 = .ok (.i2l, 1) := by decide +kernel
theorem dX10_odds_15 : decode cX10_odds 15 = .ok (.lconst 0, 1) := by decide +kernel
theorem dX10_odds_16 : decode cX10_odds 16 = .ok (.lconst 1, 1) := by decide +kernel
theorem dX10_odds_17 : decode cX10_odds 17 = .ok (.invokestatic 92, 3) := by decide +kernel
theorem dX10_odds_20 : decode cX10_odds 20 = .ok (.ifCond .ne 7, 3) := by decide +kernel
theorem dX10_odds_23 : decode cX10_odds 23 = .ok (.ldc2_w 285, 3) := by decide +kernel
theorem dX10_odds_26 : decode cX10_odds 26 = .ok (.lreturn, 1) := by decide +kernel
theorem dX10_odds_27 : decode cX10_odds 27 = .ok (.lconst 1, 1) := by decide +kernel
theorem dX10_odds_28 : decode cX10_odds 28 = .ok (.lstore_n 3, 1) := by decide +kernel
theorem dX10_odds_29 : decode cX10_odds 29 = .ok (.iconst 0, 1) := by decide +kernel
theorem dX10_odds_30 : decode cX10_odds 30 = .ok (.istore 5, 2) := by decide +kernel
theorem dX10_odds_32 : decode cX10_odds 32 = .ok (.iload 5, 2) := by decide +kernel
theorem dX10_odds_34 : decode cX10_odds 34 = .ok (.aload_n 0, 1) := by decide +kernel
theorem dX10_odds_35 : decode cX10_odds 35 = .ok (.getfield 89, 3) := by decide +kernel
theorem dX10_odds_38 : decode cX10_odds 38 = .ok (.if_icmp .ge 15, 3) := by decide +kernel
theorem dX10_odds_41 : decode cX10_odds 41 = .ok (.lload_n 3, 1) := by decide +kernel
theorem dX10_odds_42 : decode cX10_odds 42 = .ok (.ldc2_w 275, 3) := by decide +kernel
theorem dX10_odds_45 : decode cX10_odds 45 = .ok (.lmul, 1) := by decide +kernel
theorem dX10_odds_46 : decode cX10_odds 46 = .ok (.lstore_n 3, 1) := by decide +kernel
theorem dX10_odds_47 : decode cX10_odds 47 = .ok (.iinc 5 1, 3) := by decide +kernel
theorem dX10_odds_50 : decode cX10_odds 50 = .ok (.goto (-18), 3) := by decide +kernel
theorem dX10_odds_53 : decode cX10_odds 53 = .ok (.iload_n 1, 1) := by decide +kernel
theorem dX10_odds_54 : decode cX10_odds 54 = .ok (.ifCond .lt 14, 3) := by decide +kernel
theorem dX10_odds_57 : decode cX10_odds 57 = .ok (.aload_n 0, 1) := by decide +kernel
theorem dX10_odds_58 : decode cX10_odds 58 = .ok (.iload_n 1, 1) := by decide +kernel
theorem dX10_odds_59 : decode cX10_odds 59 = .ok (.invokevirtual 287, 3) := by decide +kernel
theorem dX10_odds_62 : decode cX10_odds 62 = .ok (.lload_n 3, 1) := by decide +kernel
theorem dX10_odds_63 : decode cX10_odds 63 = .ok (.iload_n 2, 1) := by decide +kernel
theorem dX10_odds_64 : decode cX10_odds 64 = .ok (.invokestatic 291, 3) := by decide +kernel
theorem dX10_odds_67 : decode cX10_odds 67 = .ok (.lreturn, 1) := by decide +kernel
theorem dX10_odds_68 : decode cX10_odds 68 = .ok (.lconst 0, 1) := by decide +kernel
theorem dX10_odds_69 : decode cX10_odds 69 = .ok (.lstore 5, 2) := by decide +kernel
theorem dX10_odds_71 : decode cX10_odds 71 = .ok (.iconst 0, 1) := by decide +kernel
theorem dX10_odds_72 : decode cX10_odds 72 = .ok (.istore 7, 2) := by decide +kernel
theorem dX10_odds_74 : decode cX10_odds 74 = .ok (.iload 7, 2) := by decide +kernel
theorem dX10_odds_76 : decode cX10_odds 76 = .ok (.aload_n 0, 1) := by decide +kernel
theorem dX10_odds_77 : decode cX10_odds 77 = .ok (.getfield 21, 3) := by decide +kernel
theorem dX10_odds_80 : decode cX10_odds 80 = .ok (.if_icmp .ge 20, 3) := by decide +kernel
theorem dX10_odds_83 : decode cX10_odds 83 = .ok (.lload 5, 2) := by decide +kernel
theorem dX10_odds_85 : decode cX10_odds 85 = .ok (.aload_n 0, 1) := by decide +kernel
theorem dX10_odds_86 : decode cX10_odds 86 = .ok (.iload 7, 2) := by decide +kernel
theorem dX10_odds_88 : decode cX10_odds 88 = .ok (.invokevirtual 287, 3) := by decide +kernel
theorem dX10_odds_91 : decode cX10_odds 91 = .ok (.ladd, 1) := by decide +kernel
theorem dX10_odds_92 : decode cX10_odds 92 = .ok (.lstore 5, 2) := by decide +kernel
theorem dX10_odds_94 : decode cX10_odds 94 = .ok (.iinc 7 1, 3) := by decide +kernel
theorem dX10_odds_97 : decode cX10_odds 97 = .ok (.goto (-23), 3) := by decide +kernel
theorem dX10_odds_100 : decode cX10_odds 100 = .ok (.lload 5, 2) := by decide +kernel
theorem dX10_odds_102 : decode cX10_odds 102 = .ok (.lload_n 3, 1) := by decide +kernel
theorem dX10_odds_103 : decode cX10_odds 103 = .ok (.aload_n 0, 1) := by decide +kernel
theorem dX10_odds_104 : decode cX10_odds 104 = .ok (.getfield 21, 3) := by decide +kernel
theorem dX10_odds_107 : decode cX10_odds 107 = .ok (.i2l, 1) := by decide +kernel
theorem dX10_odds_108 : decode cX10_odds 108 = .ok (.lmul, 1) := by decide +kernel
theorem dX10_odds_109 : decode cX10_odds 109 = .ok (.iload_n 2, 1) := by decide +kernel
theorem dX10_odds_110 : decode cX10_odds 110 = .ok (.invokestatic 291, 3) := by decide +kernel
theorem dX10_odds_113 : decode cX10_odds 113 = .ok (.lreturn, 1) := by decide +kernel
def m_X10_odds_74 : Nat → Int32 → Int64 → Int64 → Int32 → Mm → Option (Int64 × Mm)
  | 0, _, _, _, _, _ => none
  | n + 1, x2, x3, x5, x7, g => (if (rdI g 40 5) ≤ x7 then bdd (m_X10_lowest x5 (x3 * (rdI g 40 5).toInt64) x2 g) (fun ra2 ga3 => some (ra2, ga3)) else bdd (m_X10_tellsAbove x7 g) (fun ra5 ga6 => m_X10_odds_74 n x2 x3 (x5 + ra5) (x7 + (1 : Int32)) ga6))
set_option maxHeartbeats 2000000 in
theorem t_X10_odds_74 {r2 : Int64} {g2 : Mm} (X : gx_X p R s m args meth c D al cI cJ A RX10 cX10_odds 8 (some .long) d 0 0) (hd : 3 ≤ d) : ∀ (n : Nat) (x2 : Int32) (x3 : Int64) (x5 : Int64) (x7 : Int32) (g : Mm), m_X10_odds_74 n x2 x3 x5 x7 g = some (r2, g2) → gx_G p l e R s m args below meth c (gx_Q below args s D al cI cJ A (some (.long r2)) g2) D al cI cJ A 8 0 0 74 [(0, .ref (al (40))), (2, .int (x2)), (3, .long (x3)), (5, .long (x5)), (7, .int (x7))] [] g := by
  intro n
  induction n with
  | zero => intro x2 x3 x5 x7 g h; cases h
  | succ n ih =>
    intro x2 x3 x5 x7 g h
    rw [m_X10_odds_74] at h
    refine gx_iload X 4 rfl dX10_odds_74 ?_
    refine gx_aload_n X 0 rfl dX10_odds_76 ?_
    refine gx_getf X (40) lf_X10_21 (by decide) (cl_40 _ _) (v := .int ((rdI g 40 5))) rfl dX10_odds_77 ?_
    refine gx_icmp_ge X 100 dX10_odds_80 (by decide) (fun q1 => ?_) (fun q1 => ?_)
    · replace h := (if_pos q1).symm.trans h
      refine gx_lload X 3 rfl dX10_odds_100 ?_
      refine gx_lload_n X 2 rfl dX10_odds_102 ?_
      refine gx_aload_n X 0 rfl dX10_odds_103 ?_
      refine gx_getf X (40) lf_X10_21 (by decide) (cl_40 _ _) (v := .int ((rdI g 40 5))) rfl dX10_odds_104 ?_
      refine gx_i2l X dX10_odds_107 ?_
      refine gx_lmul X dX10_odds_108 ?_
      refine gx_iload_n X 1 rfl dX10_odds_109 ?_
      obtain ⟨ra2, ga3, ca4, h⟩ := bdd_eq h
      refine gx_callSl X (c_X10_lowest ca4) lc_X10_lowest li_X10_lowest lm_X10_291 rfl rfl (Nat.le_trans (by decide) hd) rfl (Nat.le_of_ble_eq_true rfl) dX10_odds_110 ?_
      obtain ⟨rfl, rfl⟩ := ret_eq h
      exact gx_lret X dX10_odds_113
    · replace h := (if_neg q1).symm.trans h
      refine gx_lload X 3 rfl dX10_odds_83 ?_
      refine gx_aload_n X 0 rfl dX10_odds_85 ?_
      refine gx_iload X 4 rfl dX10_odds_86 ?_
      obtain ⟨ra5, ga6, ca7, h⟩ := bdd_eq h
      refine gx_callVl X (40) (c_X10_tellsAbove ca7) lc_X10_tellsAbove li_X10_tellsAbove lm_X10_287 (by decide) (cl_40 _ _) rfl rfl rfl (Nat.le_trans (by decide) hd) rfl (Nat.le_of_ble_eq_true rfl) dX10_odds_88 ?_
      refine gx_ladd X dX10_odds_91 ?_
      refine gx_lstore X [(5, .long ((x5 + ra5))), (0, .ref (al (40))), (2, .int (x2)), (3, .long (x3)), (7, .int (x7))] dX10_odds_92 (by decide) rfl ?_
      refine gx_iinc X [(7, .int ((x7 + (1 : Int32)))), (5, .long ((x5 + ra5))), (0, .ref (al (40))), (2, .int (x2)), (3, .long (x3))] 4 dX10_odds_94 rfl rfl (by decide) rfl ?_
      refine gx_goto X 74 dX10_odds_97 (by decide) ?_
      exact gx_sub [2, 3, 4, 1, 0] rfl (ih x2 x3 (x5 + ra5) (x7 + (1 : Int32)) ga6 h)
def m_X10_odds_32 : Nat → Int32 → Int32 → Int64 → Int32 → Mm → Option (Int64 × Mm)
  | 0, _, _, _, _, _ => none
  | n + 1, x1, x2, x3, x5, g => (if (rdI g 40 4) ≤ x5 then (if x1 < (0 : Int32) then m_X10_odds_74 fuL x2 x3 (0 : Int64) (0 : Int32) g else bdd (m_X10_tellsAbove x1 g) (fun ra3 ga4 => bdd (m_X10_lowest ra3 x3 x2 ga4) (fun ra6 ga7 => some (ra6, ga7)))) else m_X10_odds_32 n x1 x2 (x3 * (100 : Int64)) (x5 + (1 : Int32)) g)
set_option maxHeartbeats 2000000 in
theorem t_X10_odds_32 {r2 : Int64} {g2 : Mm} (X : gx_X p R s m args meth c D al cI cJ A RX10 cX10_odds 8 (some .long) d 0 0) (hd : 3 ≤ d) : ∀ (n : Nat) (x1 : Int32) (x2 : Int32) (x3 : Int64) (x5 : Int32) (g : Mm), m_X10_odds_32 n x1 x2 x3 x5 g = some (r2, g2) → gx_G p l e R s m args below meth c (gx_Q below args s D al cI cJ A (some (.long r2)) g2) D al cI cJ A 8 0 0 32 [(0, .ref (al (40))), (1, .int (x1)), (2, .int (x2)), (3, .long (x3)), (5, .int (x5))] [] g := by
  intro n
  induction n with
  | zero => intro x1 x2 x3 x5 g h; cases h
  | succ n ih =>
    intro x1 x2 x3 x5 g h
    rw [m_X10_odds_32] at h
    refine gx_iload X 4 rfl dX10_odds_32 ?_
    refine gx_aload_n X 0 rfl dX10_odds_34 ?_
    refine gx_getf X (40) lf_X10_89 (by decide) (cl_40 _ _) (v := .int ((rdI g 40 4))) rfl dX10_odds_35 ?_
    refine gx_icmp_ge X 53 dX10_odds_38 (by decide) (fun q1 => ?_) (fun q1 => ?_)
    · replace h := (if_pos q1).symm.trans h
      refine gx_iload_n X 1 rfl dX10_odds_53 ?_
      refine gx_if_lt X 68 dX10_odds_54 (by decide) (fun q2 => ?_) (fun q2 => ?_)
      · replace h := (if_pos q2).symm.trans h
        refine gx_lconst X (v := (0 : Int64)) dX10_odds_68 (by decide) ?_
        refine gx_lstore X [(5, .long ((0 : Int64))), (0, .ref (al (40))), (1, .int (x1)), (2, .int (x2)), (3, .long (x3))] dX10_odds_69 (by decide) rfl ?_
        refine gx_iconst X (v := (0 : Int32)) dX10_odds_71 (by decide) ?_
        refine gx_istore X [(7, .int ((0 : Int32))), (5, .long ((0 : Int64))), (0, .ref (al (40))), (1, .int (x1)), (2, .int (x2)), (3, .long (x3))] dX10_odds_72 (by decide) rfl ?_
        exact gx_sub [2, 4, 5, 1, 0] rfl (t_X10_odds_74 X hd fuL x2 x3 (0 : Int64) (0 : Int32) g h)
      · replace h := (if_neg q2).symm.trans h
        refine gx_aload_n X 0 rfl dX10_odds_57 ?_
        refine gx_iload_n X 1 rfl dX10_odds_58 ?_
        obtain ⟨ra3, ga4, ca5, h⟩ := bdd_eq h
        refine gx_callVl X (40) (c_X10_tellsAbove ca5) lc_X10_tellsAbove li_X10_tellsAbove lm_X10_287 (by decide) (cl_40 _ _) rfl rfl rfl (Nat.le_trans (by decide) hd) rfl (Nat.le_of_ble_eq_true rfl) dX10_odds_59 ?_
        refine gx_lload_n X 3 rfl dX10_odds_62 ?_
        refine gx_iload_n X 2 rfl dX10_odds_63 ?_
        obtain ⟨ra6, ga7, ca8, h⟩ := bdd_eq h
        refine gx_callSl X (c_X10_lowest ca8) lc_X10_lowest li_X10_lowest lm_X10_291 rfl rfl (Nat.le_trans (by decide) hd) rfl (Nat.le_of_ble_eq_true rfl) dX10_odds_64 ?_
        obtain ⟨rfl, rfl⟩ := ret_eq h
        exact gx_lret X dX10_odds_67
    · replace h := (if_neg q1).symm.trans h
      refine gx_lload_n X 3 rfl dX10_odds_41 ?_
      refine gx_ldc2 X (v := (100 : Int64)) lk_X10_275 dX10_odds_42 ?_
      refine gx_lmul X dX10_odds_45 ?_
      refine gx_lstore_n X [(3, .long ((x3 * (100 : Int64)))), (0, .ref (al (40))), (1, .int (x1)), (2, .int (x2)), (5, .int (x5))] dX10_odds_46 (by decide) rfl ?_
      refine gx_iinc X [(5, .int ((x5 + (1 : Int32)))), (3, .long ((x3 * (100 : Int64)))), (0, .ref (al (40))), (1, .int (x1)), (2, .int (x2))] 4 dX10_odds_47 rfl rfl (by decide) rfl ?_
      refine gx_goto X 32 dX10_odds_50 (by decide) ?_
      exact gx_sub [2, 3, 4, 1, 0] rfl (ih x1 x2 (x3 * (100 : Int64)) (x5 + (1 : Int32)) g h)
def m_X10_odds_13 (x1 : Int32) (x2 : Int32) (g : Mm) : Option (Int64 × Mm) := bdd (m_X10_in (x2.toInt64) (0 : Int64) (1 : Int64) g) (fun ra1 ga2 => (if ra1 = (0 : Int32) then some ((-9223372036854775808 : Int64), ga2) else m_X10_odds_32 fuL x1 x2 (1 : Int64) (0 : Int32) ga2))
set_option maxHeartbeats 2000000 in
theorem t_X10_odds_13 {r2 : Int64} {g2 : Mm} (X : gx_X p R s m args meth c D al cI cJ A RX10 cX10_odds 8 (some .long) d 0 0) (hd : 3 ≤ d) : ∀ (x1 : Int32) (x2 : Int32) (g : Mm), m_X10_odds_13 x1 x2 g = some (r2, g2) → gx_G p l e R s m args below meth c (gx_Q below args s D al cI cJ A (some (.long r2)) g2) D al cI cJ A 8 0 0 13 [(0, .ref (al (40))), (1, .int (x1)), (2, .int (x2))] [] g := by
  intro x1 x2 g h
  unfold m_X10_odds_13 at h
  refine gx_iload_n X 2 rfl dX10_odds_13 ?_
  refine gx_i2l X dX10_odds_14 ?_
  refine gx_lconst X (v := (0 : Int64)) dX10_odds_15 (by decide) ?_
  refine gx_lconst X (v := (1 : Int64)) dX10_odds_16 (by decide) ?_
  obtain ⟨ra1, ga2, ca3, h⟩ := bdd_eq h
  refine gx_callSi X (c_X10_in ca3) lc_X10_in li_X10_in lm_X10_92 rfl rfl (Nat.le_trans (by decide) hd) rfl (Nat.le_of_ble_eq_true rfl) dX10_odds_17 ?_
  refine gx_if_ne X 27 dX10_odds_20 (by decide) (fun q4 => ?_) (fun q4 => ?_)
  · replace h := (if_neg q4).symm.trans h
    refine gx_lconst X (v := (1 : Int64)) dX10_odds_27 (by decide) ?_
    refine gx_lstore_n X [(3, .long ((1 : Int64))), (0, .ref (al (40))), (1, .int (x1)), (2, .int (x2))] dX10_odds_28 (by decide) rfl ?_
    refine gx_iconst X (v := (0 : Int32)) dX10_odds_29 (by decide) ?_
    refine gx_istore X [(5, .int ((0 : Int32))), (3, .long ((1 : Int64))), (0, .ref (al (40))), (1, .int (x1)), (2, .int (x2))] dX10_odds_30 (by decide) rfl ?_
    exact gx_sub [2, 3, 4, 1, 0] rfl (t_X10_odds_32 X hd fuL x1 x2 (1 : Int64) (0 : Int32) ga2 h)
  · replace h := (if_pos q4).symm.trans h
    refine gx_ldc2 X (v := (-9223372036854775808 : Int64)) lk_X10_285 dX10_odds_23 ?_
    obtain ⟨rfl, rfl⟩ := ret_eq h
    exact gx_lret X dX10_odds_26
def m_X10_odds (a1 : Int32) (a2 : Int32) (g : Mm) : Option (Int64 × Mm) := (if a1 = (-1 : Int32) then m_X10_odds_13 a1 a2 g else bdd (m_X10_isHour a1 g) (fun ra2 ga3 => (if ra2 = (0 : Int32) then some ((-9223372036854775808 : Int64), ga3) else m_X10_odds_13 a1 a2 ga3)))
set_option maxHeartbeats 2000000 in
theorem c_X10_odds {r2 : Int64} {g g2 : Mm} {a1 : Int32} {a2 : Int32} (h : m_X10_odds a1 a2 g = some (r2, g2)) : gx_M 3 yX10_odds cX10_odds 8 (some .long) (fun al => [.ref (al (40)), .int (a1), .int (a2)]) g (some (.long r2)) g2 := by
  have hd : 3 ≤ 3 := Nat.le_refl _
  refine gx_M.of (by decide +kernel) (fun _ => Nat.le_of_ble_eq_true rfl) ?_
  intro p l e R s m args below meth c D al cI cJ A X
  refine gx_eq (pc' := 0) (ls' := [(0, .ref (al (40))), (1, .int (a1)), (2, .int (a2))]) (st' := []) (g' := g) ⟨rfl, rfl, rfl, rfl⟩ ?_
  unfold m_X10_odds at h
  refine gx_iload_n X 1 rfl dX10_odds_0 ?_
  refine gx_iconst X (v := (-1 : Int32)) dX10_odds_1 (by decide) ?_
  refine gx_icmp_eq X 13 dX10_odds_2 (by decide) (fun q1 => ?_) (fun q1 => ?_)
  · replace h := (if_pos q1).symm.trans h
    exact gx_sub [0, 1, 2] rfl (t_X10_odds_13 X hd a1 a2 g h)
  · replace h := (if_neg q1).symm.trans h
    refine gx_aload_n X 0 rfl dX10_odds_5 ?_
    refine gx_iload_n X 1 rfl dX10_odds_6 ?_
    obtain ⟨ra2, ga3, ca4, h⟩ := bdd_eq h
    refine gx_callVi X (40) (c_X10_isHour ca4) lc_X10_isHour li_X10_isHour lm_X10_96 (by decide) (cl_40 _ _) rfl rfl rfl (Nat.le_trans (by decide) hd) rfl (Nat.le_of_ble_eq_true rfl) dX10_odds_7 ?_
    refine gx_if_eq X 23 dX10_odds_10 (by decide) (fun q5 => ?_) (fun q5 => ?_)
    · replace h := (if_pos q5).symm.trans h
      refine gx_ldc2 X (v := (-9223372036854775808 : Int64)) lk_X10_285 dX10_odds_23 ?_
      obtain ⟨rfl, rfl⟩ := ret_eq h
      exact gx_lret X dX10_odds_26
    · replace h := (if_neg q5).symm.trans h
      exact gx_sub [0, 1, 2] rfl (t_X10_odds_13 X hd a1 a2 ga3 h)
theorem dX10_of_0 : decode cX10_of 0 = .ok (.iload_n 2, 1) := by decide +kernel
theorem dX10_of_1 : decode cX10_of 1 = .ok (.bipush 10, 2) := by decide +kernel
theorem dX10_of_3 : decode cX10_of 3 = .ok (.if_icmp .ne 33, 3) := by decide +kernel
theorem dX10_of_6 : decode cX10_of 6 = .ok (.aload_n 0, 1) := by decide +kernel
theorem dX10_of_7 : decode cX10_of 7 = .ok (.iload_n 1, 1) := by decide +kernel
theorem dX10_of_8 : decode cX10_of 8 = .ok (.invokevirtual 124, 3) := by decide +kernel
theorem dX10_of_11 : decode cX10_of 11 = .ok (.ifCond .eq 23, 3) := by decide +kernel
theorem dX10_of_14 : decode cX10_of 14 = .ok (.aload_n 0, 1) := by decide +kernel
theorem dX10_of_15 : decode cX10_of 15 = .ok (.getfield 28, 3) := by decide +kernel
theorem dX10_of_18 : decode cX10_of 18 = .ok (.bipush 6, 2) := by decide +kernel
theorem dX10_of_20 : decode cX10_of 20 = .ok (.iload_n 1, 1) := by decide +kernel
theorem dX10_of_21 : decode cX10_of 21 = .ok (.bipush 10, 2) := by decide +kernel
theorem dX10_of_23 : decode cX10_of 23 = .ok (.idiv, 1) := by decide +kernel
theorem dX10_of_24 : decode cX10_of 24 = .ok (.imul, 1) := by decide +kernel
theorem dX10_of_25 : decode cX10_of 25 = .ok (.iload_n 1, 1) := by decide +kernel
theorem dX10_of_26 : decode cX10_of 26 = .ok (.bipush 10, 2) := by decide +kernel
theorem dX10_of_28 : decode cX10_of 28 = .ok (.irem, 1) := by decide +kernel
theorem dX10_of_29 : decode cX10_of 29 = .ok (.iadd, 1) := by decide +kernel
theorem dX10_of_30 : decode cX10_of 30 = .ok (.iaload, 1) := by decide +kernel
theorem dX10_of_31 : decode cX10_of 31 = .ok (.goto 4, 3) := by decide +kernel
theorem dX10_of_34 : decode cX10_of 34 = .ok (.iconst (-1), 1) := by decide +kernel
theorem dX10_of_35 : decode cX10_of 35 = .ok (.ireturn, 1) := by decide +kernel
theorem dX10_of_36 : decode cX10_of 36 = .ok (.iload_n 2, 1) := by decide +kernel
theorem dX10_of_37 : decode cX10_of 37 = .ok (.bipush 20, 2) := by decide +kernel
theorem dX10_of_39 : decode cX10_of 39 = .ok (.if_icmp .ne 32, 3) := by decide +kernel
theorem dX10_of_42 : decode cX10_of 42 = .ok (.aload_n 0, 1) := by decide +kernel
theorem dX10_of_43 : decode cX10_of 43 = .ok (.iload_n 1, 1) := by decide +kernel
theorem dX10_of_44 : decode cX10_of 44 = .ok (.invokevirtual 131, 3) := by decide +kernel
theorem dX10_of_47 : decode cX10_of 47 = .ok (.ifCond .eq 22, 3) := by decide +kernel
theorem dX10_of_50 : decode cX10_of 50 = .ok (.aload_n 0, 1) := by decide +kernel
theorem dX10_of_51 : decode cX10_of 51 = .ok (.getfield 31, 3) := by decide +kernel
theorem dX10_of_54 : decode cX10_of 54 = .ok (.iload_n 1, 1) := by decide +kernel
theorem dX10_of_55 : decode cX10_of 55 = .ok (.bipush 100, 2) := by decide +kernel
theorem dX10_of_57 : decode cX10_of 57 = .ok (.idiv, 1) := by decide +kernel
theorem dX10_of_58 : decode cX10_of 58 = .ok (.iaload, 1) := by decide +kernel
theorem dX10_of_59 : decode cX10_of 59 = .ok (.iload_n 1, 1) := by decide +kernel
theorem dX10_of_60 : decode cX10_of 60 = .ok (.bipush 100, 2) := by decide +kernel
theorem dX10_of_62 : decode cX10_of 62 = .ok (.irem, 1) := by decide +kernel
theorem dX10_of_63 : decode cX10_of 63 = .ok (.ishr, 1) := by decide +kernel
theorem dX10_of_64 : decode cX10_of 64 = .ok (.iconst 1, 1) := by decide +kernel
theorem dX10_of_65 : decode cX10_of 65 = .ok (.iand, 1) := by decide +kernel
theorem dX10_of_66 : decode cX10_of 66 = .ok (.goto 4, 3) := by decide +kernel
theorem dX10_of_69 : decode cX10_of 69 = .ok (.iconst (-1), 1) := by decide +kernel
theorem dX10_of_70 : decode cX10_of 70 = .ok (.ireturn, 1) := by decide +kernel
theorem dX10_of_71 : decode cX10_of 71 = .ok (.iload_n 2, 1) := by decide +kernel
theorem dX10_of_72 : decode cX10_of 72 = .ok (.i2l, 1) := by decide +kernel
theorem dX10_of_73 : decode cX10_of 73 = .ok (.lconst 0, 1) := by decide +kernel
theorem dX10_of_74 : decode cX10_of 74 = .ok (.ldc2_w 105, 3) := by decide +kernel
theorem dX10_of_77 : decode cX10_of 77 = .ok (.invokestatic 92, 3) := by decide +kernel
theorem dX10_of_80 : decode cX10_of 80 = .ok (.ifCond .eq 11, 3) := by decide +kernel
theorem dX10_of_83 : decode cX10_of 83 = .ok (.aload_n 0, 1) := by decide +kernel
theorem dX10_of_84 : decode cX10_of 84 = .ok (.iload_n 1, 1) := by decide +kernel
theorem dX10_of_85 : decode cX10_of 85 = .ok (.invokevirtual 100, 3) := by decide +kernel
theorem dX10_of_88 : decode cX10_of 88 = .ok (.ifCond .ne 5, 3) := by decide +kernel
theorem dX10_of_91 : decode cX10_of 91 = .ok (.iconst (-1), 1) := by decide +kernel
theorem dX10_of_92 : decode cX10_of 92 = .ok (.ireturn, 1) := by decide +kernel
theorem dX10_of_93 : decode cX10_of 93 = .ok (.iload_n 2, 1) := by decide +kernel
theorem dX10_of_94 : decode cX10_of 94 = .ok (.ifCond .ne 12, 3) := by decide +kernel
theorem dX10_of_97 : decode cX10_of 97 = .ok (.aload_n 0, 1) := by decide +kernel
theorem dX10_of_98 : decode cX10_of 98 = .ok (.getfield 9, 3) := by decide +kernel
theorem dX10_of_101 : decode cX10_of 101 = .ok (.iload_n 1, 1) := by decide +kernel
theorem dX10_of_102 : decode cX10_of 102 = .ok (.iaload, 1) := by decide +kernel
theorem dX10_of_103 : decode cX10_of 103 = .ok (.goto 23, 3) := by decide +kernel
theorem dX10_of_106 : decode cX10_of 106 = .ok (.iload_n 2, 1) := by decide +kernel
theorem dX10_of_107 : decode cX10_of 107 = .ok (.iconst 1, 1) := by decide +kernel
theorem dX10_of_108 : decode cX10_of 108 = .ok (.if_icmp .ne 12, 3) := by decide +kernel
theorem dX10_of_111 : decode cX10_of 111 = .ok (.aload_n 0, 1) := by decide +kernel
theorem dX10_of_112 : decode cX10_of 112 = .ok (.getfield 15, 3) := by decide +kernel
theorem dX10_of_115 : decode cX10_of 115 = .ok (.iload_n 1, 1) := by decide +kernel
theorem dX10_of_116 : decode cX10_of 116 = .ok (.iaload, 1) := by decide +kernel
theorem dX10_of_117 : decode cX10_of 117 = .ok (.goto 9, 3) := by decide +kernel
theorem dX10_of_120 : decode cX10_of 120 = .ok (.aload_n 0, 1) := by decide +kernel
theorem dX10_of_121 : decode cX10_of 121 = .ok (.getfield 18, 3) := by decide +kernel
theorem dX10_of_124 : decode cX10_of 124 = .ok (.iload_n 1, 1) := by decide +kernel
theorem dX10_of_125 : decode cX10_of 125 = .ok (.iaload, 1) := by decide +kernel
theorem dX10_of_126 : decode cX10_of 126 = .ok (.ireturn, 1) := by decide +kernel
def m_X10_of (a1 : Int32) (a2 : Int32) (g : Mm) : Option (Int32 × Mm) := (if a2 = (10 : Int32) then bdd (m_X10_isCell a1 g) (fun ra21 ga22 => (if ra21 = (0 : Int32) then some ((-1 : Int32), ga22) else gdd (ixo (((6 : Int32) * (a1 / (10 : Int32))) + (rmI a1 (10 : Int32))) 144) (some ((rdI ga22 44 (((6 : Int32) * (a1 / (10 : Int32))) + (rmI a1 (10 : Int32))).toNatClampNeg), ga22)))) else (if a2 = (20 : Int32) then bdd (m_X10_isPair a1 g) (fun ra16 ga17 => (if ra16 = (0 : Int32) then some ((-1 : Int32), ga17) else gdd (ixo (a1 / (100 : Int32)) 24) (some (((shrI (rdI ga17 45 (a1 / (100 : Int32)).toNatClampNeg) (rmI a1 (100 : Int32))) &&& (1 : Int32)), ga17)))) else bdd (m_X10_in (a2.toInt64) (0 : Int64) (2 : Int64) g) (fun ra3 ga4 => (if ra3 = (0 : Int32) then some ((-1 : Int32), ga4) else bdd (m_X10_isBell a1 ga4) (fun ra7 ga8 => (if ra7 = (0 : Int32) then some ((-1 : Int32), ga8) else (if a2 = (0 : Int32) then gdd (ixo a1 6) (some ((rdI ga8 41 a1.toNatClampNeg), ga8)) else (if a2 = (1 : Int32) then gdd (ixo a1 6) (some ((rdI ga8 42 a1.toNatClampNeg), ga8)) else gdd (ixo a1 6) (some ((rdI ga8 43 a1.toNatClampNeg), ga8))))))))))
set_option maxHeartbeats 2000000 in
theorem c_X10_of {r2 : Int32} {g g2 : Mm} {a1 : Int32} {a2 : Int32} (h : m_X10_of a1 a2 g = some (r2, g2)) : gx_M 4 yX10_of cX10_of 3 (some .int) (fun al => [.ref (al (40)), .int (a1), .int (a2)]) g (some (.int r2)) g2 := by
  have hd : 4 ≤ 4 := Nat.le_refl _
  refine gx_M.of (by decide +kernel) (fun _ => Nat.le_of_ble_eq_true rfl) ?_
  intro p l e R s m args below meth c D al cI cJ A X
  refine gx_eq (pc' := 0) (ls' := [(0, .ref (al (40))), (1, .int (a1)), (2, .int (a2))]) (st' := []) (g' := g) ⟨rfl, rfl, rfl, rfl⟩ ?_
  unfold m_X10_of at h
  refine gx_iload_n X 2 rfl dX10_of_0 ?_
  refine gx_bipush X (v := (10 : Int32)) dX10_of_1 (by decide) ?_
  refine gx_icmp_ne X 36 dX10_of_3 (by decide) (fun q1 => ?_) (fun q1 => ?_)
  · replace h := (if_neg q1).symm.trans h
    refine gx_iload_n X 2 rfl dX10_of_36 ?_
    refine gx_bipush X (v := (20 : Int32)) dX10_of_37 (by decide) ?_
    refine gx_icmp_ne X 71 dX10_of_39 (by decide) (fun q2 => ?_) (fun q2 => ?_)
    · replace h := (if_neg q2).symm.trans h
      refine gx_iload_n X 2 rfl dX10_of_71 ?_
      refine gx_i2l X dX10_of_72 ?_
      refine gx_lconst X (v := (0 : Int64)) dX10_of_73 (by decide) ?_
      refine gx_ldc2 X (v := (2 : Int64)) lk_X10_105 dX10_of_74 ?_
      obtain ⟨ra3, ga4, ca5, h⟩ := bdd_eq h
      refine gx_callSi X (c_X10_in ca5) lc_X10_in li_X10_in lm_X10_92 rfl rfl (Nat.le_trans (by decide) hd) rfl (Nat.le_of_ble_eq_true rfl) dX10_of_77 ?_
      refine gx_if_eq X 91 dX10_of_80 (by decide) (fun q6 => ?_) (fun q6 => ?_)
      · replace h := (if_pos q6).symm.trans h
        refine gx_iconst X (v := (-1 : Int32)) dX10_of_91 (by decide) ?_
        obtain ⟨rfl, rfl⟩ := ret_eq h
        exact gx_iret X rfl dX10_of_92
      · replace h := (if_neg q6).symm.trans h
        refine gx_aload_n X 0 rfl dX10_of_83 ?_
        refine gx_iload_n X 1 rfl dX10_of_84 ?_
        obtain ⟨ra7, ga8, ca9, h⟩ := bdd_eq h
        refine gx_callVi X (40) (c_X10_isBell ca9) lc_X10_isBell li_X10_isBell lm_X10_100 (by decide) (cl_40 _ _) rfl rfl rfl (Nat.le_trans (by decide) hd) rfl (Nat.le_of_ble_eq_true rfl) dX10_of_85 ?_
        refine gx_if_ne X 93 dX10_of_88 (by decide) (fun q10 => ?_) (fun q10 => ?_)
        · replace h := (if_neg q10).symm.trans h
          refine gx_iload_n X 2 rfl dX10_of_93 ?_
          refine gx_if_ne X 106 dX10_of_94 (by decide) (fun q11 => ?_) (fun q11 => ?_)
          · replace h := (if_neg q11).symm.trans h
            refine gx_iload_n X 2 rfl dX10_of_106 ?_
            refine gx_iconst X (v := (1 : Int32)) dX10_of_107 (by decide) ?_
            refine gx_icmp_ne X 120 dX10_of_108 (by decide) (fun q12 => ?_) (fun q12 => ?_)
            · replace h := (if_neg q12).symm.trans h
              refine gx_aload_n X 0 rfl dX10_of_120 ?_
              refine gx_getf X (40) lf_X10_18 (by decide) (cl_40 _ _) (v := .ref (al (43))) rfl dX10_of_121 ?_
              refine gx_iload_n X 1 rfl dX10_of_124 ?_
              obtain ⟨q13, h⟩ := gdd_eq h
              refine gx_iald X (43) 6 (by decide) (cl_43 _ _) q13 dX10_of_125 ?_
              obtain ⟨rfl, rfl⟩ := ret_eq h
              exact gx_iret X rfl dX10_of_126
            · replace h := (if_pos q12).symm.trans h
              refine gx_aload_n X 0 rfl dX10_of_111 ?_
              refine gx_getf X (40) lf_X10_15 (by decide) (cl_40 _ _) (v := .ref (al (42))) rfl dX10_of_112 ?_
              refine gx_iload_n X 1 rfl dX10_of_115 ?_
              obtain ⟨q14, h⟩ := gdd_eq h
              refine gx_iald X (42) 6 (by decide) (cl_42 _ _) q14 dX10_of_116 ?_
              refine gx_goto X 126 dX10_of_117 (by decide) ?_
              obtain ⟨rfl, rfl⟩ := ret_eq h
              exact gx_iret X rfl dX10_of_126
          · replace h := (if_pos q11).symm.trans h
            refine gx_aload_n X 0 rfl dX10_of_97 ?_
            refine gx_getf X (40) lf_X10_9 (by decide) (cl_40 _ _) (v := .ref (al (41))) rfl dX10_of_98 ?_
            refine gx_iload_n X 1 rfl dX10_of_101 ?_
            obtain ⟨q15, h⟩ := gdd_eq h
            refine gx_iald X (41) 6 (by decide) (cl_41 _ _) q15 dX10_of_102 ?_
            refine gx_goto X 126 dX10_of_103 (by decide) ?_
            obtain ⟨rfl, rfl⟩ := ret_eq h
            exact gx_iret X rfl dX10_of_126
        · replace h := (if_pos q10).symm.trans h
          refine gx_iconst X (v := (-1 : Int32)) dX10_of_91 (by decide) ?_
          obtain ⟨rfl, rfl⟩ := ret_eq h
          exact gx_iret X rfl dX10_of_92
    · replace h := (if_pos q2).symm.trans h
      refine gx_aload_n X 0 rfl dX10_of_42 ?_
      refine gx_iload_n X 1 rfl dX10_of_43 ?_
      obtain ⟨ra16, ga17, ca18, h⟩ := bdd_eq h
      refine gx_callVi X (40) (c_X10_isPair ca18) lc_X10_isPair li_X10_isPair lm_X10_131 (by decide) (cl_40 _ _) rfl rfl rfl (Nat.le_trans (by decide) hd) rfl (Nat.le_of_ble_eq_true rfl) dX10_of_44 ?_
      refine gx_if_eq X 69 dX10_of_47 (by decide) (fun q19 => ?_) (fun q19 => ?_)
      · replace h := (if_pos q19).symm.trans h
        refine gx_iconst X (v := (-1 : Int32)) dX10_of_69 (by decide) ?_
        obtain ⟨rfl, rfl⟩ := ret_eq h
        exact gx_iret X rfl dX10_of_70
      · replace h := (if_neg q19).symm.trans h
        refine gx_aload_n X 0 rfl dX10_of_50 ?_
        refine gx_getf X (40) lf_X10_31 (by decide) (cl_40 _ _) (v := .ref (al (45))) rfl dX10_of_51 ?_
        refine gx_iload_n X 1 rfl dX10_of_54 ?_
        refine gx_bipush X (v := (100 : Int32)) dX10_of_55 (by decide) ?_
        refine gx_idiv X dX10_of_57 (by decide) ?_
        obtain ⟨q20, h⟩ := gdd_eq h
        refine gx_iald X (45) 24 (by decide) (cl_45 _ _) q20 dX10_of_58 ?_
        refine gx_iload_n X 1 rfl dX10_of_59 ?_
        refine gx_bipush X (v := (100 : Int32)) dX10_of_60 (by decide) ?_
        refine gx_irem X dX10_of_62 (by decide) ?_
        refine gx_ishr X dX10_of_63 ?_
        refine gx_iconst X (v := (1 : Int32)) dX10_of_64 (by decide) ?_
        refine gx_iand X dX10_of_65 ?_
        refine gx_goto X 70 dX10_of_66 (by decide) ?_
        obtain ⟨rfl, rfl⟩ := ret_eq h
        exact gx_iret X rfl dX10_of_70
  · replace h := (if_pos q1).symm.trans h
    refine gx_aload_n X 0 rfl dX10_of_6 ?_
    refine gx_iload_n X 1 rfl dX10_of_7 ?_
    obtain ⟨ra21, ga22, ca23, h⟩ := bdd_eq h
    refine gx_callVi X (40) (c_X10_isCell ca23) lc_X10_isCell li_X10_isCell lm_X10_124 (by decide) (cl_40 _ _) rfl rfl rfl (Nat.le_trans (by decide) hd) rfl (Nat.le_of_ble_eq_true rfl) dX10_of_8 ?_
    refine gx_if_eq X 34 dX10_of_11 (by decide) (fun q24 => ?_) (fun q24 => ?_)
    · replace h := (if_pos q24).symm.trans h
      refine gx_iconst X (v := (-1 : Int32)) dX10_of_34 (by decide) ?_
      obtain ⟨rfl, rfl⟩ := ret_eq h
      exact gx_iret X rfl dX10_of_35
    · replace h := (if_neg q24).symm.trans h
      refine gx_aload_n X 0 rfl dX10_of_14 ?_
      refine gx_getf X (40) lf_X10_28 (by decide) (cl_40 _ _) (v := .ref (al (44))) rfl dX10_of_15 ?_
      refine gx_bipush X (v := (6 : Int32)) dX10_of_18 (by decide) ?_
      refine gx_iload_n X 1 rfl dX10_of_20 ?_
      refine gx_bipush X (v := (10 : Int32)) dX10_of_21 (by decide) ?_
      refine gx_idiv X dX10_of_23 (by decide) ?_
      refine gx_imul X dX10_of_24 ?_
      refine gx_iload_n X 1 rfl dX10_of_25 ?_
      refine gx_bipush X (v := (10 : Int32)) dX10_of_26 (by decide) ?_
      refine gx_irem X dX10_of_28 (by decide) ?_
      refine gx_iadd X dX10_of_29 ?_
      obtain ⟨q25, h⟩ := gdd_eq h
      refine gx_iald X (44) 144 (by decide) (cl_44 _ _) q25 dX10_of_30 ?_
      refine gx_goto X 35 dX10_of_31 (by decide) ?_
      obtain ⟨rfl, rfl⟩ := ret_eq h
      exact gx_iret X rfl dX10_of_35
theorem dX10_put_0 : decode cX10_put 0 = .ok (.aload_n 0, 1) := by decide +kernel
theorem dX10_put_1 : decode cX10_put 1 = .ok (.iload_n 1, 1) := by decide +kernel
theorem dX10_put_2 : decode cX10_put 2 = .ok (.iload_n 2, 1) := by decide +kernel
theorem dX10_put_3 : decode cX10_put 3 = .ok (.invokevirtual 372, 3) := by decide +kernel
theorem dX10_put_6 : decode cX10_put 6 = .ok (.istore 5, 2) := by decide +kernel
theorem dX10_put_8 : decode cX10_put 8 = .ok (.iload 5, 2) := by decide +kernel
theorem dX10_put_10 : decode cX10_put 10 = .ok (.iconst 1, 1) := by decide +kernel
theorem dX10_put_11 : decode cX10_put 11 = .ok (.if_icmp .eq 6, 3) := by decide +kernel
theorem dX10_put_14 : decode cX10_put 14 = .ok (.iload 5, 2) := by decide +kernel
theorem dX10_put_16 : decode cX10_put 16 = .ok (.ireturn, 1) := by decide +kernel
theorem dX10_put_17 : decode cX10_put 17 = .ok (.aload_n 0, 1) := by decide +kernel
theorem dX10_put_18 : decode cX10_put 18 = .ok (.getfield 76, 3) := by decide +kernel
theorem dX10_put_21 : decode cX10_put 21 = .ok (.iload_n 1, 1) := by decide +kernel
theorem dX10_put_22 : decode cX10_put 22 = .ok (.iaload, 1) := by decide +kernel
theorem dX10_put_23 : decode cX10_put 23 = .ok (.istore 6, 2) := by decide +kernel
theorem dX10_put_25 : decode cX10_put 25 = .ok (.aload_n 0, 1) := by decide +kernel
theorem dX10_put_26 : decode cX10_put 26 = .ok (.getfield 82, 3) := by decide +kernel
theorem dX10_put_29 : decode cX10_put 29 = .ok (.bipush 60, 2) := by decide +kernel
theorem dX10_put_31 : decode cX10_put 31 = .ok (.iload_n 1, 1) := by decide +kernel
theorem dX10_put_32 : decode cX10_put 32 = .ok (.imul, 1) := by decide +kernel
theorem dX10_put_33 : decode cX10_put 33 = .ok (.iload_n 2, 1) := by decide +kernel
theorem dX10_put_34 : decode cX10_put 34 = .ok (.iadd, 1) := by decide +kernel
theorem dX10_put_35 : decode cX10_put 35 = .ok (.iload 6, 2) := by decide +kernel
theorem dX10_put_37 : decode cX10_put 37 = .ok (.ifCond .ne 10, 3) := by decide +kernel
theorem dX10_put_40 : decode cX10_put 40 = .ok (.lload_n 3, 1) := by decide +kernel
theorem dX10_put_41 : decode cX10_put 41 = .ok (.l2i, 1) := by decide +kernel
theorem dX10_put_42 : decode cX10_put 42 = .ok (.i2b, 1) := by decide +kernel
theorem dX10_put_43 : decode cX10_put 43 = .ok (.i2l, 1) := by decide +kernel
theorem dX10_put_44 : decode cX10_put 44 = .ok (.goto 49, 3) := by decide +kernel
theorem dX10_put_47 : decode cX10_put 47 = .ok (.iload 6, 2) := by decide +kernel
theorem dX10_put_49 : decode cX10_put 49 = .ok (.iconst 1, 1) := by decide +kernel
theorem dX10_put_50 : decode cX10_put 50 = .ok (.if_icmp .ne 10, 3) := by decide +kernel
theorem dX10_put_53 : decode cX10_put 53 = .ok (.lload_n 3, 1) := by decide +kernel
theorem dX10_put_54 : decode cX10_put 54 = .ok (.l2i, 1) := by decide +kernel
theorem dX10_put_55 : decode cX10_put 55 = .ok (.i2s, 1) := by decide +kernel
theorem dX10_put_56 : decode cX10_put 56 = .ok (.i2l, 1) := by decide +kernel
theorem dX10_put_57 : decode cX10_put 57 = .ok (.goto 36, 3) := by decide +kernel
theorem dX10_put_60 : decode cX10_put 60 = .ok (.iload 6, 2) := by decide +kernel
theorem dX10_put_62 : decode cX10_put 62 = .ok (.iconst 2, 1) := by decide +kernel
theorem dX10_put_63 : decode cX10_put 63 = .ok (.if_icmp .ne 9, 3) := by decide +kernel
theorem dX10_put_66 : decode cX10_put 66 = .ok (.lload_n 3, 1) := by decide +kernel
theorem dX10_put_67 : decode cX10_put 67 = .ok (.l2i, 1) := by decide +kernel
theorem dX10_put_68 : decode cX10_put 68 = .ok (.i2l, 1) := by decide +kernel
theorem dX10_put_69 : decode cX10_put 69 = .ok (.goto 24, 3) := by decide +kernel
theorem dX10_put_72 : decode cX10_put 72 = .ok (.iload 6, 2) := by decide +kernel
theorem dX10_put_74 : decode cX10_put 74 = .ok (.iconst 3, 1) := by decide +kernel
theorem dX10_put_75 : decode cX10_put 75 = .ok (.if_icmp .ne 7, 3) := by decide +kernel
theorem dX10_put_78 : decode cX10_put 78 = .ok (.lload_n 3, 1) := by decide +kernel
theorem dX10_put_79 : decode cX10_put 79 = .ok (.goto 14, 3) := by decide +kernel
theorem dX10_put_82 : decode cX10_put 82 = .ok (.lload_n 3, 1) := by decide +kernel
theorem dX10_put_83 : decode cX10_put 83 = .ok (.lconst 0, 1) := by decide +kernel
theorem dX10_put_84 : decode cX10_put 84 = .ok (.lcmp, 1) := by decide +kernel
theorem dX10_put_85 : decode cX10_put 85 = .ok (.ifCond .eq 7, 3) := by decide +kernel
theorem dX10_put_88 : decode cX10_put 88 = .ok (.lconst 1, 1) := by decide +kernel
theorem dX10_put_89 : decode cX10_put 89 = .ok (.goto 4, 3) := by decide +kernel
theorem dX10_put_92 : decode cX10_put 92 = .ok (.lconst 0, 1) := by decide +kernel
theorem dX10_put_93 : decode cX10_put 93 = .ok (.lastore, 1) := by decide +kernel
theorem dX10_put_94 : decode cX10_put 94 = .ok (.iconst 1, 1) := by decide +kernel
theorem dX10_put_95 : decode cX10_put 95 = .ok (.ireturn, 1) := by decide +kernel
def m_X10_put (a1 : Int32) (a2 : Int32) (a3 : Int64) (g : Mm) : Option (Int32 × Mm) := bdd (m_X10_look a1 a2 g) (fun ra1 ga2 => (if ra1 = (1 : Int32) then gdd (ixo a1 6) ((if (rdI ga2 60 a1.toNatClampNeg) = (0 : Int32) then gdd (ixo (((60 : Int32) * a1) + a2) 360) (some ((1 : Int32), (wrL ga2 62 (((60 : Int32) * a1) + a2).toNatClampNeg (((a3.toInt32).toInt8.toInt32).toInt64)))) else (if (rdI ga2 60 a1.toNatClampNeg) = (1 : Int32) then gdd (ixo (((60 : Int32) * a1) + a2) 360) (some ((1 : Int32), (wrL ga2 62 (((60 : Int32) * a1) + a2).toNatClampNeg (((a3.toInt32).toInt16.toInt32).toInt64)))) else (if (rdI ga2 60 a1.toNatClampNeg) = (2 : Int32) then gdd (ixo (((60 : Int32) * a1) + a2) 360) (some ((1 : Int32), (wrL ga2 62 (((60 : Int32) * a1) + a2).toNatClampNeg ((a3.toInt32).toInt64)))) else (if (rdI ga2 60 a1.toNatClampNeg) = (3 : Int32) then gdd (ixo (((60 : Int32) * a1) + a2) 360) (some ((1 : Int32), (wrL ga2 62 (((60 : Int32) * a1) + a2).toNatClampNeg a3))) else (if (lg_cmp a3 (0 : Int64)) = (0 : Int32) then gdd (ixo (((60 : Int32) * a1) + a2) 360) (some ((1 : Int32), (wrL ga2 62 (((60 : Int32) * a1) + a2).toNatClampNeg (0 : Int64)))) else gdd (ixo (((60 : Int32) * a1) + a2) 360) (some ((1 : Int32), (wrL ga2 62 (((60 : Int32) * a1) + a2).toNatClampNeg (1 : Int64)))))))))) else some (ra1, ga2)))
set_option maxHeartbeats 2000000 in
theorem c_X10_put {r2 : Int32} {g g2 : Mm} {a1 : Int32} {a2 : Int32} {a3 : Int64} (h : m_X10_put a1 a2 a3 g = some (r2, g2)) : gx_M 4 yX10_put cX10_put 7 (some .int) (fun al => [.ref (al (40)), .int (a1), .int (a2), .long (a3)]) g (some (.int r2)) g2 := by
  have hd : 4 ≤ 4 := Nat.le_refl _
  refine gx_M.of (by decide +kernel) (fun _ => Nat.le_of_ble_eq_true rfl) ?_
  intro p l e R s m args below meth c D al cI cJ A X
  refine gx_eq (pc' := 0) (ls' := [(0, .ref (al (40))), (1, .int (a1)), (2, .int (a2)), (3, .long (a3))]) (st' := []) (g' := g) ⟨rfl, rfl, rfl, rfl⟩ ?_
  unfold m_X10_put at h
  refine gx_aload_n X 0 rfl dX10_put_0 ?_
  refine gx_iload_n X 1 rfl dX10_put_1 ?_
  refine gx_iload_n X 2 rfl dX10_put_2 ?_
  obtain ⟨ra1, ga2, ca3, h⟩ := bdd_eq h
  refine gx_callVi X (40) (c_X10_look ca3) lc_X10_look li_X10_look lm_X10_372 (by decide) (cl_40 _ _) rfl rfl rfl (Nat.le_trans (by decide) hd) rfl (Nat.le_of_ble_eq_true rfl) dX10_put_3 ?_
  refine gx_istore X [(5, .int (ra1)), (0, .ref (al (40))), (1, .int (a1)), (2, .int (a2)), (3, .long (a3))] dX10_put_6 (by decide) rfl ?_
  refine gx_iload X 0 rfl dX10_put_8 ?_
  refine gx_iconst X (v := (1 : Int32)) dX10_put_10 (by decide) ?_
  refine gx_icmp_eq X 17 dX10_put_11 (by decide) (fun q4 => ?_) (fun q4 => ?_)
  · replace h := (if_pos q4).symm.trans h
    refine gx_aload_n X 1 rfl dX10_put_17 ?_
    refine gx_getf X (40) lf_X10_76 (by decide) (cl_40 _ _) (v := .ref (al (60))) rfl dX10_put_18 ?_
    refine gx_iload_n X 2 rfl dX10_put_21 ?_
    obtain ⟨q5, h⟩ := gdd_eq h
    refine gx_iald X (60) 6 (by decide) (cl_60 _ _) q5 dX10_put_22 ?_
    refine gx_istore X [(6, .int ((rdI ga2 60 a1.toNatClampNeg))), (5, .int (ra1)), (0, .ref (al (40))), (1, .int (a1)), (2, .int (a2)), (3, .long (a3))] dX10_put_23 (by decide) rfl ?_
    refine gx_aload_n X 2 rfl dX10_put_25 ?_
    refine gx_getf X (40) lf_X10_82 (by decide) (cl_40 _ _) (v := .ref (al (62))) rfl dX10_put_26 ?_
    refine gx_bipush X (v := (60 : Int32)) dX10_put_29 (by decide) ?_
    refine gx_iload_n X 3 rfl dX10_put_31 ?_
    refine gx_imul X dX10_put_32 ?_
    refine gx_iload_n X 4 rfl dX10_put_33 ?_
    refine gx_iadd X dX10_put_34 ?_
    refine gx_iload X 0 rfl dX10_put_35 ?_
    refine gx_if_ne X 47 dX10_put_37 (by decide) (fun q6 => ?_) (fun q6 => ?_)
    · replace h := (if_neg q6).symm.trans h
      refine gx_iload X 0 rfl dX10_put_47 ?_
      refine gx_iconst X (v := (1 : Int32)) dX10_put_49 (by decide) ?_
      refine gx_icmp_ne X 60 dX10_put_50 (by decide) (fun q7 => ?_) (fun q7 => ?_)
      · replace h := (if_neg q7).symm.trans h
        refine gx_iload X 0 rfl dX10_put_60 ?_
        refine gx_iconst X (v := (2 : Int32)) dX10_put_62 (by decide) ?_
        refine gx_icmp_ne X 72 dX10_put_63 (by decide) (fun q8 => ?_) (fun q8 => ?_)
        · replace h := (if_neg q8).symm.trans h
          refine gx_iload X 0 rfl dX10_put_72 ?_
          refine gx_iconst X (v := (3 : Int32)) dX10_put_74 (by decide) ?_
          refine gx_icmp_ne X 82 dX10_put_75 (by decide) (fun q9 => ?_) (fun q9 => ?_)
          · replace h := (if_neg q9).symm.trans h
            refine gx_lload_n X 5 rfl dX10_put_82 ?_
            refine gx_lconst X (v := (0 : Int64)) dX10_put_83 (by decide) ?_
            refine gx_lcmp X dX10_put_84 ?_
            refine gx_if_eq X 92 dX10_put_85 (by decide) (fun q10 => ?_) (fun q10 => ?_)
            · replace h := (if_pos q10).symm.trans h
              refine gx_lconst X (v := (0 : Int64)) dX10_put_92 (by decide) ?_
              obtain ⟨q11, h⟩ := gdd_eq h
              refine gx_last X (62) 360 (by decide) (fun r => cl_62 _ r) q11 dX10_put_93 ?_
              refine gx_iconst X (v := (1 : Int32)) dX10_put_94 (by decide) ?_
              obtain ⟨rfl, rfl⟩ := ret_eq h
              exact gx_iret X rfl dX10_put_95
            · replace h := (if_neg q10).symm.trans h
              refine gx_lconst X (v := (1 : Int64)) dX10_put_88 (by decide) ?_
              refine gx_goto X 93 dX10_put_89 (by decide) ?_
              obtain ⟨q12, h⟩ := gdd_eq h
              refine gx_last X (62) 360 (by decide) (fun r => cl_62 _ r) q12 dX10_put_93 ?_
              refine gx_iconst X (v := (1 : Int32)) dX10_put_94 (by decide) ?_
              obtain ⟨rfl, rfl⟩ := ret_eq h
              exact gx_iret X rfl dX10_put_95
          · replace h := (if_pos q9).symm.trans h
            refine gx_lload_n X 5 rfl dX10_put_78 ?_
            refine gx_goto X 93 dX10_put_79 (by decide) ?_
            obtain ⟨q13, h⟩ := gdd_eq h
            refine gx_last X (62) 360 (by decide) (fun r => cl_62 _ r) q13 dX10_put_93 ?_
            refine gx_iconst X (v := (1 : Int32)) dX10_put_94 (by decide) ?_
            obtain ⟨rfl, rfl⟩ := ret_eq h
            exact gx_iret X rfl dX10_put_95
        · replace h := (if_pos q8).symm.trans h
          refine gx_lload_n X 5 rfl dX10_put_66 ?_
          refine gx_l2i X dX10_put_67 ?_
          refine gx_i2l X dX10_put_68 ?_
          refine gx_goto X 93 dX10_put_69 (by decide) ?_
          obtain ⟨q14, h⟩ := gdd_eq h
          refine gx_last X (62) 360 (by decide) (fun r => cl_62 _ r) q14 dX10_put_93 ?_
          refine gx_iconst X (v := (1 : Int32)) dX10_put_94 (by decide) ?_
          obtain ⟨rfl, rfl⟩ := ret_eq h
          exact gx_iret X rfl dX10_put_95
      · replace h := (if_pos q7).symm.trans h
        refine gx_lload_n X 5 rfl dX10_put_53 ?_
        refine gx_l2i X dX10_put_54 ?_
        refine gx_i2s X dX10_put_55 ?_
        refine gx_i2l X dX10_put_56 ?_
        refine gx_goto X 93 dX10_put_57 (by decide) ?_
        obtain ⟨q15, h⟩ := gdd_eq h
        refine gx_last X (62) 360 (by decide) (fun r => cl_62 _ r) q15 dX10_put_93 ?_
        refine gx_iconst X (v := (1 : Int32)) dX10_put_94 (by decide) ?_
        obtain ⟨rfl, rfl⟩ := ret_eq h
        exact gx_iret X rfl dX10_put_95
    · replace h := (if_pos q6).symm.trans h
      refine gx_lload_n X 5 rfl dX10_put_40 ?_
      refine gx_l2i X dX10_put_41 ?_
      refine gx_i2b X dX10_put_42 ?_
      refine gx_i2l X dX10_put_43 ?_
      refine gx_goto X 93 dX10_put_44 (by decide) ?_
      obtain ⟨q16, h⟩ := gdd_eq h
      refine gx_last X (62) 360 (by decide) (fun r => cl_62 _ r) q16 dX10_put_93 ?_
      refine gx_iconst X (v := (1 : Int32)) dX10_put_94 (by decide) ?_
      obtain ⟨rfl, rfl⟩ := ret_eq h
      exact gx_iret X rfl dX10_put_95
  · replace h := (if_neg q4).symm.trans h
    refine gx_iload X 0 rfl dX10_put_14 ?_
    obtain ⟨rfl, rfl⟩ := ret_eq h
    exact gx_iret X rfl dX10_put_16
theorem dX10_puts_0 : decode cX10_puts 0 = .ok (.iload_n 1, 1) := by decide +kernel
theorem dX10_puts_1 : decode cX10_puts 1 = .ok (.sipush 1000, 3) := by decide +kernel
theorem dX10_puts_4 : decode cX10_puts 4 = .ok (.if_icmp .lt 17, 3) := by decide +kernel
theorem dX10_puts_7 : decode cX10_puts 7 = .ok (.aload_n 0, 1) := by decide +kernel
theorem dX10_puts_8 : decode cX10_puts 8 = .ok (.getfield 9, 3) := by decide +kernel
theorem dX10_puts_11 : decode cX10_puts 11 = .ok (.iload_n 1, 1) := by decide +kernel
theorem dX10_puts_12 : decode cX10_puts 12 = .ok (.sipush 1000, 3) := by decide +kernel
theorem dX10_puts_15 : decode cX10_puts 15 = .ok (.isub, 1) := by decide +kernel
theorem dX10_puts_16 : decode cX10_puts 16 = .ok (.iload_n 2, 1) := by decide +kernel
theorem dX10_puts_17 : decode cX10_puts 17 = .ok (.iastore, 1) := by decide +kernel
theorem dX10_puts_18 : decode cX10_puts 18 = .ok (.goto 32, 3) := by decide +kernel
theorem dX10_puts_21 : decode cX10_puts 21 = .ok (.aload_n 0, 1) := by decide +kernel
theorem dX10_puts_22 : decode cX10_puts 22 = .ok (.iload_n 1, 1) := by decide +kernel
theorem dX10_puts_23 : decode cX10_puts 23 = .ok (.bipush 10, 2) := by decide +kernel
theorem dX10_puts_25 : decode cX10_puts 25 = .ok (.idiv, 1) := by decide +kernel
theorem dX10_puts_26 : decode cX10_puts 26 = .ok (.invokevirtual 96, 3) := by decide +kernel
theorem dX10_puts_29 : decode cX10_puts 29 = .ok (.ifCond .eq 21, 3) := by decide +kernel
theorem dX10_puts_32 : decode cX10_puts 32 = .ok (.aload_n 0, 1) := by decide +kernel
theorem dX10_puts_33 : decode cX10_puts 33 = .ok (.getfield 28, 3) := by decide +kernel
theorem dX10_puts_36 : decode cX10_puts 36 = .ok (.bipush 6, 2) := by decide +kernel
theorem dX10_puts_38 : decode cX10_puts 38 = .ok (.iload_n 1, 1) := by decide +kernel
theorem dX10_puts_39 : decode cX10_puts 39 = .ok (.bipush 10, 2) := by decide +kernel
theorem dX10_puts_41 : decode cX10_puts 41 = .ok (.idiv, 1) := by decide +kernel
theorem dX10_puts_42 : decode cX10_puts 42 = .ok (.imul, 1) := by decide +kernel
theorem dX10_puts_43 : decode cX10_puts 43 = .ok (.iload_n 1, 1) := by decide +kernel
theorem dX10_puts_44 : decode cX10_puts 44 = .ok (.bipush 10, 2) := by decide +kernel
theorem dX10_puts_46 : decode cX10_puts 46 = .ok (.irem, 1) := by decide +kernel
theorem dX10_puts_47 : decode cX10_puts 47 = .ok (.iadd, 1) := by decide +kernel
theorem dX10_puts_48 : decode cX10_puts 48 = .ok (.iload_n 2, 1) := by decide +kernel
theorem dX10_puts_49 : decode cX10_puts 49 = .ok (.iastore, 1) := by decide +kernel
theorem dX10_puts_50 : decode cX10_puts 50 = .ok (.return_, 1) := by decide +kernel
def m_X10_puts (a1 : Int32) (a2 : Int32) (g : Mm) : Option (Int32 × Mm) := (if a1 < (1000 : Int32) then bdd (m_X10_isHour (a1 / (10 : Int32)) g) (fun ra2 ga3 => (if ra2 = (0 : Int32) then some ((0 : Int32), ga3) else gdd (ixo (((6 : Int32) * (a1 / (10 : Int32))) + (rmI a1 (10 : Int32))) 144) (some ((0 : Int32), (wrI ga3 44 (((6 : Int32) * (a1 / (10 : Int32))) + (rmI a1 (10 : Int32))).toNatClampNeg a2))))) else gdd (ixo (a1 - (1000 : Int32)) 6) (some ((0 : Int32), (wrI g 41 (a1 - (1000 : Int32)).toNatClampNeg a2))))
set_option maxHeartbeats 2000000 in
theorem c_X10_puts {r2 : Int32} {g g2 : Mm} {a1 : Int32} {a2 : Int32} (h : m_X10_puts a1 a2 g = some (r2, g2)) : gx_M 3 yX10_puts cX10_puts 3 none (fun al => [.ref (al (40)), .int (a1), .int (a2)]) g none g2 := by
  have hd : 3 ≤ 3 := Nat.le_refl _
  refine gx_M.of (by decide +kernel) (fun _ => Nat.le_of_ble_eq_true rfl) ?_
  intro p l e R s m args below meth c D al cI cJ A X
  refine gx_eq (pc' := 0) (ls' := [(0, .ref (al (40))), (1, .int (a1)), (2, .int (a2))]) (st' := []) (g' := g) ⟨rfl, rfl, rfl, rfl⟩ ?_
  unfold m_X10_puts at h
  refine gx_iload_n X 1 rfl dX10_puts_0 ?_
  refine gx_sipush X (v := (1000 : Int32)) dX10_puts_1 (by decide) ?_
  refine gx_icmp_lt X 21 dX10_puts_4 (by decide) (fun q1 => ?_) (fun q1 => ?_)
  · replace h := (if_pos q1).symm.trans h
    refine gx_aload_n X 0 rfl dX10_puts_21 ?_
    refine gx_iload_n X 1 rfl dX10_puts_22 ?_
    refine gx_bipush X (v := (10 : Int32)) dX10_puts_23 (by decide) ?_
    refine gx_idiv X dX10_puts_25 (by decide) ?_
    obtain ⟨ra2, ga3, ca4, h⟩ := bdd_eq h
    refine gx_callVi X (40) (c_X10_isHour ca4) lc_X10_isHour li_X10_isHour lm_X10_96 (by decide) (cl_40 _ _) rfl rfl rfl (Nat.le_trans (by decide) hd) rfl (Nat.le_of_ble_eq_true rfl) dX10_puts_26 ?_
    refine gx_if_eq X 50 dX10_puts_29 (by decide) (fun q5 => ?_) (fun q5 => ?_)
    · replace h := (if_pos q5).symm.trans h
      obtain ⟨rfl, rfl⟩ := ret_eq h
      exact gx_vret X dX10_puts_50
    · replace h := (if_neg q5).symm.trans h
      refine gx_aload_n X 0 rfl dX10_puts_32 ?_
      refine gx_getf X (40) lf_X10_28 (by decide) (cl_40 _ _) (v := .ref (al (44))) rfl dX10_puts_33 ?_
      refine gx_bipush X (v := (6 : Int32)) dX10_puts_36 (by decide) ?_
      refine gx_iload_n X 1 rfl dX10_puts_38 ?_
      refine gx_bipush X (v := (10 : Int32)) dX10_puts_39 (by decide) ?_
      refine gx_idiv X dX10_puts_41 (by decide) ?_
      refine gx_imul X dX10_puts_42 ?_
      refine gx_iload_n X 1 rfl dX10_puts_43 ?_
      refine gx_bipush X (v := (10 : Int32)) dX10_puts_44 (by decide) ?_
      refine gx_irem X dX10_puts_46 (by decide) ?_
      refine gx_iadd X dX10_puts_47 ?_
      refine gx_iload_n X 2 rfl dX10_puts_48 ?_
      obtain ⟨q6, h⟩ := gdd_eq h
      refine gx_iast X (44) 144 (by decide) (fun r => cl_44 r _) q6 dX10_puts_49 ?_
      obtain ⟨rfl, rfl⟩ := ret_eq h
      exact gx_vret X dX10_puts_50
  · replace h := (if_neg q1).symm.trans h
    refine gx_aload_n X 0 rfl dX10_puts_7 ?_
    refine gx_getf X (40) lf_X10_9 (by decide) (cl_40 _ _) (v := .ref (al (41))) rfl dX10_puts_8 ?_
    refine gx_iload_n X 1 rfl dX10_puts_11 ?_
    refine gx_sipush X (v := (1000 : Int32)) dX10_puts_12 (by decide) ?_
    refine gx_isub X dX10_puts_15 ?_
    refine gx_iload_n X 2 rfl dX10_puts_16 ?_
    obtain ⟨q7, h⟩ := gdd_eq h
    refine gx_iast X (41) 6 (by decide) (fun r => cl_41 r _) q7 dX10_puts_17 ?_
    refine gx_goto X 50 dX10_puts_18 (by decide) ?_
    obtain ⟨rfl, rfl⟩ := ret_eq h
    exact gx_vret X dX10_puts_50
theorem dX10_redo_0 : decode cX10_redo 0 = .ok (.aload_n 0, 1) := by decide +kernel
theorem dX10_redo_1 : decode cX10_redo 1 = .ok (.getfield 114, 3) := by decide +kernel
theorem dX10_redo_4 : decode cX10_redo 4 = .ok (.ifCond .ne 6, 3) := by decide +kernel
theorem dX10_redo_7 : decode cX10_redo 7 = .ok (.bipush (-5), 2) := by decide +kernel
theorem dX10_redo_9 : decode cX10_redo 9 = .ok (.ireturn, 1) := by decide +kernel
theorem dX10_redo_10 : decode cX10_redo 10 = .ok (.aload_n 0, 1) := by decide +kernel
theorem dX10_redo_11 : decode cX10_redo 11 = .ok (.aload_n 0, 1) := by decide +kernel
theorem dX10_redo_12 : decode cX10_redo 12 = .ok (.getfield 34, 3) := by decide +kernel
theorem dX10_redo_15 : decode cX10_redo 15 = .ok (.aload_n 0, 1) := by decide +kernel
theorem dX10_redo_16 : decode cX10_redo 16 = .ok (.getfield 117, 3) := by decide +kernel
theorem dX10_redo_19 : decode cX10_redo 19 = .ok (.iaload, 1) := by decide +kernel
theorem dX10_redo_20 : decode cX10_redo 20 = .ok (.aload_n 0, 1) := by decide +kernel
theorem dX10_redo_21 : decode cX10_redo 21 = .ok (.getfield 40, 3) := by decide +kernel
theorem dX10_redo_24 : decode cX10_redo 24 = .ok (.aload_n 0, 1) := by decide +kernel
theorem dX10_redo_25 : decode cX10_redo 25 = .ok (.getfield 117, 3) := by decide +kernel
theorem dX10_redo_28 : decode cX10_redo 28 = .ok (.iaload, 1) := by decide +kernel
theorem dX10_redo_29 : decode cX10_redo 29 = .ok (.invokevirtual 120, 3) := by decide +kernel
theorem dX10_redo_32 : decode cX10_redo 32 = .ok (.aload_n 0, 1) := by decide +kernel
theorem dX10_redo_33 : decode cX10_redo 33 = .ok (.dup, 1) := by decide +kernel
theorem dX10_redo_34 : decode cX10_redo 34 = .ok (.getfield 117, 3) := by decide +kernel
theorem dX10_redo_37 : decode cX10_redo 37 = .ok (.iconst 1, 1) := by decide +kernel
theorem dX10_redo_38 : decode cX10_redo 38 = .ok (.iadd, 1) := by decide +kernel
theorem dX10_redo_39 : decode cX10_redo 39 = .ok (.putfield 117, 3) := by decide +kernel
theorem dX10_redo_42 : decode cX10_redo 42 = .ok (.aload_n 0, 1) := by decide +kernel
theorem dX10_redo_43 : decode cX10_redo 43 = .ok (.dup, 1) := by decide +kernel
theorem dX10_redo_44 : decode cX10_redo 44 = .ok (.getfield 114, 3) := by decide +kernel
theorem dX10_redo_47 : decode cX10_redo 47 = .ok (.iconst 1, 1) := by decide +kernel
theorem dX10_redo_48 : decode cX10_redo 48 = .ok (.isub, 1) := by decide +kernel
theorem dX10_redo_49 : decode cX10_redo 49 = .ok (.putfield 114, 3) := by decide +kernel
theorem dX10_redo_52 : decode cX10_redo 52 = .ok (.aload_n 0, 1) := by decide +kernel
theorem dX10_redo_53 : decode cX10_redo 53 = .ok (.getfield 114, 3) := by decide +kernel
theorem dX10_redo_56 : decode cX10_redo 56 = .ok (.ireturn, 1) := by decide +kernel
def m_X10_redo (g : Mm) : Option (Int32 × Mm) := (if (rdI g 40 13) = (0 : Int32) then some ((-5 : Int32), g) else gdd (ixo (rdI g 40 12) 40) (gdd (ixo (rdI g 40 12) 40) (bdd (m_X10_puts (rdI g 46 (rdI g 40 12).toNatClampNeg) (rdI g 48 (rdI g 40 12).toNatClampNeg) g) (fun ra4 ga5 => some ((rdI (wrI (wrI ga5 40 12 ((rdI ga5 40 12) + (1 : Int32))) 40 13 ((rdI (wrI ga5 40 12 ((rdI ga5 40 12) + (1 : Int32))) 40 13) - (1 : Int32))) 40 13), (wrI (wrI ga5 40 12 ((rdI ga5 40 12) + (1 : Int32))) 40 13 ((rdI (wrI ga5 40 12 ((rdI ga5 40 12) + (1 : Int32))) 40 13) - (1 : Int32))))))))
set_option maxHeartbeats 2000000 in
theorem c_X10_redo {r2 : Int32} {g g2 : Mm} (h : m_X10_redo g = some (r2, g2)) : gx_M 4 yX10_redo cX10_redo 1 (some .int) (fun al => [.ref (al (40))]) g (some (.int r2)) g2 := by
  have hd : 4 ≤ 4 := Nat.le_refl _
  refine gx_M.of (by decide +kernel) (fun _ => Nat.le_of_ble_eq_true rfl) ?_
  intro p l e R s m args below meth c D al cI cJ A X
  refine gx_eq (pc' := 0) (ls' := [(0, .ref (al (40)))]) (st' := []) (g' := g) ⟨rfl, rfl, rfl, rfl⟩ ?_
  unfold m_X10_redo at h
  refine gx_aload_n X 0 rfl dX10_redo_0 ?_
  refine gx_getf X (40) lf_X10_114 (by decide) (cl_40 _ _) (v := .int ((rdI g 40 13))) rfl dX10_redo_1 ?_
  refine gx_if_ne X 10 dX10_redo_4 (by decide) (fun q1 => ?_) (fun q1 => ?_)
  · replace h := (if_neg q1).symm.trans h
    refine gx_aload_n X 0 rfl dX10_redo_10 ?_
    refine gx_aload_n X 0 rfl dX10_redo_11 ?_
    refine gx_getf X (40) lf_X10_34 (by decide) (cl_40 _ _) (v := .ref (al (46))) rfl dX10_redo_12 ?_
    refine gx_aload_n X 0 rfl dX10_redo_15 ?_
    refine gx_getf X (40) lf_X10_117 (by decide) (cl_40 _ _) (v := .int ((rdI g 40 12))) rfl dX10_redo_16 ?_
    obtain ⟨q2, h⟩ := gdd_eq h
    refine gx_iald X (46) 40 (by decide) (cl_46 _ _) q2 dX10_redo_19 ?_
    refine gx_aload_n X 0 rfl dX10_redo_20 ?_
    refine gx_getf X (40) lf_X10_40 (by decide) (cl_40 _ _) (v := .ref (al (48))) rfl dX10_redo_21 ?_
    refine gx_aload_n X 0 rfl dX10_redo_24 ?_
    refine gx_getf X (40) lf_X10_117 (by decide) (cl_40 _ _) (v := .int ((rdI g 40 12))) rfl dX10_redo_25 ?_
    obtain ⟨q3, h⟩ := gdd_eq h
    refine gx_iald X (48) 40 (by decide) (cl_48 _ _) q3 dX10_redo_28 ?_
    obtain ⟨ra4, ga5, ca6, h⟩ := bdd_eq h
    refine gx_callVv X (40) (c_X10_puts ca6) lc_X10_puts li_X10_puts lm_X10_120 (by decide) (cl_40 _ _) rfl rfl rfl (Nat.le_trans (by decide) hd) rfl (Nat.le_of_ble_eq_true rfl) dX10_redo_29 ?_
    refine gx_aload_n X 0 rfl dX10_redo_32 ?_
    refine gx_dup X dX10_redo_33 rfl ?_
    refine gx_getf X (40) lf_X10_117 (by decide) (cl_40 _ _) (v := .int ((rdI ga5 40 12))) rfl dX10_redo_34 ?_
    refine gx_iconst X (v := (1 : Int32)) dX10_redo_37 (by decide) ?_
    refine gx_iadd X dX10_redo_38 ?_
    refine gx_putf X (40) ((rdI ga5 40 12) + (1 : Int32)) lf_X10_117 lp_X10_12 (by decide) (cl_40 _ _) (Nat.le_of_ble_eq_true rfl) rfl rfl rfl dX10_redo_39 ?_
    refine gx_aload_n X 0 rfl dX10_redo_42 ?_
    refine gx_dup X dX10_redo_43 rfl ?_
    refine gx_getf X (40) lf_X10_114 (by decide) (cl_40 _ _) (v := .int ((rdI (wrI ga5 40 12 ((rdI ga5 40 12) + (1 : Int32))) 40 13))) rfl dX10_redo_44 ?_
    refine gx_iconst X (v := (1 : Int32)) dX10_redo_47 (by decide) ?_
    refine gx_isub X dX10_redo_48 ?_
    refine gx_putf X (40) ((rdI (wrI ga5 40 12 ((rdI ga5 40 12) + (1 : Int32))) 40 13) - (1 : Int32)) lf_X10_114 lp_X10_13 (by decide) (cl_40 _ _) (Nat.le_of_ble_eq_true rfl) rfl rfl rfl dX10_redo_49 ?_
    refine gx_aload_n X 0 rfl dX10_redo_52 ?_
    refine gx_getf X (40) lf_X10_114 (by decide) (cl_40 _ _) (v := .int ((rdI (wrI (wrI ga5 40 12 ((rdI ga5 40 12) + (1 : Int32))) 40 13 ((rdI (wrI ga5 40 12 ((rdI ga5 40 12) + (1 : Int32))) 40 13) - (1 : Int32))) 40 13))) rfl dX10_redo_53 ?_
    obtain ⟨rfl, rfl⟩ := ret_eq h
    exact gx_iret X rfl dX10_redo_56
  · replace h := (if_pos q1).symm.trans h
    refine gx_bipush X (v := (-5 : Int32)) dX10_redo_7 (by decide) ?_
    obtain ⟨rfl, rfl⟩ := ret_eq h
    exact gx_iret X rfl dX10_redo_9
theorem dX10_rest_0 : decode cX10_rest 0 = .ok (.iconst 1, 1) := by decide +kernel
theorem dX10_rest_1 : decode cX10_rest 1 = .ok (.aload_n 0, 1) := by decide +kernel
theorem dX10_rest_2 : decode cX10_rest 2 = .ok (.getfield 89, 3) := by decide +kernel
theorem dX10_rest_5 : decode cX10_rest 5 = .ok (.ishl, 1) := by decide +kernel
theorem dX10_rest_6 : decode cX10_rest 6 = .ok (.iconst 1, 1) := by decide +kernel
theorem dX10_rest_7 : decode cX10_rest 7 = .ok (.isub, 1) := by decide +kernel
theorem dX10_rest_8 : decode cX10_rest 8 = .ok (.istore_n 1, 1) := by decide +kernel
theorem dX10_rest_9 : decode cX10_rest 9 = .ok (.aload_n 0, 1) := by decide +kernel
theorem dX10_rest_10 : decode cX10_rest 10 = .ok (.getfield 25, 3) := by decide +kernel
theorem dX10_rest_13 : decode cX10_rest 13 = .ok (.iconst 1, 1) := by decide +kernel
theorem dX10_rest_14 : decode cX10_rest 14 = .ok (.if_icmp .le 12, 3) := by decide +kernel
theorem dX10_rest_17 : decode cX10_rest 17 = .ok (.aload_n 0, 1) := by decide +kernel
theorem dX10_rest_18 : decode cX10_rest 18 = .ok (.getfield 25, 3) := by decide +kernel
theorem dX10_rest_21 : decode cX10_rest 21 = .ok (.iconst 1, 1) := by decide +kernel
theorem dX10_rest_22 : decode cX10_rest 22 = .ok (.isub, 1) := by decide +kernel
theorem dX10_rest_23 : decode cX10_rest 23 = .ok (.goto 4, 3) := by decide +kernel
theorem dX10_rest_26 : decode cX10_rest 26 = .ok (.iconst 1, 1) := by decide +kernel
theorem dX10_rest_27 : decode cX10_rest 27 = .ok (.istore_n 2, 1) := by decide +kernel
theorem dX10_rest_28 : decode cX10_rest 28 = .ok (.iload_n 2, 1) := by decide +kernel
theorem dX10_rest_29 : decode cX10_rest 29 = .ok (.aload_n 0, 1) := by decide +kernel
theorem dX10_rest_30 : decode cX10_rest 30 = .ok (.getfield 89, 3) := by decide +kernel
theorem dX10_rest_33 : decode cX10_rest 33 = .ok (.iconst 1, 1) := by decide +kernel
theorem dX10_rest_34 : decode cX10_rest 34 = .ok (.isub, 1) := by decide +kernel
theorem dX10_rest_35 : decode cX10_rest 35 = .ok (.if_icmp .ge 7, 3) := by decide +kernel
theorem dX10_rest_38 : decode cX10_rest 38 = .ok (.iload_n 2, 1) := by decide +kernel
theorem dX10_rest_39 : decode cX10_rest 39 = .ok (.goto 9, 3) := by decide +kernel
theorem dX10_rest_42 : decode cX10_rest 42 = .ok (.aload_n 0, 1) := by decide +kernel
theorem dX10_rest_43 : decode cX10_rest 43 = .ok (.getfield 89, 3) := by decide +kernel
theorem dX10_rest_46 : decode cX10_rest 46 = .ok (.iconst 1, 1) := by decide +kernel
theorem dX10_rest_47 : decode cX10_rest 47 = .ok (.isub, 1) := by decide +kernel
theorem dX10_rest_48 : decode cX10_rest 48 = .ok (.istore_n 2, 1) := by decide +kernel
theorem dX10_rest_49 : decode cX10_rest 49 = .ok (.iconst 0, 1) := by decide +kernel
theorem dX10_rest_50 : decode cX10_rest 50 = .ok (.istore_n 3, 1) := by decide +kernel
theorem dX10_rest_51 : decode cX10_rest 51 = .ok (.iconst 0, 1) := by decide +kernel
theorem dX10_rest_52 : decode cX10_rest 52 = .ok (.istore 4, 2) := by decide +kernel
theorem dX10_rest_54 : decode cX10_rest 54 = .ok (.iload 4, 2) := by decide +kernel
theorem dX10_rest_56 : decode cX10_rest 56 = .ok (.aload_n 0, 1) := by decide +kernel
theorem dX10_rest_57 : decode cX10_rest 57 = .ok (.getfield 89, 3) := by decide +kernel
theorem dX10_rest_60 : decode cX10_rest 60 = .ok (.if_icmp .ge 36, 3) := by decide +kernel
theorem dX10_rest_63 : decode cX10_rest 63 = .ok (.iload_n 3, 1) := by decide +kernel
theorem dX10_rest_64 : decode cX10_rest 64 = .ok (.aload_n 0, 1) := by decide +kernel
theorem dX10_rest_65 : decode cX10_rest 65 = .ok (.iload_n 1, 1) := by decide +kernel
theorem dX10_rest_66 : decode cX10_rest 66 = .ok (.iconst 1, 1) := by decide +kernel
theorem dX10_rest_67 : decode cX10_rest 67 = .ok (.iload 4, 2) := by decide +kernel
theorem dX10_rest_69 : decode cX10_rest 69 = .ok (.ishl, 1) := by decide +kernel
theorem dX10_rest_70 : decode cX10_rest 70 = .ok (.iconst (-1), 1) := by decide +kernel
theorem dX10_rest_71 : decode cX10_rest 71 = .ok (.ixor, 1) := by decide +kernel
theorem dX10_rest_72 : decode cX10_rest 72 = .ok (.iand, 1) := by decide +kernel
theorem dX10_rest_73 : decode cX10_rest 73 = .ok (.iload_n 2, 1) := by decide +kernel
theorem dX10_rest_74 : decode cX10_rest 74 = .ok (.invokevirtual 254, 3) := by decide +kernel
theorem dX10_rest_77 : decode cX10_rest 77 = .ok (.ifCond .eq 7, 3) := by decide +kernel
theorem dX10_rest_80 : decode cX10_rest 80 = .ok (.iconst 1, 1) := by decide +kernel
theorem dX10_rest_81 : decode cX10_rest 81 = .ok (.goto 4, 3) := by decide +kernel
theorem dX10_rest_84 : decode cX10_rest 84 = .ok (.iconst 0, 1) := by decide +kernel
theorem dX10_rest_85 : decode cX10_rest 85 = .ok (.iload 4, 2) := by decide +kernel
theorem dX10_rest_87 : decode cX10_rest 87 = .ok (.ishl, 1) := by decide +kernel
theorem dX10_rest_88 : decode cX10_rest 88 = .ok (.ior, 1) := by decide +kernel
theorem dX10_rest_89 : decode cX10_rest 89 = .ok (.istore_n 3, 1) := by decide +kernel
theorem dX10_rest_90 : decode cX10_rest 90 = .ok (.iinc 4 1, 3) := by decide +kernel
theorem dX10_rest_93 : decode cX10_rest 93 = .ok (.goto (-39), 3) := by decide +kernel
theorem dX10_rest_96 : decode cX10_rest 96 = .ok (.iload_n 3, 1) := by decide +kernel
theorem dX10_rest_97 : decode cX10_rest 97 = .ok (.ireturn, 1) := by decide +kernel
def m_X10_rest_54 : Nat → Int32 → Int32 → Int32 → Int32 → Mm → Option (Int32 × Mm)
  | 0, _, _, _, _, _ => none
  | n + 1, x1, x2, x3, x4, g => (if (rdI g 40 4) ≤ x4 then some (x3, g) else bdd (m_X10_tellsBy (x1 &&& ((shlI (1 : Int32) x4) ^^^ (-1 : Int32))) x2 g) (fun ra2 ga3 => (if ra2 = (0 : Int32) then m_X10_rest_54 n x1 x2 (x3 ||| (shlI (0 : Int32) x4)) (x4 + (1 : Int32)) ga3 else m_X10_rest_54 n x1 x2 (x3 ||| (shlI (1 : Int32) x4)) (x4 + (1 : Int32)) ga3)))
set_option maxHeartbeats 2000000 in
theorem t_X10_rest_54 {r2 : Int32} {g2 : Mm} (X : gx_X p R s m args meth c D al cI cJ A RX10 cX10_rest 5 (some .int) d 0 0) (hd : 3 ≤ d) : ∀ (n : Nat) (x1 : Int32) (x2 : Int32) (x3 : Int32) (x4 : Int32) (g : Mm), m_X10_rest_54 n x1 x2 x3 x4 g = some (r2, g2) → gx_G p l e R s m args below meth c (gx_Q below args s D al cI cJ A (some (.int r2)) g2) D al cI cJ A 5 0 0 54 [(0, .ref (al (40))), (1, .int (x1)), (2, .int (x2)), (3, .int (x3)), (4, .int (x4))] [] g := by
  intro n
  induction n with
  | zero => intro x1 x2 x3 x4 g h; cases h
  | succ n ih =>
    intro x1 x2 x3 x4 g h
    rw [m_X10_rest_54] at h
    refine gx_iload X 4 rfl dX10_rest_54 ?_
    refine gx_aload_n X 0 rfl dX10_rest_56 ?_
    refine gx_getf X (40) lf_X10_89 (by decide) (cl_40 _ _) (v := .int ((rdI g 40 4))) rfl dX10_rest_57 ?_
    refine gx_icmp_ge X 96 dX10_rest_60 (by decide) (fun q1 => ?_) (fun q1 => ?_)
    · replace h := (if_pos q1).symm.trans h
      refine gx_iload_n X 3 rfl dX10_rest_96 ?_
      obtain ⟨rfl, rfl⟩ := ret_eq h
      exact gx_iret X rfl dX10_rest_97
    · replace h := (if_neg q1).symm.trans h
      refine gx_iload_n X 3 rfl dX10_rest_63 ?_
      refine gx_aload_n X 0 rfl dX10_rest_64 ?_
      refine gx_iload_n X 1 rfl dX10_rest_65 ?_
      refine gx_iconst X (v := (1 : Int32)) dX10_rest_66 (by decide) ?_
      refine gx_iload X 4 rfl dX10_rest_67 ?_
      refine gx_ishl X dX10_rest_69 ?_
      refine gx_iconst X (v := (-1 : Int32)) dX10_rest_70 (by decide) ?_
      refine gx_ixor X dX10_rest_71 ?_
      refine gx_iand X dX10_rest_72 ?_
      refine gx_iload_n X 2 rfl dX10_rest_73 ?_
      obtain ⟨ra2, ga3, ca4, h⟩ := bdd_eq h
      refine gx_callVi X (40) (c_X10_tellsBy ca4) lc_X10_tellsBy li_X10_tellsBy lm_X10_254 (by decide) (cl_40 _ _) rfl rfl rfl (Nat.le_trans (by decide) hd) rfl (Nat.le_of_ble_eq_true rfl) dX10_rest_74 ?_
      refine gx_if_eq X 84 dX10_rest_77 (by decide) (fun q5 => ?_) (fun q5 => ?_)
      · replace h := (if_pos q5).symm.trans h
        refine gx_iconst X (v := (0 : Int32)) dX10_rest_84 (by decide) ?_
        refine gx_iload X 4 rfl dX10_rest_85 ?_
        refine gx_ishl X dX10_rest_87 ?_
        refine gx_ior X dX10_rest_88 ?_
        refine gx_istore_n X [(3, .int ((x3 ||| (shlI (0 : Int32) x4)))), (0, .ref (al (40))), (1, .int (x1)), (2, .int (x2)), (4, .int (x4))] dX10_rest_89 (by decide) rfl ?_
        refine gx_iinc X [(4, .int ((x4 + (1 : Int32)))), (3, .int ((x3 ||| (shlI (0 : Int32) x4)))), (0, .ref (al (40))), (1, .int (x1)), (2, .int (x2))] 4 dX10_rest_90 rfl rfl (by decide) rfl ?_
        refine gx_goto X 54 dX10_rest_93 (by decide) ?_
        exact gx_sub [2, 3, 4, 1, 0] rfl (ih x1 x2 (x3 ||| (shlI (0 : Int32) x4)) (x4 + (1 : Int32)) ga3 h)
      · replace h := (if_neg q5).symm.trans h
        refine gx_iconst X (v := (1 : Int32)) dX10_rest_80 (by decide) ?_
        refine gx_goto X 85 dX10_rest_81 (by decide) ?_
        refine gx_iload X 4 rfl dX10_rest_85 ?_
        refine gx_ishl X dX10_rest_87 ?_
        refine gx_ior X dX10_rest_88 ?_
        refine gx_istore_n X [(3, .int ((x3 ||| (shlI (1 : Int32) x4)))), (0, .ref (al (40))), (1, .int (x1)), (2, .int (x2)), (4, .int (x4))] dX10_rest_89 (by decide) rfl ?_
        refine gx_iinc X [(4, .int ((x4 + (1 : Int32)))), (3, .int ((x3 ||| (shlI (1 : Int32) x4)))), (0, .ref (al (40))), (1, .int (x1)), (2, .int (x2))] 4 dX10_rest_90 rfl rfl (by decide) rfl ?_
        refine gx_goto X 54 dX10_rest_93 (by decide) ?_
        exact gx_sub [2, 3, 4, 1, 0] rfl (ih x1 x2 (x3 ||| (shlI (1 : Int32) x4)) (x4 + (1 : Int32)) ga3 h)
def m_X10_rest_27 (x1 : Int32) (k0 : Int32) (g : Mm) : Option (Int32 × Mm) := (if ((rdI g 40 4) - (1 : Int32)) ≤ k0 then m_X10_rest_54 fuL x1 ((rdI g 40 4) - (1 : Int32)) (0 : Int32) (0 : Int32) g else m_X10_rest_54 fuL x1 k0 (0 : Int32) (0 : Int32) g)
set_option maxHeartbeats 2000000 in
theorem t_X10_rest_27 {r2 : Int32} {g2 : Mm} (X : gx_X p R s m args meth c D al cI cJ A RX10 cX10_rest 5 (some .int) d 0 0) (hd : 3 ≤ d) : ∀ (x1 : Int32) (k0 : Int32) (g : Mm), m_X10_rest_27 x1 k0 g = some (r2, g2) → gx_G p l e R s m args below meth c (gx_Q below args s D al cI cJ A (some (.int r2)) g2) D al cI cJ A 5 0 0 27 [(0, .ref (al (40))), (1, .int (x1))] [.int (k0)] g := by
  intro x1 k0 g h
  unfold m_X10_rest_27 at h
  refine gx_istore_n X [(2, .int (k0)), (0, .ref (al (40))), (1, .int (x1))] dX10_rest_27 (by decide) rfl ?_
  refine gx_iload_n X 0 rfl dX10_rest_28 ?_
  refine gx_aload_n X 1 rfl dX10_rest_29 ?_
  refine gx_getf X (40) lf_X10_89 (by decide) (cl_40 _ _) (v := .int ((rdI g 40 4))) rfl dX10_rest_30 ?_
  refine gx_iconst X (v := (1 : Int32)) dX10_rest_33 (by decide) ?_
  refine gx_isub X dX10_rest_34 ?_
  refine gx_icmp_ge X 42 dX10_rest_35 (by decide) (fun q1 => ?_) (fun q1 => ?_)
  · replace h := (if_pos q1).symm.trans h
    refine gx_aload_n X 1 rfl dX10_rest_42 ?_
    refine gx_getf X (40) lf_X10_89 (by decide) (cl_40 _ _) (v := .int ((rdI g 40 4))) rfl dX10_rest_43 ?_
    refine gx_iconst X (v := (1 : Int32)) dX10_rest_46 (by decide) ?_
    refine gx_isub X dX10_rest_47 ?_
    refine gx_istore_n X [(2, .int (((rdI g 40 4) - (1 : Int32)))), (0, .ref (al (40))), (1, .int (x1))] dX10_rest_48 (by decide) rfl ?_
    refine gx_iconst X (v := (0 : Int32)) dX10_rest_49 (by decide) ?_
    refine gx_istore_n X [(3, .int ((0 : Int32))), (2, .int (((rdI g 40 4) - (1 : Int32)))), (0, .ref (al (40))), (1, .int (x1))] dX10_rest_50 (by decide) rfl ?_
    refine gx_iconst X (v := (0 : Int32)) dX10_rest_51 (by decide) ?_
    refine gx_istore X [(4, .int ((0 : Int32))), (3, .int ((0 : Int32))), (2, .int (((rdI g 40 4) - (1 : Int32)))), (0, .ref (al (40))), (1, .int (x1))] dX10_rest_52 (by decide) rfl ?_
    exact gx_sub [3, 4, 2, 1, 0] rfl (t_X10_rest_54 X hd fuL x1 ((rdI g 40 4) - (1 : Int32)) (0 : Int32) (0 : Int32) g h)
  · replace h := (if_neg q1).symm.trans h
    refine gx_iload_n X 0 rfl dX10_rest_38 ?_
    refine gx_goto X 48 dX10_rest_39 (by decide) ?_
    refine gx_istore_n X [(2, .int (k0)), (0, .ref (al (40))), (1, .int (x1))] dX10_rest_48 (by decide) rfl ?_
    refine gx_iconst X (v := (0 : Int32)) dX10_rest_49 (by decide) ?_
    refine gx_istore_n X [(3, .int ((0 : Int32))), (2, .int (k0)), (0, .ref (al (40))), (1, .int (x1))] dX10_rest_50 (by decide) rfl ?_
    refine gx_iconst X (v := (0 : Int32)) dX10_rest_51 (by decide) ?_
    refine gx_istore X [(4, .int ((0 : Int32))), (3, .int ((0 : Int32))), (2, .int (k0)), (0, .ref (al (40))), (1, .int (x1))] dX10_rest_52 (by decide) rfl ?_
    exact gx_sub [3, 4, 2, 1, 0] rfl (t_X10_rest_54 X hd fuL x1 k0 (0 : Int32) (0 : Int32) g h)
def m_X10_rest (g : Mm) : Option (Int32 × Mm) := lti ((shlI (1 : Int32) (rdI g 40 4)) - (1 : Int32)) (fun v1 => (if (rdI g 40 6) ≤ (1 : Int32) then m_X10_rest_27 v1 (1 : Int32) g else m_X10_rest_27 v1 ((rdI g 40 6) - (1 : Int32)) g))
set_option maxHeartbeats 2000000 in
theorem c_X10_rest {r2 : Int32} {g g2 : Mm} (h : m_X10_rest g = some (r2, g2)) : gx_M 3 yX10_rest cX10_rest 5 (some .int) (fun al => [.ref (al (40))]) g (some (.int r2)) g2 := by
  have hd : 3 ≤ 3 := Nat.le_refl _
  refine gx_M.of (by decide +kernel) (fun _ => Nat.le_of_ble_eq_true rfl) ?_
  intro p l e R s m args below meth c D al cI cJ A X
  refine gx_eq (pc' := 0) (ls' := [(0, .ref (al (40)))]) (st' := []) (g' := g) ⟨rfl, rfl, rfl, rfl⟩ ?_
  unfold m_X10_rest at h
  refine gx_iconst X (v := (1 : Int32)) dX10_rest_0 (by decide) ?_
  refine gx_aload_n X 0 rfl dX10_rest_1 ?_
  refine gx_getf X (40) lf_X10_89 (by decide) (cl_40 _ _) (v := .int ((rdI g 40 4))) rfl dX10_rest_2 ?_
  refine gx_ishl X dX10_rest_5 ?_
  refine gx_iconst X (v := (1 : Int32)) dX10_rest_6 (by decide) ?_
  refine gx_isub X dX10_rest_7 ?_
  obtain ⟨v1, ev1, h⟩ := lti_eq h
  refine gx_topi ev1 ?_
  refine gx_istore_n X [(1, .int (v1)), (0, .ref (al (40)))] dX10_rest_8 (by decide) rfl ?_
  refine gx_aload_n X 1 rfl dX10_rest_9 ?_
  refine gx_getf X (40) lf_X10_25 (by decide) (cl_40 _ _) (v := .int ((rdI g 40 6))) rfl dX10_rest_10 ?_
  refine gx_iconst X (v := (1 : Int32)) dX10_rest_13 (by decide) ?_
  refine gx_icmp_le X 26 dX10_rest_14 (by decide) (fun q2 => ?_) (fun q2 => ?_)
  · replace h := (if_pos q2).symm.trans h
    refine gx_iconst X (v := (1 : Int32)) dX10_rest_26 (by decide) ?_
    exact gx_sub [1, 0] rfl (t_X10_rest_27 X hd v1 (1 : Int32) g h)
  · replace h := (if_neg q2).symm.trans h
    refine gx_aload_n X 1 rfl dX10_rest_17 ?_
    refine gx_getf X (40) lf_X10_25 (by decide) (cl_40 _ _) (v := .int ((rdI g 40 6))) rfl dX10_rest_18 ?_
    refine gx_iconst X (v := (1 : Int32)) dX10_rest_21 (by decide) ?_
    refine gx_isub X dX10_rest_22 ?_
    refine gx_goto X 27 dX10_rest_23 (by decide) ?_
    exact gx_sub [1, 0] rfl (t_X10_rest_27 X hd v1 ((rdI g 40 6) - (1 : Int32)) g h)
theorem dX10_row_0 : decode cX10_row 0 = .ok (.iload_n 1, 1) := by decide +kernel
theorem dX10_row_1 : decode cX10_row 1 = .ok (.invokestatic 367, 3) := by decide +kernel
theorem dX10_row_4 : decode cX10_row 4 = .ok (.ifCond .eq 21, 3) := by decide +kernel
theorem dX10_row_7 : decode cX10_row 7 = .ok (.iload_n 2, 1) := by decide +kernel
theorem dX10_row_8 : decode cX10_row 8 = .ok (.i2l, 1) := by decide +kernel
theorem dX10_row_9 : decode cX10_row 9 = .ok (.lconst 0, 1) := by decide +kernel
theorem dX10_row_10 : decode cX10_row 10 = .ok (.ldc2_w 370, 3) := by decide +kernel
theorem dX10_row_13 : decode cX10_row 13 = .ok (.invokestatic 92, 3) := by decide +kernel
theorem dX10_row_16 : decode cX10_row 16 = .ok (.ifCond .eq 9, 3) := by decide +kernel
theorem dX10_row_19 : decode cX10_row 19 = .ok (.iload_n 3, 1) := by decide +kernel
theorem dX10_row_20 : decode cX10_row 20 = .ok (.bipush 60, 2) := by decide +kernel
theorem dX10_row_22 : decode cX10_row 22 = .ok (.if_icmp .le 5, 3) := by decide +kernel
theorem dX10_row_25 : decode cX10_row 25 = .ok (.iconst (-1), 1) := by decide +kernel
theorem dX10_row_26 : decode cX10_row 26 = .ok (.ireturn, 1) := by decide +kernel
theorem dX10_row_27 : decode cX10_row 27 = .ok (.iload_n 3, 1) := by decide +kernel
theorem dX10_row_28 : decode cX10_row 28 = .ok (.ifCond .ge 6, 3) := by decide +kernel
theorem dX10_row_31 : decode cX10_row 31 = .ok (.bipush (-14), 2) := by decide +kernel
theorem dX10_row_33 : decode cX10_row 33 = .ok (.ireturn, 1) := by decide +kernel
theorem dX10_row_34 : decode cX10_row 34 = .ok (.aload_n 0, 1) := by decide +kernel
theorem dX10_row_35 : decode cX10_row 35 = .ok (.getfield 70, 3) := by decide +kernel
theorem dX10_row_38 : decode cX10_row 38 = .ok (.iload_n 1, 1) := by decide +kernel
theorem dX10_row_39 : decode cX10_row 39 = .ok (.iconst 2, 1) := by decide +kernel
theorem dX10_row_40 : decode cX10_row 40 = .ok (.iastore, 1) := by decide +kernel
theorem dX10_row_41 : decode cX10_row 41 = .ok (.aload_n 0, 1) := by decide +kernel
theorem dX10_row_42 : decode cX10_row 42 = .ok (.getfield 76, 3) := by decide +kernel
theorem dX10_row_45 : decode cX10_row 45 = .ok (.iload_n 1, 1) := by decide +kernel
theorem dX10_row_46 : decode cX10_row 46 = .ok (.iload_n 2, 1) := by decide +kernel
theorem dX10_row_47 : decode cX10_row 47 = .ok (.iastore, 1) := by decide +kernel
theorem dX10_row_48 : decode cX10_row 48 = .ok (.aload_n 0, 1) := by decide +kernel
theorem dX10_row_49 : decode cX10_row 49 = .ok (.getfield 79, 3) := by decide +kernel
theorem dX10_row_52 : decode cX10_row 52 = .ok (.iload_n 1, 1) := by decide +kernel
theorem dX10_row_53 : decode cX10_row 53 = .ok (.iload_n 3, 1) := by decide +kernel
theorem dX10_row_54 : decode cX10_row 54 = .ok (.iastore, 1) := by decide +kernel
theorem dX10_row_55 : decode cX10_row 55 = .ok (.iconst 0, 1) := by decide +kernel
theorem dX10_row_56 : decode cX10_row 56 = .ok (.istore 4, 2) := by decide +kernel
theorem dX10_row_58 : decode cX10_row 58 = .ok (.iload 4, 2) := by decide +kernel
theorem dX10_row_60 : decode cX10_row 60 = .ok (.iload_n 3, 1) := by decide +kernel
theorem dX10_row_61 : decode cX10_row 61 = .ok (.if_icmp .ge 22, 3) := by decide +kernel
theorem dX10_row_64 : decode cX10_row 64 = .ok (.aload_n 0, 1) := by decide +kernel
theorem dX10_row_65 : decode cX10_row 65 = .ok (.getfield 82, 3) := by decide +kernel
theorem dX10_row_68 : decode cX10_row 68 = .ok (.bipush 60, 2) := by decide +kernel
theorem dX10_row_70 : decode cX10_row 70 = .ok (.iload_n 1, 1) := by decide +kernel
theorem dX10_row_71 : decode cX10_row 71 = .ok (.imul, 1) := by decide +kernel
theorem dX10_row_72 : decode cX10_row 72 = .ok (.iload 4, 2) := by decide +kernel
theorem dX10_row_74 : decode cX10_row 74 = .ok (.iadd, 1) := by decide +kernel
theorem dX10_row_75 : decode cX10_row 75 = .ok (.lconst 0, 1) := by decide +kernel
theorem dX10_row_76 : decode cX10_row 76 = .ok (.lastore, 1) := by decide +kernel
theorem dX10_row_77 : decode cX10_row 77 = .ok (.iinc 4 1, 3) := by decide +kernel
theorem dX10_row_80 : decode cX10_row 80 = .ok (.goto (-22), 3) := by decide +kernel
theorem dX10_row_83 : decode cX10_row 83 = .ok (.iconst 1, 1) := by decide +kernel
theorem dX10_row_84 : decode cX10_row 84 = .ok (.ireturn, 1) := by decide +kernel
def m_X10_row_58 : Nat → Int32 → Int32 → Int32 → Mm → Option (Int32 × Mm)
  | 0, _, _, _, _ => none
  | n + 1, x1, x3, x4, g => (if x3 ≤ x4 then some ((1 : Int32), g) else gdd (ixo (((60 : Int32) * x1) + x4) 360) (m_X10_row_58 n x1 x3 (x4 + (1 : Int32)) (wrL g 62 (((60 : Int32) * x1) + x4).toNatClampNeg (0 : Int64))))
set_option maxHeartbeats 2000000 in
theorem t_X10_row_58 {r2 : Int32} {g2 : Mm} (X : gx_X p R s m args meth c D al cI cJ A RX10 cX10_row 5 (some .int) d 0 0) (hd : 3 ≤ d) : ∀ (n : Nat) (x1 : Int32) (x3 : Int32) (x4 : Int32) (g : Mm), m_X10_row_58 n x1 x3 x4 g = some (r2, g2) → gx_G p l e R s m args below meth c (gx_Q below args s D al cI cJ A (some (.int r2)) g2) D al cI cJ A 5 0 0 58 [(0, .ref (al (40))), (1, .int (x1)), (3, .int (x3)), (4, .int (x4))] [] g := by
  intro n
  induction n with
  | zero => intro x1 x3 x4 g h; cases h
  | succ n ih =>
    intro x1 x3 x4 g h
    rw [m_X10_row_58] at h
    refine gx_iload X 3 rfl dX10_row_58 ?_
    refine gx_iload_n X 2 rfl dX10_row_60 ?_
    refine gx_icmp_ge X 83 dX10_row_61 (by decide) (fun q1 => ?_) (fun q1 => ?_)
    · replace h := (if_pos q1).symm.trans h
      refine gx_iconst X (v := (1 : Int32)) dX10_row_83 (by decide) ?_
      obtain ⟨rfl, rfl⟩ := ret_eq h
      exact gx_iret X rfl dX10_row_84
    · replace h := (if_neg q1).symm.trans h
      refine gx_aload_n X 0 rfl dX10_row_64 ?_
      refine gx_getf X (40) lf_X10_82 (by decide) (cl_40 _ _) (v := .ref (al (62))) rfl dX10_row_65 ?_
      refine gx_bipush X (v := (60 : Int32)) dX10_row_68 (by decide) ?_
      refine gx_iload_n X 1 rfl dX10_row_70 ?_
      refine gx_imul X dX10_row_71 ?_
      refine gx_iload X 3 rfl dX10_row_72 ?_
      refine gx_iadd X dX10_row_74 ?_
      refine gx_lconst X (v := (0 : Int64)) dX10_row_75 (by decide) ?_
      obtain ⟨q2, h⟩ := gdd_eq h
      refine gx_last X (62) 360 (by decide) (fun r => cl_62 _ r) q2 dX10_row_76 ?_
      refine gx_iinc X [(4, .int ((x4 + (1 : Int32)))), (0, .ref (al (40))), (1, .int (x1)), (3, .int (x3))] 3 dX10_row_77 rfl rfl (by decide) rfl ?_
      refine gx_goto X 58 dX10_row_80 (by decide) ?_
      exact gx_sub [1, 2, 3, 0] rfl (ih x1 x3 (x4 + (1 : Int32)) (wrL g 62 (((60 : Int32) * x1) + x4).toNatClampNeg (0 : Int64)) h)
def m_X10_row (a1 : Int32) (a2 : Int32) (a3 : Int32) (g : Mm) : Option (Int32 × Mm) := bdd (m_X10_isShelf a1 g) (fun ra1 ga2 => (if ra1 = (0 : Int32) then some ((-1 : Int32), ga2) else bdd (m_X10_in (a2.toInt64) (0 : Int64) (4 : Int64) ga2) (fun ra5 ga6 => (if ra5 = (0 : Int32) then some ((-1 : Int32), ga6) else (if a3 ≤ (60 : Int32) then (if (0 : Int32) ≤ a3 then gdd (ixo a1 6) (gdd (ixo a1 6) (gdd (ixo a1 6) (m_X10_row_58 fuL a1 a3 (0 : Int32) (wrI (wrI (wrI ga6 58 a1.toNatClampNeg (2 : Int32)) 60 a1.toNatClampNeg a2) 61 a1.toNatClampNeg a3)))) else some ((-14 : Int32), ga6)) else some ((-1 : Int32), ga6))))))
set_option maxHeartbeats 2000000 in
theorem c_X10_row {r2 : Int32} {g g2 : Mm} {a1 : Int32} {a2 : Int32} {a3 : Int32} (h : m_X10_row a1 a2 a3 g = some (r2, g2)) : gx_M 3 yX10_row cX10_row 5 (some .int) (fun al => [.ref (al (40)), .int (a1), .int (a2), .int (a3)]) g (some (.int r2)) g2 := by
  have hd : 3 ≤ 3 := Nat.le_refl _
  refine gx_M.of (by decide +kernel) (fun _ => Nat.le_of_ble_eq_true rfl) ?_
  intro p l e R s m args below meth c D al cI cJ A X
  refine gx_eq (pc' := 0) (ls' := [(0, .ref (al (40))), (1, .int (a1)), (2, .int (a2)), (3, .int (a3))]) (st' := []) (g' := g) ⟨rfl, rfl, rfl, rfl⟩ ?_
  unfold m_X10_row at h
  refine gx_iload_n X 1 rfl dX10_row_0 ?_
  obtain ⟨ra1, ga2, ca3, h⟩ := bdd_eq h
  refine gx_callSi X (c_X10_isShelf ca3) lc_X10_isShelf li_X10_isShelf lm_X10_367 rfl rfl (Nat.le_trans (by decide) hd) rfl (Nat.le_of_ble_eq_true rfl) dX10_row_1 ?_
  refine gx_if_eq X 25 dX10_row_4 (by decide) (fun q4 => ?_) (fun q4 => ?_)
  · replace h := (if_pos q4).symm.trans h
    refine gx_iconst X (v := (-1 : Int32)) dX10_row_25 (by decide) ?_
    obtain ⟨rfl, rfl⟩ := ret_eq h
    exact gx_iret X rfl dX10_row_26
  · replace h := (if_neg q4).symm.trans h
    refine gx_iload_n X 2 rfl dX10_row_7 ?_
    refine gx_i2l X dX10_row_8 ?_
    refine gx_lconst X (v := (0 : Int64)) dX10_row_9 (by decide) ?_
    refine gx_ldc2 X (v := (4 : Int64)) lk_X10_370 dX10_row_10 ?_
    obtain ⟨ra5, ga6, ca7, h⟩ := bdd_eq h
    refine gx_callSi X (c_X10_in ca7) lc_X10_in li_X10_in lm_X10_92 rfl rfl (Nat.le_trans (by decide) hd) rfl (Nat.le_of_ble_eq_true rfl) dX10_row_13 ?_
    refine gx_if_eq X 25 dX10_row_16 (by decide) (fun q8 => ?_) (fun q8 => ?_)
    · replace h := (if_pos q8).symm.trans h
      refine gx_iconst X (v := (-1 : Int32)) dX10_row_25 (by decide) ?_
      obtain ⟨rfl, rfl⟩ := ret_eq h
      exact gx_iret X rfl dX10_row_26
    · replace h := (if_neg q8).symm.trans h
      refine gx_iload_n X 3 rfl dX10_row_19 ?_
      refine gx_bipush X (v := (60 : Int32)) dX10_row_20 (by decide) ?_
      refine gx_icmp_le X 27 dX10_row_22 (by decide) (fun q9 => ?_) (fun q9 => ?_)
      · replace h := (if_pos q9).symm.trans h
        refine gx_iload_n X 3 rfl dX10_row_27 ?_
        refine gx_if_ge X 34 dX10_row_28 (by decide) (fun q10 => ?_) (fun q10 => ?_)
        · replace h := (if_pos q10).symm.trans h
          refine gx_aload_n X 0 rfl dX10_row_34 ?_
          refine gx_getf X (40) lf_X10_70 (by decide) (cl_40 _ _) (v := .ref (al (58))) rfl dX10_row_35 ?_
          refine gx_iload_n X 1 rfl dX10_row_38 ?_
          refine gx_iconst X (v := (2 : Int32)) dX10_row_39 (by decide) ?_
          obtain ⟨q11, h⟩ := gdd_eq h
          refine gx_iast X (58) 6 (by decide) (fun r => cl_58 r _) q11 dX10_row_40 ?_
          refine gx_aload_n X 0 rfl dX10_row_41 ?_
          refine gx_getf X (40) lf_X10_76 (by decide) (cl_40 _ _) (v := .ref (al (60))) rfl dX10_row_42 ?_
          refine gx_iload_n X 1 rfl dX10_row_45 ?_
          refine gx_iload_n X 2 rfl dX10_row_46 ?_
          obtain ⟨q12, h⟩ := gdd_eq h
          refine gx_iast X (60) 6 (by decide) (fun r => cl_60 r _) q12 dX10_row_47 ?_
          refine gx_aload_n X 0 rfl dX10_row_48 ?_
          refine gx_getf X (40) lf_X10_79 (by decide) (cl_40 _ _) (v := .ref (al (61))) rfl dX10_row_49 ?_
          refine gx_iload_n X 1 rfl dX10_row_52 ?_
          refine gx_iload_n X 3 rfl dX10_row_53 ?_
          obtain ⟨q13, h⟩ := gdd_eq h
          refine gx_iast X (61) 6 (by decide) (fun r => cl_61 r _) q13 dX10_row_54 ?_
          refine gx_iconst X (v := (0 : Int32)) dX10_row_55 (by decide) ?_
          refine gx_istore X [(4, .int ((0 : Int32))), (0, .ref (al (40))), (1, .int (a1)), (2, .int (a2)), (3, .int (a3))] dX10_row_56 (by decide) rfl ?_
          exact gx_sub [1, 2, 4, 0] rfl (t_X10_row_58 X hd fuL a1 a3 (0 : Int32) (wrI (wrI (wrI ga6 58 a1.toNatClampNeg (2 : Int32)) 60 a1.toNatClampNeg a2) 61 a1.toNatClampNeg a3) h)
        · replace h := (if_neg q10).symm.trans h
          refine gx_bipush X (v := (-14 : Int32)) dX10_row_31 (by decide) ?_
          obtain ⟨rfl, rfl⟩ := ret_eq h
          exact gx_iret X rfl dX10_row_33
      · replace h := (if_neg q9).symm.trans h
        refine gx_iconst X (v := (-1 : Int32)) dX10_row_25 (by decide) ?_
        obtain ⟨rfl, rfl⟩ := ret_eq h
        exact gx_iret X rfl dX10_row_26
theorem dX10_set_0 : decode cX10_set 0 = .ok (.iload_n 1, 1) := by decide +kernel
theorem dX10_set_1 : decode cX10_set 1 = .ok (.i2l, 1) := by decide +kernel
theorem dX10_set_2 : decode cX10_set 2 = .ok (.lconst 0, 1) := by decide +kernel
theorem dX10_set_3 : decode cX10_set 3 = .ok (.lconst 1, 1) := by decide +kernel
theorem dX10_set_4 : decode cX10_set 4 = .ok (.invokestatic 92, 3) := by decide +kernel
theorem dX10_set_7 : decode cX10_set 7 = .ok (.ifCond .eq 35, 3) := by decide +kernel
theorem dX10_set_10 : decode cX10_set 10 = .ok (.iload_n 2, 1) := by decide +kernel
theorem dX10_set_11 : decode cX10_set 11 = .ok (.i2l, 1) := by decide +kernel
theorem dX10_set_12 : decode cX10_set 12 = .ok (.iload_n 1, 1) := by decide +kernel
theorem dX10_set_13 : decode cX10_set 13 = .ok (.ifCond .ne 9, 3) := by decide +kernel
theorem dX10_set_16 : decode cX10_set 16 = .ok (.ldc2_w 105, 3) := by decide +kernel
theorem dX10_set_19 : decode cX10_set 19 = .ok (.goto 4, 3) := by decide +kernel
theorem dX10_set_22 : decode cX10_set 22 = .ok (.lconst 1, 1) := by decide +kernel
theorem dX10_set_23 : decode cX10_set 23 = .ok (.iload_n 1, 1) := by decide +kernel
theorem dX10_set_24 : decode cX10_set 24 = .ok (.ifCond .ne 9, 3) := by decide +kernel
theorem dX10_set_27 : decode cX10_set 27 = .ok (.ldc2_w 107, 3) := by decide +kernel
theorem dX10_set_30 : decode cX10_set 30 = .ok (.goto 6, 3) := by decide +kernel
theorem dX10_set_33 : decode cX10_set 33 = .ok (.ldc2_w 109, 3) := by decide +kernel
theorem dX10_set_36 : decode cX10_set 36 = .ok (.invokestatic 92, 3) := by decide +kernel
theorem dX10_set_39 : decode cX10_set 39 = .ok (.ifCond .ne 5, 3) := by decide +kernel
theorem dX10_set_42 : decode cX10_set 42 = .ok (.iconst (-1), 1) := by decide +kernel
theorem dX10_set_43 : decode cX10_set 43 = .ok (.ireturn, 1) := by decide +kernel
theorem dX10_set_44 : decode cX10_set 44 = .ok (.iload_n 1, 1) := by decide +kernel
theorem dX10_set_45 : decode cX10_set 45 = .ok (.ifCond .ne 10, 3) := by decide +kernel
theorem dX10_set_48 : decode cX10_set 48 = .ok (.aload_n 0, 1) := by decide +kernel
theorem dX10_set_49 : decode cX10_set 49 = .ok (.getfield 21, 3) := by decide +kernel
theorem dX10_set_52 : decode cX10_set 52 = .ok (.goto 7, 3) := by decide +kernel
theorem dX10_set_55 : decode cX10_set 55 = .ok (.aload_n 0, 1) := by decide +kernel
theorem dX10_set_56 : decode cX10_set 56 = .ok (.getfield 25, 3) := by decide +kernel
theorem dX10_set_59 : decode cX10_set 59 = .ok (.istore_n 3, 1) := by decide +kernel
theorem dX10_set_60 : decode cX10_set 60 = .ok (.iload_n 1, 1) := by decide +kernel
theorem dX10_set_61 : decode cX10_set 61 = .ok (.iconst 1, 1) := by decide +kernel
theorem dX10_set_62 : decode cX10_set 62 = .ok (.if_icmp .ne 10, 3) := by decide +kernel
theorem dX10_set_65 : decode cX10_set 65 = .ok (.aload_n 0, 1) := by decide +kernel
theorem dX10_set_66 : decode cX10_set 66 = .ok (.iload_n 2, 1) := by decide +kernel
theorem dX10_set_67 : decode cX10_set 67 = .ok (.putfield 25, 3) := by decide +kernel
theorem dX10_set_70 : decode cX10_set 70 = .ok (.iload_n 3, 1) := by decide +kernel
theorem dX10_set_71 : decode cX10_set 71 = .ok (.ireturn, 1) := by decide +kernel
theorem dX10_set_72 : decode cX10_set 72 = .ok (.aload_n 0, 1) := by decide +kernel
theorem dX10_set_73 : decode cX10_set 73 = .ok (.invokevirtual 111, 3) := by decide +kernel
theorem dX10_set_76 : decode cX10_set 76 = .ok (.aload_n 0, 1) := by decide +kernel
theorem dX10_set_77 : decode cX10_set 77 = .ok (.iload_n 2, 1) := by decide +kernel
theorem dX10_set_78 : decode cX10_set 78 = .ok (.putfield 21, 3) := by decide +kernel
theorem dX10_set_81 : decode cX10_set 81 = .ok (.iload_n 2, 1) := by decide +kernel
theorem dX10_set_82 : decode cX10_set 82 = .ok (.istore 4, 2) := by decide +kernel
theorem dX10_set_84 : decode cX10_set 84 = .ok (.iload 4, 2) := by decide +kernel
theorem dX10_set_86 : decode cX10_set 86 = .ok (.bipush 24, 2) := by decide +kernel
theorem dX10_set_88 : decode cX10_set 88 = .ok (.if_icmp .ge 47, 3) := by decide +kernel
theorem dX10_set_91 : decode cX10_set 91 = .ok (.aload_n 0, 1) := by decide +kernel
theorem dX10_set_92 : decode cX10_set 92 = .ok (.getfield 31, 3) := by decide +kernel
theorem dX10_set_95 : decode cX10_set 95 = .ok (.iload 4, 2) := by decide +kernel
theorem dX10_set_97 : decode cX10_set 97 = .ok (.iconst 0, 1) := by decide +kernel
theorem dX10_set_98 : decode cX10_set 98 = .ok (.iastore, 1) := by decide +kernel
theorem dX10_set_99 : decode cX10_set 99 = .ok (.iconst 0, 1) := by decide +kernel
theorem dX10_set_100 : decode cX10_set 100 = .ok (.istore 5, 2) := by decide +kernel
theorem dX10_set_102 : decode cX10_set 102 = .ok (.iload 5, 2) := by decide +kernel
theorem dX10_set_104 : decode cX10_set 104 = .ok (.bipush 6, 2) := by decide +kernel
theorem dX10_set_106 : decode cX10_set 106 = .ok (.if_icmp .ge 23, 3) := by decide +kernel
theorem dX10_set_109 : decode cX10_set 109 = .ok (.aload_n 0, 1) := by decide +kernel
theorem dX10_set_110 : decode cX10_set 110 = .ok (.getfield 28, 3) := by decide +kernel
theorem dX10_set_113 : decode cX10_set 113 = .ok (.bipush 6, 2) := by decide +kernel
theorem dX10_set_115 : decode cX10_set 115 = .ok (.iload 4, 2) := by decide +kernel
theorem dX10_set_117 : decode cX10_set 117 = .ok (.imul, 1) := by decide +kernel
theorem dX10_set_118 : decode cX10_set 118 = .ok (.iload 5, 2) := by decide +kernel
theorem dX10_set_120 : decode cX10_set 120 = .ok (.iadd, 1) := by decide +kernel
theorem dX10_set_121 : decode cX10_set 121 = .ok (.iconst 0, 1) := by decide +kernel
theorem dX10_set_122 : decode cX10_set 122 = .ok (.iastore, 1) := by decide +kernel
theorem dX10_set_123 : decode cX10_set 123 = .ok (.iinc 5 1, 3) := by decide +kernel
theorem dX10_set_126 : decode cX10_set 126 = .ok (.goto (-24), 3) := by decide +kernel
theorem dX10_set_129 : decode cX10_set 129 = .ok (.iinc 4 1, 3) := by decide +kernel
theorem dX10_set_132 : decode cX10_set 132 = .ok (.goto (-48), 3) := by decide +kernel
theorem dX10_set_135 : decode cX10_set 135 = .ok (.iconst 0, 1) := by decide +kernel
theorem dX10_set_136 : decode cX10_set 136 = .ok (.istore 4, 2) := by decide +kernel
theorem dX10_set_138 : decode cX10_set 138 = .ok (.iload 4, 2) := by decide +kernel
theorem dX10_set_140 : decode cX10_set 140 = .ok (.iload_n 2, 1) := by decide +kernel
theorem dX10_set_141 : decode cX10_set 141 = .ok (.if_icmp .ge 24, 3) := by decide +kernel
theorem dX10_set_144 : decode cX10_set 144 = .ok (.aload_n 0, 1) := by decide +kernel
theorem dX10_set_145 : decode cX10_set 145 = .ok (.getfield 31, 3) := by decide +kernel
theorem dX10_set_148 : decode cX10_set 148 = .ok (.iload 4, 2) := by decide +kernel
theorem dX10_set_150 : decode cX10_set 150 = .ok (.dup2, 1) := by decide +kernel
theorem dX10_set_151 : decode cX10_set 151 = .ok (.iaload, 1) := by decide +kernel
theorem dX10_set_152 : decode cX10_set 152 = .ok (.iconst 1, 1) := by decide +kernel
theorem dX10_set_153 : decode cX10_set 153 = .ok (.iload_n 2, 1) := by decide +kernel
theorem dX10_set_154 : decode cX10_set 154 = .ok (.ishl, 1) := by decide +kernel
theorem dX10_set_155 : decode cX10_set 155 = .ok (.iconst 1, 1) := by decide +kernel
theorem dX10_set_156 : decode cX10_set 156 = .ok (.isub, 1) := by decide +kernel
theorem dX10_set_157 : decode cX10_set 157 = .ok (.iand, 1) := by decide +kernel
theorem dX10_set_158 : decode cX10_set 158 = .ok (.iastore, 1) := by decide +kernel
theorem dX10_set_159 : decode cX10_set 159 = .ok (.iinc 4 1, 3) := by decide +kernel
theorem dX10_set_162 : decode cX10_set 162 = .ok (.goto (-24), 3) := by decide +kernel
theorem dX10_set_165 : decode cX10_set 165 = .ok (.iload_n 3, 1) := by decide +kernel
theorem dX10_set_166 : decode cX10_set 166 = .ok (.ireturn, 1) := by decide +kernel
def m_X10_set_102 (K84 : Int32 → Int32 → Int32 → Mm → Option (Int32 × Mm)) : Nat → Int32 → Int32 → Int32 → Int32 → Mm → Option (Int32 × Mm)
  | 0, _, _, _, _, _ => none
  | n + 1, x2, x3, x4, x5, g => (if (6 : Int32) ≤ x5 then K84 x2 x3 (x4 + (1 : Int32)) g else gdd (ixo (((6 : Int32) * x4) + x5) 144) (m_X10_set_102 K84 n x2 x3 x4 (x5 + (1 : Int32)) (wrI g 44 (((6 : Int32) * x4) + x5).toNatClampNeg (0 : Int32))))
set_option maxHeartbeats 2000000 in
theorem t_X10_set_102 {r2 : Int32} {g2 : Mm} (X : gx_X p R s m args meth c D al cI cJ A RX10 cX10_set 6 (some .int) d 0 0) (hd : 2 ≤ d) {K84 : Int32 → Int32 → Int32 → Mm → Option (Int32 × Mm)} (hK84 : ∀ (u0 : Int32) (u1 : Int32) (u2 : Int32) (g : Mm), K84 u0 u1 u2 g = some (r2, g2) → gx_G p l e R s m args below meth c (gx_Q below args s D al cI cJ A (some (.int r2)) g2) D al cI cJ A 6 0 0 84 [(0, .ref (al (40))), (2, .int (u0)), (3, .int (u1)), (4, .int (u2))] [] g) : ∀ (n : Nat) (x2 : Int32) (x3 : Int32) (x4 : Int32) (x5 : Int32) (g : Mm), m_X10_set_102 K84 n x2 x3 x4 x5 g = some (r2, g2) → gx_G p l e R s m args below meth c (gx_Q below args s D al cI cJ A (some (.int r2)) g2) D al cI cJ A 6 0 0 102 [(0, .ref (al (40))), (2, .int (x2)), (3, .int (x3)), (4, .int (x4)), (5, .int (x5))] [] g := by
  intro n
  induction n with
  | zero => intro x2 x3 x4 x5 g h; cases h
  | succ n ih =>
    intro x2 x3 x4 x5 g h
    rw [m_X10_set_102] at h
    refine gx_iload X 4 rfl dX10_set_102 ?_
    refine gx_bipush X (v := (6 : Int32)) dX10_set_104 (by decide) ?_
    refine gx_icmp_ge X 129 dX10_set_106 (by decide) (fun q1 => ?_) (fun q1 => ?_)
    · replace h := (if_pos q1).symm.trans h
      refine gx_iinc X [(4, .int ((x4 + (1 : Int32)))), (0, .ref (al (40))), (2, .int (x2)), (3, .int (x3)), (5, .int (x5))] 3 dX10_set_129 rfl rfl (by decide) rfl ?_
      refine gx_goto X 84 dX10_set_132 (by decide) ?_
      exact gx_sub [1, 2, 3, 0] rfl (hK84 x2 x3 (x4 + (1 : Int32)) g h)
    · replace h := (if_neg q1).symm.trans h
      refine gx_aload_n X 0 rfl dX10_set_109 ?_
      refine gx_getf X (40) lf_X10_28 (by decide) (cl_40 _ _) (v := .ref (al (44))) rfl dX10_set_110 ?_
      refine gx_bipush X (v := (6 : Int32)) dX10_set_113 (by decide) ?_
      refine gx_iload X 3 rfl dX10_set_115 ?_
      refine gx_imul X dX10_set_117 ?_
      refine gx_iload X 4 rfl dX10_set_118 ?_
      refine gx_iadd X dX10_set_120 ?_
      refine gx_iconst X (v := (0 : Int32)) dX10_set_121 (by decide) ?_
      obtain ⟨q2, h⟩ := gdd_eq h
      refine gx_iast X (44) 144 (by decide) (fun r => cl_44 r _) q2 dX10_set_122 ?_
      refine gx_iinc X [(5, .int ((x5 + (1 : Int32)))), (0, .ref (al (40))), (2, .int (x2)), (3, .int (x3)), (4, .int (x4))] 4 dX10_set_123 rfl rfl (by decide) rfl ?_
      refine gx_goto X 102 dX10_set_126 (by decide) ?_
      exact gx_sub [1, 2, 3, 4, 0] rfl (ih x2 x3 x4 (x5 + (1 : Int32)) (wrI g 44 (((6 : Int32) * x4) + x5).toNatClampNeg (0 : Int32)) h)
def m_X10_set_138 : Nat → Int32 → Int32 → Int32 → Mm → Option (Int32 × Mm)
  | 0, _, _, _, _ => none
  | n + 1, x2, x3, x4, g => (if x2 ≤ x4 then some (x3, g) else gdd (ixo x4 24) (gdd (ixo x4 24) (m_X10_set_138 n x2 x3 (x4 + (1 : Int32)) (wrI g 45 x4.toNatClampNeg ((rdI g 45 x4.toNatClampNeg) &&& ((shlI (1 : Int32) x2) - (1 : Int32)))))))
set_option maxHeartbeats 2000000 in
theorem t_X10_set_138 {r2 : Int32} {g2 : Mm} (X : gx_X p R s m args meth c D al cI cJ A RX10 cX10_set 6 (some .int) d 0 0) (hd : 2 ≤ d) : ∀ (n : Nat) (x2 : Int32) (x3 : Int32) (x4 : Int32) (g : Mm), m_X10_set_138 n x2 x3 x4 g = some (r2, g2) → gx_G p l e R s m args below meth c (gx_Q below args s D al cI cJ A (some (.int r2)) g2) D al cI cJ A 6 0 0 138 [(0, .ref (al (40))), (2, .int (x2)), (3, .int (x3)), (4, .int (x4))] [] g := by
  intro n
  induction n with
  | zero => intro x2 x3 x4 g h; cases h
  | succ n ih =>
    intro x2 x3 x4 g h
    rw [m_X10_set_138] at h
    refine gx_iload X 3 rfl dX10_set_138 ?_
    refine gx_iload_n X 1 rfl dX10_set_140 ?_
    refine gx_icmp_ge X 165 dX10_set_141 (by decide) (fun q1 => ?_) (fun q1 => ?_)
    · replace h := (if_pos q1).symm.trans h
      refine gx_iload_n X 2 rfl dX10_set_165 ?_
      obtain ⟨rfl, rfl⟩ := ret_eq h
      exact gx_iret X rfl dX10_set_166
    · replace h := (if_neg q1).symm.trans h
      refine gx_aload_n X 0 rfl dX10_set_144 ?_
      refine gx_getf X (40) lf_X10_31 (by decide) (cl_40 _ _) (v := .ref (al (45))) rfl dX10_set_145 ?_
      refine gx_iload X 3 rfl dX10_set_148 ?_
      refine gx_dup2 X dX10_set_150 rfl rfl ?_
      obtain ⟨q2, h⟩ := gdd_eq h
      refine gx_iald X (45) 24 (by decide) (cl_45 _ _) q2 dX10_set_151 ?_
      refine gx_iconst X (v := (1 : Int32)) dX10_set_152 (by decide) ?_
      refine gx_iload_n X 1 rfl dX10_set_153 ?_
      refine gx_ishl X dX10_set_154 ?_
      refine gx_iconst X (v := (1 : Int32)) dX10_set_155 (by decide) ?_
      refine gx_isub X dX10_set_156 ?_
      refine gx_iand X dX10_set_157 ?_
      obtain ⟨q3, h⟩ := gdd_eq h
      refine gx_iast X (45) 24 (by decide) (fun r => cl_45 r _) q3 dX10_set_158 ?_
      refine gx_iinc X [(4, .int ((x4 + (1 : Int32)))), (0, .ref (al (40))), (2, .int (x2)), (3, .int (x3))] 3 dX10_set_159 rfl rfl (by decide) rfl ?_
      refine gx_goto X 138 dX10_set_162 (by decide) ?_
      exact gx_sub [1, 2, 3, 0] rfl (ih x2 x3 (x4 + (1 : Int32)) (wrI g 45 x4.toNatClampNeg ((rdI g 45 x4.toNatClampNeg) &&& ((shlI (1 : Int32) x2) - (1 : Int32)))) h)
def m_X10_set_84 : Nat → Int32 → Int32 → Int32 → Mm → Option (Int32 × Mm)
  | 0, _, _, _, _ => none
  | n + 1, x2, x3, x4, g => (if (24 : Int32) ≤ x4 then m_X10_set_138 fuL x2 x3 (0 : Int32) g else gdd (ixo x4 24) (m_X10_set_102 (m_X10_set_84 n) fuL x2 x3 x4 (0 : Int32) (wrI g 45 x4.toNatClampNeg (0 : Int32))))
set_option maxHeartbeats 2000000 in
theorem t_X10_set_84 {r2 : Int32} {g2 : Mm} (X : gx_X p R s m args meth c D al cI cJ A RX10 cX10_set 6 (some .int) d 0 0) (hd : 2 ≤ d) : ∀ (n : Nat) (x2 : Int32) (x3 : Int32) (x4 : Int32) (g : Mm), m_X10_set_84 n x2 x3 x4 g = some (r2, g2) → gx_G p l e R s m args below meth c (gx_Q below args s D al cI cJ A (some (.int r2)) g2) D al cI cJ A 6 0 0 84 [(0, .ref (al (40))), (2, .int (x2)), (3, .int (x3)), (4, .int (x4))] [] g := by
  intro n
  induction n with
  | zero => intro x2 x3 x4 g h; cases h
  | succ n ih =>
    intro x2 x3 x4 g h
    rw [m_X10_set_84] at h
    refine gx_iload X 3 rfl dX10_set_84 ?_
    refine gx_bipush X (v := (24 : Int32)) dX10_set_86 (by decide) ?_
    refine gx_icmp_ge X 135 dX10_set_88 (by decide) (fun q1 => ?_) (fun q1 => ?_)
    · replace h := (if_pos q1).symm.trans h
      refine gx_iconst X (v := (0 : Int32)) dX10_set_135 (by decide) ?_
      refine gx_istore X [(4, .int ((0 : Int32))), (0, .ref (al (40))), (2, .int (x2)), (3, .int (x3))] dX10_set_136 (by decide) rfl ?_
      exact gx_sub [1, 2, 3, 0] rfl (t_X10_set_138 X hd fuL x2 x3 (0 : Int32) g h)
    · replace h := (if_neg q1).symm.trans h
      refine gx_aload_n X 0 rfl dX10_set_91 ?_
      refine gx_getf X (40) lf_X10_31 (by decide) (cl_40 _ _) (v := .ref (al (45))) rfl dX10_set_92 ?_
      refine gx_iload X 3 rfl dX10_set_95 ?_
      refine gx_iconst X (v := (0 : Int32)) dX10_set_97 (by decide) ?_
      obtain ⟨q2, h⟩ := gdd_eq h
      refine gx_iast X (45) 24 (by decide) (fun r => cl_45 r _) q2 dX10_set_98 ?_
      refine gx_iconst X (v := (0 : Int32)) dX10_set_99 (by decide) ?_
      refine gx_istore X [(5, .int ((0 : Int32))), (0, .ref (al (40))), (2, .int (x2)), (3, .int (x3)), (4, .int (x4))] dX10_set_100 (by decide) rfl ?_
      exact gx_sub [1, 2, 3, 4, 0] rfl (t_X10_set_102 X hd (fun u0 u1 u2 g h => ih u0 u1 u2 g h) fuL x2 x3 x4 (0 : Int32) (wrI g 45 x4.toNatClampNeg (0 : Int32)) h)
def m_X10_set_59 (x1 : Int32) (x2 : Int32) (k0 : Int32) (g : Mm) : Option (Int32 × Mm) := (if x1 = (1 : Int32) then some (k0, (wrI g 40 6 x2)) else bdd (m_X10_forgets  g) (fun ra2 ga3 => m_X10_set_84 fuL x2 k0 x2 (wrI ga3 40 5 x2)))
set_option maxHeartbeats 2000000 in
theorem t_X10_set_59 {r2 : Int32} {g2 : Mm} (X : gx_X p R s m args meth c D al cI cJ A RX10 cX10_set 6 (some .int) d 0 0) (hd : 2 ≤ d) : ∀ (x1 : Int32) (x2 : Int32) (k0 : Int32) (g : Mm), m_X10_set_59 x1 x2 k0 g = some (r2, g2) → gx_G p l e R s m args below meth c (gx_Q below args s D al cI cJ A (some (.int r2)) g2) D al cI cJ A 6 0 0 59 [(0, .ref (al (40))), (1, .int (x1)), (2, .int (x2))] [.int (k0)] g := by
  intro x1 x2 k0 g h
  unfold m_X10_set_59 at h
  refine gx_istore_n X [(3, .int (k0)), (0, .ref (al (40))), (1, .int (x1)), (2, .int (x2))] dX10_set_59 (by decide) rfl ?_
  refine gx_iload_n X 2 rfl dX10_set_60 ?_
  refine gx_iconst X (v := (1 : Int32)) dX10_set_61 (by decide) ?_
  refine gx_icmp_ne X 72 dX10_set_62 (by decide) (fun q1 => ?_) (fun q1 => ?_)
  · replace h := (if_neg q1).symm.trans h
    refine gx_aload_n X 1 rfl dX10_set_72 ?_
    obtain ⟨ra2, ga3, ca4, h⟩ := bdd_eq h
    refine gx_callVv X (40) (c_X10_forgets ca4) lc_X10_forgets li_X10_forgets lm_X10_111 (by decide) (cl_40 _ _) rfl rfl rfl (Nat.le_trans (by decide) hd) rfl (Nat.le_of_ble_eq_true rfl) dX10_set_73 ?_
    refine gx_aload_n X 1 rfl dX10_set_76 ?_
    refine gx_iload_n X 3 rfl dX10_set_77 ?_
    refine gx_putf X (40) x2 lf_X10_21 lp_X10_5 (by decide) (cl_40 _ _) (Nat.le_of_ble_eq_true rfl) rfl rfl rfl dX10_set_78 ?_
    refine gx_iload_n X 3 rfl dX10_set_81 ?_
    refine gx_istore X [(4, .int (x2)), (3, .int (k0)), (0, .ref (al (40))), (1, .int (x1)), (2, .int (x2))] dX10_set_82 (by decide) rfl ?_
    exact gx_sub [2, 4, 1, 0] rfl (t_X10_set_84 X hd fuL x2 k0 x2 (wrI ga3 40 5 x2) h)
  · replace h := (if_pos q1).symm.trans h
    refine gx_aload_n X 1 rfl dX10_set_65 ?_
    refine gx_iload_n X 3 rfl dX10_set_66 ?_
    refine gx_putf X (40) x2 lf_X10_25 lp_X10_6 (by decide) (cl_40 _ _) (Nat.le_of_ble_eq_true rfl) rfl rfl rfl dX10_set_67 ?_
    refine gx_iload_n X 0 rfl dX10_set_70 ?_
    obtain ⟨rfl, rfl⟩ := ret_eq h
    exact gx_iret X rfl dX10_set_71
def m_X10_set_36 (x1 : Int32) (x2 : Int32) (k0 : Int64) (k1 : Int64) (k2 : Int64) (g : Mm) : Option (Int32 × Mm) := bdd (m_X10_in k2 k1 k0 g) (fun ra1 ga2 => (if ra1 = (0 : Int32) then some ((-1 : Int32), ga2) else (if x1 = (0 : Int32) then m_X10_set_59 x1 x2 (rdI ga2 40 5) ga2 else m_X10_set_59 x1 x2 (rdI ga2 40 6) ga2)))
set_option maxHeartbeats 2000000 in
theorem t_X10_set_36 {r2 : Int32} {g2 : Mm} (X : gx_X p R s m args meth c D al cI cJ A RX10 cX10_set 6 (some .int) d 0 0) (hd : 2 ≤ d) : ∀ (x1 : Int32) (x2 : Int32) (k0 : Int64) (k1 : Int64) (k2 : Int64) (g : Mm), m_X10_set_36 x1 x2 k0 k1 k2 g = some (r2, g2) → gx_G p l e R s m args below meth c (gx_Q below args s D al cI cJ A (some (.int r2)) g2) D al cI cJ A 6 0 0 36 [(0, .ref (al (40))), (1, .int (x1)), (2, .int (x2))] [.long (k0), .long (k1), .long (k2)] g := by
  intro x1 x2 k0 k1 k2 g h
  unfold m_X10_set_36 at h
  obtain ⟨ra1, ga2, ca3, h⟩ := bdd_eq h
  refine gx_callSi X (c_X10_in ca3) lc_X10_in li_X10_in lm_X10_92 rfl rfl (Nat.le_trans (by decide) hd) rfl (Nat.le_of_ble_eq_true rfl) dX10_set_36 ?_
  refine gx_if_ne X 44 dX10_set_39 (by decide) (fun q4 => ?_) (fun q4 => ?_)
  · replace h := (if_neg q4).symm.trans h
    refine gx_iload_n X 1 rfl dX10_set_44 ?_
    refine gx_if_ne X 55 dX10_set_45 (by decide) (fun q5 => ?_) (fun q5 => ?_)
    · replace h := (if_neg q5).symm.trans h
      refine gx_aload_n X 0 rfl dX10_set_55 ?_
      refine gx_getf X (40) lf_X10_25 (by decide) (cl_40 _ _) (v := .int ((rdI ga2 40 6))) rfl dX10_set_56 ?_
      exact gx_sub [0, 1, 2] rfl (t_X10_set_59 X hd x1 x2 (rdI ga2 40 6) ga2 h)
    · replace h := (if_pos q5).symm.trans h
      refine gx_aload_n X 0 rfl dX10_set_48 ?_
      refine gx_getf X (40) lf_X10_21 (by decide) (cl_40 _ _) (v := .int ((rdI ga2 40 5))) rfl dX10_set_49 ?_
      refine gx_goto X 59 dX10_set_52 (by decide) ?_
      exact gx_sub [0, 1, 2] rfl (t_X10_set_59 X hd x1 x2 (rdI ga2 40 5) ga2 h)
  · replace h := (if_pos q4).symm.trans h
    refine gx_iconst X (v := (-1 : Int32)) dX10_set_42 (by decide) ?_
    obtain ⟨rfl, rfl⟩ := ret_eq h
    exact gx_iret X rfl dX10_set_43
def m_X10_set_23 (x1 : Int32) (x2 : Int32) (k0 : Int64) (k1 : Int64) (g : Mm) : Option (Int32 × Mm) := (if x1 = (0 : Int32) then m_X10_set_36 x1 x2 (24 : Int64) k0 k1 g else m_X10_set_36 x1 x2 (6 : Int64) k0 k1 g)
set_option maxHeartbeats 2000000 in
theorem t_X10_set_23 {r2 : Int32} {g2 : Mm} (X : gx_X p R s m args meth c D al cI cJ A RX10 cX10_set 6 (some .int) d 0 0) (hd : 2 ≤ d) : ∀ (x1 : Int32) (x2 : Int32) (k0 : Int64) (k1 : Int64) (g : Mm), m_X10_set_23 x1 x2 k0 k1 g = some (r2, g2) → gx_G p l e R s m args below meth c (gx_Q below args s D al cI cJ A (some (.int r2)) g2) D al cI cJ A 6 0 0 23 [(0, .ref (al (40))), (1, .int (x1)), (2, .int (x2))] [.long (k0), .long (k1)] g := by
  intro x1 x2 k0 k1 g h
  unfold m_X10_set_23 at h
  refine gx_iload_n X 1 rfl dX10_set_23 ?_
  refine gx_if_ne X 33 dX10_set_24 (by decide) (fun q1 => ?_) (fun q1 => ?_)
  · replace h := (if_neg q1).symm.trans h
    refine gx_ldc2 X (v := (6 : Int64)) lk_X10_109 dX10_set_33 ?_
    exact gx_sub [0, 1, 2] rfl (t_X10_set_36 X hd x1 x2 (6 : Int64) k0 k1 g h)
  · replace h := (if_pos q1).symm.trans h
    refine gx_ldc2 X (v := (24 : Int64)) lk_X10_107 dX10_set_27 ?_
    refine gx_goto X 36 dX10_set_30 (by decide) ?_
    exact gx_sub [0, 1, 2] rfl (t_X10_set_36 X hd x1 x2 (24 : Int64) k0 k1 g h)
def m_X10_set (a1 : Int32) (a2 : Int32) (g : Mm) : Option (Int32 × Mm) := bdd (m_X10_in (a1.toInt64) (0 : Int64) (1 : Int64) g) (fun ra1 ga2 => (if ra1 = (0 : Int32) then some ((-1 : Int32), ga2) else (if a1 = (0 : Int32) then m_X10_set_23 a1 a2 (2 : Int64) (a2.toInt64) ga2 else m_X10_set_23 a1 a2 (1 : Int64) (a2.toInt64) ga2)))
set_option maxHeartbeats 2000000 in
theorem c_X10_set {r2 : Int32} {g g2 : Mm} {a1 : Int32} {a2 : Int32} (h : m_X10_set a1 a2 g = some (r2, g2)) : gx_M 2 yX10_set cX10_set 6 (some .int) (fun al => [.ref (al (40)), .int (a1), .int (a2)]) g (some (.int r2)) g2 := by
  have hd : 2 ≤ 2 := Nat.le_refl _
  refine gx_M.of (by decide +kernel) (fun _ => Nat.le_of_ble_eq_true rfl) ?_
  intro p l e R s m args below meth c D al cI cJ A X
  refine gx_eq (pc' := 0) (ls' := [(0, .ref (al (40))), (1, .int (a1)), (2, .int (a2))]) (st' := []) (g' := g) ⟨rfl, rfl, rfl, rfl⟩ ?_
  unfold m_X10_set at h
  refine gx_iload_n X 1 rfl dX10_set_0 ?_
  refine gx_i2l X dX10_set_1 ?_
  refine gx_lconst X (v := (0 : Int64)) dX10_set_2 (by decide) ?_
  refine gx_lconst X (v := (1 : Int64)) dX10_set_3 (by decide) ?_
  obtain ⟨ra1, ga2, ca3, h⟩ := bdd_eq h
  refine gx_callSi X (c_X10_in ca3) lc_X10_in li_X10_in lm_X10_92 rfl rfl (Nat.le_trans (by decide) hd) rfl (Nat.le_of_ble_eq_true rfl) dX10_set_4 ?_
  refine gx_if_eq X 42 dX10_set_7 (by decide) (fun q4 => ?_) (fun q4 => ?_)
  · replace h := (if_pos q4).symm.trans h
    refine gx_iconst X (v := (-1 : Int32)) dX10_set_42 (by decide) ?_
    obtain ⟨rfl, rfl⟩ := ret_eq h
    exact gx_iret X rfl dX10_set_43
  · replace h := (if_neg q4).symm.trans h
    refine gx_iload_n X 2 rfl dX10_set_10 ?_
    refine gx_i2l X dX10_set_11 ?_
    refine gx_iload_n X 1 rfl dX10_set_12 ?_
    refine gx_if_ne X 22 dX10_set_13 (by decide) (fun q5 => ?_) (fun q5 => ?_)
    · replace h := (if_neg q5).symm.trans h
      refine gx_lconst X (v := (1 : Int64)) dX10_set_22 (by decide) ?_
      exact gx_sub [0, 1, 2] rfl (t_X10_set_23 X hd a1 a2 (1 : Int64) (a2.toInt64) ga2 h)
    · replace h := (if_pos q5).symm.trans h
      refine gx_ldc2 X (v := (2 : Int64)) lk_X10_105 dX10_set_16 ?_
      refine gx_goto X 23 dX10_set_19 (by decide) ?_
      exact gx_sub [0, 1, 2] rfl (t_X10_set_23 X hd a1 a2 (2 : Int64) (a2.toInt64) ga2 h)
theorem dX10_shift_0 : decode cX10_shift 0 = .ok (.iload_n 1, 1) := by decide +kernel
theorem dX10_shift_1 : decode cX10_shift 1 = .ok (.invokestatic 367, 3) := by decide +kernel
theorem dX10_shift_4 : decode cX10_shift 4 = .ok (.ifCond .eq 10, 3) := by decide +kernel
theorem dX10_shift_7 : decode cX10_shift 7 = .ok (.iload_n 3, 1) := by decide +kernel
theorem dX10_shift_8 : decode cX10_shift 8 = .ok (.invokestatic 367, 3) := by decide +kernel
theorem dX10_shift_11 : decode cX10_shift 11 = .ok (.ifCond .ne 5, 3) := by decide +kernel
theorem dX10_shift_14 : decode cX10_shift 14 = .ok (.iconst (-1), 1) := by decide +kernel
theorem dX10_shift_15 : decode cX10_shift 15 = .ok (.ireturn, 1) := by decide +kernel
theorem dX10_shift_16 : decode cX10_shift 16 = .ok (.aload_n 0, 1) := by decide +kernel
theorem dX10_shift_17 : decode cX10_shift 17 = .ok (.getfield 70, 3) := by decide +kernel
theorem dX10_shift_20 : decode cX10_shift 20 = .ok (.iload_n 1, 1) := by decide +kernel
theorem dX10_shift_21 : decode cX10_shift 21 = .ok (.iaload, 1) := by decide +kernel
theorem dX10_shift_22 : decode cX10_shift 22 = .ok (.ifCond .eq 12, 3) := by decide +kernel
theorem dX10_shift_25 : decode cX10_shift 25 = .ok (.aload_n 0, 1) := by decide +kernel
theorem dX10_shift_26 : decode cX10_shift 26 = .ok (.getfield 70, 3) := by decide +kernel
theorem dX10_shift_29 : decode cX10_shift 29 = .ok (.iload_n 3, 1) := by decide +kernel
theorem dX10_shift_30 : decode cX10_shift 30 = .ok (.iaload, 1) := by decide +kernel
theorem dX10_shift_31 : decode cX10_shift 31 = .ok (.ifCond .ne 6, 3) := by decide +kernel
theorem dX10_shift_34 : decode cX10_shift 34 = .ok (.bipush (-11), 2) := by decide +kernel
theorem dX10_shift_36 : decode cX10_shift 36 = .ok (.ireturn, 1) := by decide +kernel
theorem dX10_shift_37 : decode cX10_shift 37 = .ok (.aload_n 0, 1) := by decide +kernel
theorem dX10_shift_38 : decode cX10_shift 38 = .ok (.getfield 70, 3) := by decide +kernel
theorem dX10_shift_41 : decode cX10_shift 41 = .ok (.iload_n 1, 1) := by decide +kernel
theorem dX10_shift_42 : decode cX10_shift 42 = .ok (.iaload, 1) := by decide +kernel
theorem dX10_shift_43 : decode cX10_shift 43 = .ok (.iconst 1, 1) := by decide +kernel
theorem dX10_shift_44 : decode cX10_shift 44 = .ok (.if_icmp .eq 28, 3) := by decide +kernel
theorem dX10_shift_47 : decode cX10_shift 47 = .ok (.aload_n 0, 1) := by decide +kernel
theorem dX10_shift_48 : decode cX10_shift 48 = .ok (.getfield 70, 3) := by decide +kernel
theorem dX10_shift_51 : decode cX10_shift 51 = .ok (.iload_n 3, 1) := by decide +kernel
theorem dX10_shift_52 : decode cX10_shift 52 = .ok (.iaload, 1) := by decide +kernel
theorem dX10_shift_53 : decode cX10_shift 53 = .ok (.iconst 1, 1) := by decide +kernel
theorem dX10_shift_54 : decode cX10_shift 54 = .ok (.if_icmp .eq 18, 3) := by decide +kernel
theorem dX10_shift_57 : decode cX10_shift 57 = .ok (.aload_n 0, 1) := by decide +kernel
theorem dX10_shift_58 : decode cX10_shift 58 = .ok (.getfield 76, 3) := by decide +kernel
theorem dX10_shift_61 : decode cX10_shift 61 = .ok (.iload_n 1, 1) := by decide +kernel
theorem dX10_shift_62 : decode cX10_shift 62 = .ok (.iaload, 1) := by decide +kernel
theorem dX10_shift_63 : decode cX10_shift 63 = .ok (.aload_n 0, 1) := by decide +kernel
theorem dX10_shift_64 : decode cX10_shift 64 = .ok (.getfield 76, 3) := by decide +kernel
theorem dX10_shift_67 : decode cX10_shift 67 = .ok (.iload_n 3, 1) := by decide +kernel
theorem dX10_shift_68 : decode cX10_shift 68 = .ok (.iaload, 1) := by decide +kernel
theorem dX10_shift_69 : decode cX10_shift 69 = .ok (.if_icmp .eq 6, 3) := by decide +kernel
theorem dX10_shift_72 : decode cX10_shift 72 = .ok (.bipush (-12), 2) := by decide +kernel
theorem dX10_shift_74 : decode cX10_shift 74 = .ok (.ireturn, 1) := by decide +kernel
theorem dX10_shift_75 : decode cX10_shift 75 = .ok (.iload 5, 2) := by decide +kernel
theorem dX10_shift_77 : decode cX10_shift 77 = .ok (.ifCond .lt 39, 3) := by decide +kernel
theorem dX10_shift_80 : decode cX10_shift 80 = .ok (.iload_n 2, 1) := by decide +kernel
theorem dX10_shift_81 : decode cX10_shift 81 = .ok (.ifCond .lt 35, 3) := by decide +kernel
theorem dX10_shift_84 : decode cX10_shift 84 = .ok (.iload 4, 2) := by decide +kernel
theorem dX10_shift_86 : decode cX10_shift 86 = .ok (.ifCond .lt 30, 3) := by decide +kernel
theorem dX10_shift_89 : decode cX10_shift 89 = .ok (.iload_n 2, 1) := by decide +kernel
theorem dX10_shift_90 : decode cX10_shift 90 = .ok (.aload_n 0, 1) := by decide +kernel
theorem dX10_shift_91 : decode cX10_shift 91 = .ok (.getfield 79, 3) := by decide +kernel
theorem dX10_shift_94 : decode cX10_shift 94 = .ok (.iload_n 1, 1) := by decide +kernel
theorem dX10_shift_95 : decode cX10_shift 95 = .ok (.iaload, 1) := by decide +kernel
theorem dX10_shift_96 : decode cX10_shift 96 = .ok (.iload 5, 2) := by decide +kernel
theorem dX10_shift_98 : decode cX10_shift 98 = .ok (.isub, 1) := by decide +kernel
theorem dX10_shift_99 : decode cX10_shift 99 = .ok (.if_icmp .gt 17, 3) := by decide +kernel
theorem dX10_shift_102 : decode cX10_shift 102 = .ok (.iload 4, 2) := by decide +kernel
theorem dX10_shift_104 : decode cX10_shift 104 = .ok (.aload_n 0, 1) := by decide +kernel
theorem dX10_shift_105 : decode cX10_shift 105 = .ok (.getfield 79, 3) := by decide +kernel
theorem dX10_shift_108 : decode cX10_shift 108 = .ok (.iload_n 3, 1) := by decide +kernel
theorem dX10_shift_109 : decode cX10_shift 109 = .ok (.iaload, 1) := by decide +kernel
theorem dX10_shift_110 : decode cX10_shift 110 = .ok (.iload 5, 2) := by decide +kernel
theorem dX10_shift_112 : decode cX10_shift 112 = .ok (.isub, 1) := by decide +kernel
theorem dX10_shift_113 : decode cX10_shift 113 = .ok (.if_icmp .le 6, 3) := by decide +kernel
theorem dX10_shift_116 : decode cX10_shift 116 = .ok (.bipush (-13), 2) := by decide +kernel
theorem dX10_shift_118 : decode cX10_shift 118 = .ok (.ireturn, 1) := by decide +kernel
theorem dX10_shift_119 : decode cX10_shift 119 = .ok (.iload_n 1, 1) := by decide +kernel
theorem dX10_shift_120 : decode cX10_shift 120 = .ok (.iload_n 3, 1) := by decide +kernel
theorem dX10_shift_121 : decode cX10_shift 121 = .ok (.if_icmp .ne 13, 3) := by decide +kernel
theorem dX10_shift_124 : decode cX10_shift 124 = .ok (.iload_n 2, 1) := by decide +kernel
theorem dX10_shift_125 : decode cX10_shift 125 = .ok (.iload 4, 2) := by decide +kernel
theorem dX10_shift_127 : decode cX10_shift 127 = .ok (.if_icmp .ge 7, 3) := by decide +kernel
theorem dX10_shift_130 : decode cX10_shift 130 = .ok (.iconst 1, 1) := by decide +kernel
theorem dX10_shift_131 : decode cX10_shift 131 = .ok (.goto 4, 3) := by decide +kernel
theorem dX10_shift_134 : decode cX10_shift 134 = .ok (.iconst 0, 1) := by decide +kernel
theorem dX10_shift_135 : decode cX10_shift 135 = .ok (.istore 6, 2) := by decide +kernel
theorem dX10_shift_137 : decode cX10_shift 137 = .ok (.iconst 0, 1) := by decide +kernel
theorem dX10_shift_138 : decode cX10_shift 138 = .ok (.istore 7, 2) := by decide +kernel
theorem dX10_shift_140 : decode cX10_shift 140 = .ok (.iload 7, 2) := by decide +kernel
theorem dX10_shift_142 : decode cX10_shift 142 = .ok (.iload 5, 2) := by decide +kernel
theorem dX10_shift_144 : decode cX10_shift 144 = .ok (.if_icmp .ge 57, 3) := by decide +kernel
theorem dX10_shift_147 : decode cX10_shift 147 = .ok (.iload 6, 2) := by decide +kernel
theorem dX10_shift_149 : decode cX10_shift 149 = .ok (.ifCond .eq 13, 3) := by decide +kernel
theorem dX10_shift_152 : decode cX10_shift 152 = .ok (.iload 5, 2) := by decide +kernel
theorem dX10_shift_154 : decode cX10_shift 154 = .ok (.iconst 1, 1) := by decide +kernel
theorem dX10_shift_155 : decode cX10_shift 155 = .ok (.isub, 1) := by decide +kernel
theorem dX10_shift_156 : decode cX10_shift 156 = .ok (.iload 7, 2) := by decide +kernel
theorem dX10_shift_158 : decode cX10_shift 158 = .ok (.isub, 1) := by decide +kernel
theorem dX10_shift_159 : decode cX10_shift 159 = .ok (.goto 5, 3) := by decide +kernel
theorem dX10_shift_162 : decode cX10_shift 162 = .ok (.iload 7, 2) := by decide +kernel
theorem dX10_shift_164 : decode cX10_shift 164 = .ok (.istore 8, 2) := by decide +kernel
theorem dX10_shift_166 : decode cX10_shift 166 = .ok (.aload_n 0, 1) := by decide +kernel
theorem dX10_shift_167 : decode cX10_shift 167 = .ok (.getfield 82, 3) := by decide +kernel
theorem dX10_shift_170 : decode cX10_shift 170 = .ok (.bipush 60, 2) := by decide +kernel
theorem dX10_shift_172 : decode cX10_shift 172 = .ok (.iload_n 3, 1) := by decide +kernel
theorem dX10_shift_173 : decode cX10_shift 173 = .ok (.imul, 1) := by decide +kernel
theorem dX10_shift_174 : decode cX10_shift 174 = .ok (.iload 4, 2) := by decide +kernel
theorem dX10_shift_176 : decode cX10_shift 176 = .ok (.iadd, 1) := by decide +kernel
theorem dX10_shift_177 : decode cX10_shift 177 = .ok (.iload 8, 2) := by decide +kernel
theorem dX10_shift_179 : decode cX10_shift 179 = .ok (.iadd, 1) := by decide +kernel
theorem dX10_shift_180 : decode cX10_shift 180 = .ok (.aload_n 0, 1) := by decide +kernel
theorem dX10_shift_181 : decode cX10_shift 181 = .ok (.getfield 82, 3) := by decide +kernel
theorem dX10_shift_184 : decode cX10_shift 184 = .ok (.bipush 60, 2) := by decide +kernel
theorem dX10_shift_186 : decode cX10_shift 186 = .ok (.iload_n 1, 1) := by decide +kernel
theorem dX10_shift_187 : decode cX10_shift 187 = .ok (.imul, 1) := by decide +kernel
theorem dX10_shift_188 : decode cX10_shift 188 = .ok (.iload_n 2, 1) := by decide +kernel
theorem dX10_shift_189 : decode cX10_shift 189 = .ok (.iadd, 1) := by decide +kernel
theorem dX10_shift_190 : decode cX10_shift 190 = .ok (.iload 8, 2) := by decide +kernel
theorem dX10_shift_192 : decode cX10_shift 192 = .ok (.iadd, 1) := by decide +kernel
theorem dX10_shift_193 : decode cX10_shift 193 = .ok (.laload, 1) := by decide +kernel
theorem dX10_shift_194 : decode cX10_shift 194 = .ok (.lastore, 1) := by decide +kernel
theorem dX10_shift_195 : decode cX10_shift 195 = .ok (.iinc 7 1, 3) := by decide +kernel
theorem dX10_shift_198 : decode cX10_shift 198 = .ok (.goto (-58), 3) := by decide +kernel
theorem dX10_shift_201 : decode cX10_shift 201 = .ok (.iload 5, 2) := by decide +kernel
theorem dX10_shift_203 : decode cX10_shift 203 = .ok (.ireturn, 1) := by decide +kernel
def m_X10_shift_164 (K140 : Int32 → Int32 → Int32 → Int32 → Int32 → Int32 → Int32 → Mm → Option (Int32 × Mm)) (x1 : Int32) (x2 : Int32) (x3 : Int32) (x4 : Int32) (x5 : Int32) (x6 : Int32) (x7 : Int32) (k0 : Int32) (g : Mm) : Option (Int32 × Mm) := gdd (ixo ((((60 : Int32) * x1) + x2) + k0) 360) (gdd (ixo ((((60 : Int32) * x3) + x4) + k0) 360) (K140 x1 x2 x3 x4 x5 x6 (x7 + (1 : Int32)) (wrL g 62 ((((60 : Int32) * x3) + x4) + k0).toNatClampNeg (rdL g 62 ((((60 : Int32) * x1) + x2) + k0).toNatClampNeg))))
set_option maxHeartbeats 2000000 in
theorem t_X10_shift_164 {r2 : Int32} {g2 : Mm} (X : gx_X p R s m args meth c D al cI cJ A RX10 cX10_shift 9 (some .int) d 0 0) (hd : 3 ≤ d) {K140 : Int32 → Int32 → Int32 → Int32 → Int32 → Int32 → Int32 → Mm → Option (Int32 × Mm)} (hK140 : ∀ (u0 : Int32) (u1 : Int32) (u2 : Int32) (u3 : Int32) (u4 : Int32) (u5 : Int32) (u6 : Int32) (g : Mm), K140 u0 u1 u2 u3 u4 u5 u6 g = some (r2, g2) → gx_G p l e R s m args below meth c (gx_Q below args s D al cI cJ A (some (.int r2)) g2) D al cI cJ A 9 0 0 140 [(0, .ref (al (40))), (1, .int (u0)), (2, .int (u1)), (3, .int (u2)), (4, .int (u3)), (5, .int (u4)), (6, .int (u5)), (7, .int (u6))] [] g) : ∀ (x1 : Int32) (x2 : Int32) (x3 : Int32) (x4 : Int32) (x5 : Int32) (x6 : Int32) (x7 : Int32) (k0 : Int32) (g : Mm), m_X10_shift_164 K140 x1 x2 x3 x4 x5 x6 x7 k0 g = some (r2, g2) → gx_G p l e R s m args below meth c (gx_Q below args s D al cI cJ A (some (.int r2)) g2) D al cI cJ A 9 0 0 164 [(0, .ref (al (40))), (1, .int (x1)), (2, .int (x2)), (3, .int (x3)), (4, .int (x4)), (5, .int (x5)), (6, .int (x6)), (7, .int (x7))] [.int (k0)] g := by
  intro x1 x2 x3 x4 x5 x6 x7 k0 g h
  unfold m_X10_shift_164 at h
  refine gx_istore X [(8, .int (k0)), (0, .ref (al (40))), (1, .int (x1)), (2, .int (x2)), (3, .int (x3)), (4, .int (x4)), (5, .int (x5)), (6, .int (x6)), (7, .int (x7))] dX10_shift_164 (by decide) rfl ?_
  refine gx_aload_n X 1 rfl dX10_shift_166 ?_
  refine gx_getf X (40) lf_X10_82 (by decide) (cl_40 _ _) (v := .ref (al (62))) rfl dX10_shift_167 ?_
  refine gx_bipush X (v := (60 : Int32)) dX10_shift_170 (by decide) ?_
  refine gx_iload_n X 4 rfl dX10_shift_172 ?_
  refine gx_imul X dX10_shift_173 ?_
  refine gx_iload X 5 rfl dX10_shift_174 ?_
  refine gx_iadd X dX10_shift_176 ?_
  refine gx_iload X 0 rfl dX10_shift_177 ?_
  refine gx_iadd X dX10_shift_179 ?_
  refine gx_aload_n X 1 rfl dX10_shift_180 ?_
  refine gx_getf X (40) lf_X10_82 (by decide) (cl_40 _ _) (v := .ref (al (62))) rfl dX10_shift_181 ?_
  refine gx_bipush X (v := (60 : Int32)) dX10_shift_184 (by decide) ?_
  refine gx_iload_n X 2 rfl dX10_shift_186 ?_
  refine gx_imul X dX10_shift_187 ?_
  refine gx_iload_n X 3 rfl dX10_shift_188 ?_
  refine gx_iadd X dX10_shift_189 ?_
  refine gx_iload X 0 rfl dX10_shift_190 ?_
  refine gx_iadd X dX10_shift_192 ?_
  obtain ⟨q1, h⟩ := gdd_eq h
  refine gx_lald X (62) 360 (by decide) (cl_62 _ _) q1 dX10_shift_193 ?_
  obtain ⟨q2, h⟩ := gdd_eq h
  refine gx_last X (62) 360 (by decide) (fun r => cl_62 _ r) q2 dX10_shift_194 ?_
  refine gx_iinc X [(7, .int ((x7 + (1 : Int32)))), (8, .int (k0)), (0, .ref (al (40))), (1, .int (x1)), (2, .int (x2)), (3, .int (x3)), (4, .int (x4)), (5, .int (x5)), (6, .int (x6))] 8 dX10_shift_195 rfl rfl (by decide) rfl ?_
  refine gx_goto X 140 dX10_shift_198 (by decide) ?_
  exact gx_sub [2, 3, 4, 5, 6, 7, 8, 0] rfl (hK140 x1 x2 x3 x4 x5 x6 (x7 + (1 : Int32)) (wrL g 62 ((((60 : Int32) * x3) + x4) + k0).toNatClampNeg (rdL g 62 ((((60 : Int32) * x1) + x2) + k0).toNatClampNeg)) h)
def m_X10_shift_140 : Nat → Int32 → Int32 → Int32 → Int32 → Int32 → Int32 → Int32 → Mm → Option (Int32 × Mm)
  | 0, _, _, _, _, _, _, _, _ => none
  | n + 1, x1, x2, x3, x4, x5, x6, x7, g => (if x5 ≤ x7 then some (x5, g) else (if x6 = (0 : Int32) then m_X10_shift_164 (m_X10_shift_140 n) x1 x2 x3 x4 x5 x6 x7 x7 g else m_X10_shift_164 (m_X10_shift_140 n) x1 x2 x3 x4 x5 x6 x7 ((x5 - (1 : Int32)) - x7) g))
set_option maxHeartbeats 2000000 in
theorem t_X10_shift_140 {r2 : Int32} {g2 : Mm} (X : gx_X p R s m args meth c D al cI cJ A RX10 cX10_shift 9 (some .int) d 0 0) (hd : 3 ≤ d) : ∀ (n : Nat) (x1 : Int32) (x2 : Int32) (x3 : Int32) (x4 : Int32) (x5 : Int32) (x6 : Int32) (x7 : Int32) (g : Mm), m_X10_shift_140 n x1 x2 x3 x4 x5 x6 x7 g = some (r2, g2) → gx_G p l e R s m args below meth c (gx_Q below args s D al cI cJ A (some (.int r2)) g2) D al cI cJ A 9 0 0 140 [(0, .ref (al (40))), (1, .int (x1)), (2, .int (x2)), (3, .int (x3)), (4, .int (x4)), (5, .int (x5)), (6, .int (x6)), (7, .int (x7))] [] g := by
  intro n
  induction n with
  | zero => intro x1 x2 x3 x4 x5 x6 x7 g h; cases h
  | succ n ih =>
    intro x1 x2 x3 x4 x5 x6 x7 g h
    rw [m_X10_shift_140] at h
    refine gx_iload X 7 rfl dX10_shift_140 ?_
    refine gx_iload X 5 rfl dX10_shift_142 ?_
    refine gx_icmp_ge X 201 dX10_shift_144 (by decide) (fun q1 => ?_) (fun q1 => ?_)
    · replace h := (if_pos q1).symm.trans h
      refine gx_iload X 5 rfl dX10_shift_201 ?_
      obtain ⟨rfl, rfl⟩ := ret_eq h
      exact gx_iret X rfl dX10_shift_203
    · replace h := (if_neg q1).symm.trans h
      refine gx_iload X 6 rfl dX10_shift_147 ?_
      refine gx_if_eq X 162 dX10_shift_149 (by decide) (fun q2 => ?_) (fun q2 => ?_)
      · replace h := (if_pos q2).symm.trans h
        refine gx_iload X 7 rfl dX10_shift_162 ?_
        exact gx_sub [0, 1, 2, 3, 4, 5, 6, 7] rfl (t_X10_shift_164 X hd (fun u0 u1 u2 u3 u4 u5 u6 g h => ih u0 u1 u2 u3 u4 u5 u6 g h) x1 x2 x3 x4 x5 x6 x7 x7 g h)
      · replace h := (if_neg q2).symm.trans h
        refine gx_iload X 5 rfl dX10_shift_152 ?_
        refine gx_iconst X (v := (1 : Int32)) dX10_shift_154 (by decide) ?_
        refine gx_isub X dX10_shift_155 ?_
        refine gx_iload X 7 rfl dX10_shift_156 ?_
        refine gx_isub X dX10_shift_158 ?_
        refine gx_goto X 164 dX10_shift_159 (by decide) ?_
        exact gx_sub [0, 1, 2, 3, 4, 5, 6, 7] rfl (t_X10_shift_164 X hd (fun u0 u1 u2 u3 u4 u5 u6 g h => ih u0 u1 u2 u3 u4 u5 u6 g h) x1 x2 x3 x4 x5 x6 x7 ((x5 - (1 : Int32)) - x7) g h)
def m_X10_shift (a1 : Int32) (a2 : Int32) (a3 : Int32) (a4 : Int32) (a5 : Int32) (g : Mm) : Option (Int32 × Mm) := bdd (m_X10_isShelf a1 g) (fun ra1 ga2 => (if ra1 = (0 : Int32) then some ((-1 : Int32), ga2) else bdd (m_X10_isShelf a3 ga2) (fun ra5 ga6 => (if ra5 = (0 : Int32) then some ((-1 : Int32), ga6) else gdd (ixo a1 6) ((if (rdI ga6 58 a1.toNatClampNeg) = (0 : Int32) then some ((-11 : Int32), ga6) else gdd (ixo a3 6) ((if (rdI ga6 58 a3.toNatClampNeg) = (0 : Int32) then some ((-11 : Int32), ga6) else gdd (ixo a1 6) ((if (rdI ga6 58 a1.toNatClampNeg) = (1 : Int32) then some ((-12 : Int32), ga6) else gdd (ixo a3 6) ((if (rdI ga6 58 a3.toNatClampNeg) = (1 : Int32) then some ((-12 : Int32), ga6) else gdd (ixo a1 6) (gdd (ixo a3 6) ((if (rdI ga6 60 a1.toNatClampNeg) = (rdI ga6 60 a3.toNatClampNeg) then (if a5 < (0 : Int32) then some ((-13 : Int32), ga6) else (if a2 < (0 : Int32) then some ((-13 : Int32), ga6) else (if a4 < (0 : Int32) then some ((-13 : Int32), ga6) else gdd (ixo a1 6) ((if ((rdI ga6 61 a1.toNatClampNeg) - a5) < a2 then some ((-13 : Int32), ga6) else gdd (ixo a3 6) ((if a4 ≤ ((rdI ga6 61 a3.toNatClampNeg) - a5) then (if a1 = a3 then (if a4 ≤ a2 then m_X10_shift_140 fuL a1 a2 a3 a4 a5 (0 : Int32) (0 : Int32) ga6 else m_X10_shift_140 fuL a1 a2 a3 a4 a5 (1 : Int32) (0 : Int32) ga6) else m_X10_shift_140 fuL a1 a2 a3 a4 a5 (0 : Int32) (0 : Int32) ga6) else some ((-13 : Int32), ga6)))))))) else some ((-12 : Int32), ga6))))))))))))))))
set_option maxHeartbeats 2000000 in
theorem c_X10_shift {r2 : Int32} {g g2 : Mm} {a1 : Int32} {a2 : Int32} {a3 : Int32} {a4 : Int32} {a5 : Int32} (h : m_X10_shift a1 a2 a3 a4 a5 g = some (r2, g2)) : gx_M 3 yX10_shift cX10_shift 9 (some .int) (fun al => [.ref (al (40)), .int (a1), .int (a2), .int (a3), .int (a4), .int (a5)]) g (some (.int r2)) g2 := by
  have hd : 3 ≤ 3 := Nat.le_refl _
  refine gx_M.of (by decide +kernel) (fun _ => Nat.le_of_ble_eq_true rfl) ?_
  intro p l e R s m args below meth c D al cI cJ A X
  refine gx_eq (pc' := 0) (ls' := [(0, .ref (al (40))), (1, .int (a1)), (2, .int (a2)), (3, .int (a3)), (4, .int (a4)), (5, .int (a5))]) (st' := []) (g' := g) ⟨rfl, rfl, rfl, rfl⟩ ?_
  unfold m_X10_shift at h
  refine gx_iload_n X 1 rfl dX10_shift_0 ?_
  obtain ⟨ra1, ga2, ca3, h⟩ := bdd_eq h
  refine gx_callSi X (c_X10_isShelf ca3) lc_X10_isShelf li_X10_isShelf lm_X10_367 rfl rfl (Nat.le_trans (by decide) hd) rfl (Nat.le_of_ble_eq_true rfl) dX10_shift_1 ?_
  refine gx_if_eq X 14 dX10_shift_4 (by decide) (fun q4 => ?_) (fun q4 => ?_)
  · replace h := (if_pos q4).symm.trans h
    refine gx_iconst X (v := (-1 : Int32)) dX10_shift_14 (by decide) ?_
    obtain ⟨rfl, rfl⟩ := ret_eq h
    exact gx_iret X rfl dX10_shift_15
  · replace h := (if_neg q4).symm.trans h
    refine gx_iload_n X 3 rfl dX10_shift_7 ?_
    obtain ⟨ra5, ga6, ca7, h⟩ := bdd_eq h
    refine gx_callSi X (c_X10_isShelf ca7) lc_X10_isShelf li_X10_isShelf lm_X10_367 rfl rfl (Nat.le_trans (by decide) hd) rfl (Nat.le_of_ble_eq_true rfl) dX10_shift_8 ?_
    refine gx_if_ne X 16 dX10_shift_11 (by decide) (fun q8 => ?_) (fun q8 => ?_)
    · replace h := (if_neg q8).symm.trans h
      refine gx_aload_n X 0 rfl dX10_shift_16 ?_
      refine gx_getf X (40) lf_X10_70 (by decide) (cl_40 _ _) (v := .ref (al (58))) rfl dX10_shift_17 ?_
      refine gx_iload_n X 1 rfl dX10_shift_20 ?_
      obtain ⟨q9, h⟩ := gdd_eq h
      refine gx_iald X (58) 6 (by decide) (cl_58 _ _) q9 dX10_shift_21 ?_
      refine gx_if_eq X 34 dX10_shift_22 (by decide) (fun q10 => ?_) (fun q10 => ?_)
      · replace h := (if_pos q10).symm.trans h
        refine gx_bipush X (v := (-11 : Int32)) dX10_shift_34 (by decide) ?_
        obtain ⟨rfl, rfl⟩ := ret_eq h
        exact gx_iret X rfl dX10_shift_36
      · replace h := (if_neg q10).symm.trans h
        refine gx_aload_n X 0 rfl dX10_shift_25 ?_
        refine gx_getf X (40) lf_X10_70 (by decide) (cl_40 _ _) (v := .ref (al (58))) rfl dX10_shift_26 ?_
        refine gx_iload_n X 3 rfl dX10_shift_29 ?_
        obtain ⟨q11, h⟩ := gdd_eq h
        refine gx_iald X (58) 6 (by decide) (cl_58 _ _) q11 dX10_shift_30 ?_
        refine gx_if_ne X 37 dX10_shift_31 (by decide) (fun q12 => ?_) (fun q12 => ?_)
        · replace h := (if_neg q12).symm.trans h
          refine gx_aload_n X 0 rfl dX10_shift_37 ?_
          refine gx_getf X (40) lf_X10_70 (by decide) (cl_40 _ _) (v := .ref (al (58))) rfl dX10_shift_38 ?_
          refine gx_iload_n X 1 rfl dX10_shift_41 ?_
          obtain ⟨q13, h⟩ := gdd_eq h
          refine gx_iald X (58) 6 (by decide) (cl_58 _ _) q13 dX10_shift_42 ?_
          refine gx_iconst X (v := (1 : Int32)) dX10_shift_43 (by decide) ?_
          refine gx_icmp_eq X 72 dX10_shift_44 (by decide) (fun q14 => ?_) (fun q14 => ?_)
          · replace h := (if_pos q14).symm.trans h
            refine gx_bipush X (v := (-12 : Int32)) dX10_shift_72 (by decide) ?_
            obtain ⟨rfl, rfl⟩ := ret_eq h
            exact gx_iret X rfl dX10_shift_74
          · replace h := (if_neg q14).symm.trans h
            refine gx_aload_n X 0 rfl dX10_shift_47 ?_
            refine gx_getf X (40) lf_X10_70 (by decide) (cl_40 _ _) (v := .ref (al (58))) rfl dX10_shift_48 ?_
            refine gx_iload_n X 3 rfl dX10_shift_51 ?_
            obtain ⟨q15, h⟩ := gdd_eq h
            refine gx_iald X (58) 6 (by decide) (cl_58 _ _) q15 dX10_shift_52 ?_
            refine gx_iconst X (v := (1 : Int32)) dX10_shift_53 (by decide) ?_
            refine gx_icmp_eq X 72 dX10_shift_54 (by decide) (fun q16 => ?_) (fun q16 => ?_)
            · replace h := (if_pos q16).symm.trans h
              refine gx_bipush X (v := (-12 : Int32)) dX10_shift_72 (by decide) ?_
              obtain ⟨rfl, rfl⟩ := ret_eq h
              exact gx_iret X rfl dX10_shift_74
            · replace h := (if_neg q16).symm.trans h
              refine gx_aload_n X 0 rfl dX10_shift_57 ?_
              refine gx_getf X (40) lf_X10_76 (by decide) (cl_40 _ _) (v := .ref (al (60))) rfl dX10_shift_58 ?_
              refine gx_iload_n X 1 rfl dX10_shift_61 ?_
              obtain ⟨q17, h⟩ := gdd_eq h
              refine gx_iald X (60) 6 (by decide) (cl_60 _ _) q17 dX10_shift_62 ?_
              refine gx_aload_n X 0 rfl dX10_shift_63 ?_
              refine gx_getf X (40) lf_X10_76 (by decide) (cl_40 _ _) (v := .ref (al (60))) rfl dX10_shift_64 ?_
              refine gx_iload_n X 3 rfl dX10_shift_67 ?_
              obtain ⟨q18, h⟩ := gdd_eq h
              refine gx_iald X (60) 6 (by decide) (cl_60 _ _) q18 dX10_shift_68 ?_
              refine gx_icmp_eq X 75 dX10_shift_69 (by decide) (fun q19 => ?_) (fun q19 => ?_)
              · replace h := (if_pos q19).symm.trans h
                refine gx_iload X 5 rfl dX10_shift_75 ?_
                refine gx_if_lt X 116 dX10_shift_77 (by decide) (fun q20 => ?_) (fun q20 => ?_)
                · replace h := (if_pos q20).symm.trans h
                  refine gx_bipush X (v := (-13 : Int32)) dX10_shift_116 (by decide) ?_
                  obtain ⟨rfl, rfl⟩ := ret_eq h
                  exact gx_iret X rfl dX10_shift_118
                · replace h := (if_neg q20).symm.trans h
                  refine gx_iload_n X 2 rfl dX10_shift_80 ?_
                  refine gx_if_lt X 116 dX10_shift_81 (by decide) (fun q21 => ?_) (fun q21 => ?_)
                  · replace h := (if_pos q21).symm.trans h
                    refine gx_bipush X (v := (-13 : Int32)) dX10_shift_116 (by decide) ?_
                    obtain ⟨rfl, rfl⟩ := ret_eq h
                    exact gx_iret X rfl dX10_shift_118
                  · replace h := (if_neg q21).symm.trans h
                    refine gx_iload X 4 rfl dX10_shift_84 ?_
                    refine gx_if_lt X 116 dX10_shift_86 (by decide) (fun q22 => ?_) (fun q22 => ?_)
                    · replace h := (if_pos q22).symm.trans h
                      refine gx_bipush X (v := (-13 : Int32)) dX10_shift_116 (by decide) ?_
                      obtain ⟨rfl, rfl⟩ := ret_eq h
                      exact gx_iret X rfl dX10_shift_118
                    · replace h := (if_neg q22).symm.trans h
                      refine gx_iload_n X 2 rfl dX10_shift_89 ?_
                      refine gx_aload_n X 0 rfl dX10_shift_90 ?_
                      refine gx_getf X (40) lf_X10_79 (by decide) (cl_40 _ _) (v := .ref (al (61))) rfl dX10_shift_91 ?_
                      refine gx_iload_n X 1 rfl dX10_shift_94 ?_
                      obtain ⟨q23, h⟩ := gdd_eq h
                      refine gx_iald X (61) 6 (by decide) (cl_61 _ _) q23 dX10_shift_95 ?_
                      refine gx_iload X 5 rfl dX10_shift_96 ?_
                      refine gx_isub X dX10_shift_98 ?_
                      refine gx_icmp_gt X 116 dX10_shift_99 (by decide) (fun q24 => ?_) (fun q24 => ?_)
                      · replace h := (if_pos q24).symm.trans h
                        refine gx_bipush X (v := (-13 : Int32)) dX10_shift_116 (by decide) ?_
                        obtain ⟨rfl, rfl⟩ := ret_eq h
                        exact gx_iret X rfl dX10_shift_118
                      · replace h := (if_neg q24).symm.trans h
                        refine gx_iload X 4 rfl dX10_shift_102 ?_
                        refine gx_aload_n X 0 rfl dX10_shift_104 ?_
                        refine gx_getf X (40) lf_X10_79 (by decide) (cl_40 _ _) (v := .ref (al (61))) rfl dX10_shift_105 ?_
                        refine gx_iload_n X 3 rfl dX10_shift_108 ?_
                        obtain ⟨q25, h⟩ := gdd_eq h
                        refine gx_iald X (61) 6 (by decide) (cl_61 _ _) q25 dX10_shift_109 ?_
                        refine gx_iload X 5 rfl dX10_shift_110 ?_
                        refine gx_isub X dX10_shift_112 ?_
                        refine gx_icmp_le X 119 dX10_shift_113 (by decide) (fun q26 => ?_) (fun q26 => ?_)
                        · replace h := (if_pos q26).symm.trans h
                          refine gx_iload_n X 1 rfl dX10_shift_119 ?_
                          refine gx_iload_n X 3 rfl dX10_shift_120 ?_
                          refine gx_icmp_ne X 134 dX10_shift_121 (by decide) (fun q27 => ?_) (fun q27 => ?_)
                          · replace h := (if_neg q27).symm.trans h
                            refine gx_iconst X (v := (0 : Int32)) dX10_shift_134 (by decide) ?_
                            refine gx_istore X [(6, .int ((0 : Int32))), (0, .ref (al (40))), (1, .int (a1)), (2, .int (a2)), (3, .int (a3)), (4, .int (a4)), (5, .int (a5))] dX10_shift_135 (by decide) rfl ?_
                            refine gx_iconst X (v := (0 : Int32)) dX10_shift_137 (by decide) ?_
                            refine gx_istore X [(7, .int ((0 : Int32))), (6, .int ((0 : Int32))), (0, .ref (al (40))), (1, .int (a1)), (2, .int (a2)), (3, .int (a3)), (4, .int (a4)), (5, .int (a5))] dX10_shift_138 (by decide) rfl ?_
                            exact gx_sub [2, 3, 4, 5, 6, 7, 1, 0] rfl (t_X10_shift_140 X hd fuL a1 a2 a3 a4 a5 (0 : Int32) (0 : Int32) ga6 h)
                          · replace h := (if_pos q27).symm.trans h
                            refine gx_iload_n X 2 rfl dX10_shift_124 ?_
                            refine gx_iload X 4 rfl dX10_shift_125 ?_
                            refine gx_icmp_ge X 134 dX10_shift_127 (by decide) (fun q28 => ?_) (fun q28 => ?_)
                            · replace h := (if_pos q28).symm.trans h
                              refine gx_iconst X (v := (0 : Int32)) dX10_shift_134 (by decide) ?_
                              refine gx_istore X [(6, .int ((0 : Int32))), (0, .ref (al (40))), (1, .int (a1)), (2, .int (a2)), (3, .int (a3)), (4, .int (a4)), (5, .int (a5))] dX10_shift_135 (by decide) rfl ?_
                              refine gx_iconst X (v := (0 : Int32)) dX10_shift_137 (by decide) ?_
                              refine gx_istore X [(7, .int ((0 : Int32))), (6, .int ((0 : Int32))), (0, .ref (al (40))), (1, .int (a1)), (2, .int (a2)), (3, .int (a3)), (4, .int (a4)), (5, .int (a5))] dX10_shift_138 (by decide) rfl ?_
                              exact gx_sub [2, 3, 4, 5, 6, 7, 1, 0] rfl (t_X10_shift_140 X hd fuL a1 a2 a3 a4 a5 (0 : Int32) (0 : Int32) ga6 h)
                            · replace h := (if_neg q28).symm.trans h
                              refine gx_iconst X (v := (1 : Int32)) dX10_shift_130 (by decide) ?_
                              refine gx_goto X 135 dX10_shift_131 (by decide) ?_
                              refine gx_istore X [(6, .int ((1 : Int32))), (0, .ref (al (40))), (1, .int (a1)), (2, .int (a2)), (3, .int (a3)), (4, .int (a4)), (5, .int (a5))] dX10_shift_135 (by decide) rfl ?_
                              refine gx_iconst X (v := (0 : Int32)) dX10_shift_137 (by decide) ?_
                              refine gx_istore X [(7, .int ((0 : Int32))), (6, .int ((1 : Int32))), (0, .ref (al (40))), (1, .int (a1)), (2, .int (a2)), (3, .int (a3)), (4, .int (a4)), (5, .int (a5))] dX10_shift_138 (by decide) rfl ?_
                              exact gx_sub [2, 3, 4, 5, 6, 7, 1, 0] rfl (t_X10_shift_140 X hd fuL a1 a2 a3 a4 a5 (1 : Int32) (0 : Int32) ga6 h)
                        · replace h := (if_neg q26).symm.trans h
                          refine gx_bipush X (v := (-13 : Int32)) dX10_shift_116 (by decide) ?_
                          obtain ⟨rfl, rfl⟩ := ret_eq h
                          exact gx_iret X rfl dX10_shift_118
              · replace h := (if_neg q19).symm.trans h
                refine gx_bipush X (v := (-12 : Int32)) dX10_shift_72 (by decide) ?_
                obtain ⟨rfl, rfl⟩ := ret_eq h
                exact gx_iret X rfl dX10_shift_74
        · replace h := (if_pos q12).symm.trans h
          refine gx_bipush X (v := (-11 : Int32)) dX10_shift_34 (by decide) ?_
          obtain ⟨rfl, rfl⟩ := ret_eq h
          exact gx_iret X rfl dX10_shift_36
    · replace h := (if_pos q8).symm.trans h
      refine gx_iconst X (v := (-1 : Int32)) dX10_shift_14 (by decide) ?_
      obtain ⟨rfl, rfl⟩ := ret_eq h
      exact gx_iret X rfl dX10_shift_15
end DC
