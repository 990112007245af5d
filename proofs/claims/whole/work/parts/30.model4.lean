section DC
variable {p : Program} {l : Launch} {e : Env} {R : Room} {s : State} {m : MethodId} {args : Array Value} {below : List Frame} {meth : Method} {c : Code} {D : va_G} {al : Nat → Nat} {cI cJ : ClassId} {A : Nat → Prop} {d : Nat}
theorem dX10_strike_0 : decode cX10_strike 0 = .ok (.aload_n 0, 1) := by decide +kernel
theorem dX10_strike_1 : decode cX10_strike 1 = .ok (.iload_n 1, 1) := by decide +kernel
theorem dX10_strike_2 : decode cX10_strike 2 = .ok (.invokevirtual 124, 3) := by decide +kernel
theorem dX10_strike_5 : decode cX10_strike 5 = .ok (.ifCond .eq 22, 3) := by decide +kernel
theorem dX10_strike_8 : decode cX10_strike 8 = .ok (.iload_n 2, 1) := by decide +kernel
theorem dX10_strike_9 : decode cX10_strike 9 = .ok (.i2l, 1) := by decide +kernel
theorem dX10_strike_10 : decode cX10_strike 10 = .ok (.lconst 0, 1) := by decide +kernel
theorem dX10_strike_11 : decode cX10_strike 11 = .ok (.aload_n 0, 1) := by decide +kernel
theorem dX10_strike_12 : decode cX10_strike 12 = .ok (.getfield 9, 3) := by decide +kernel
theorem dX10_strike_15 : decode cX10_strike 15 = .ok (.iload_n 1, 1) := by decide +kernel
theorem dX10_strike_16 : decode cX10_strike 16 = .ok (.bipush 10, 2) := by decide +kernel
theorem dX10_strike_18 : decode cX10_strike 18 = .ok (.irem, 1) := by decide +kernel
theorem dX10_strike_19 : decode cX10_strike 19 = .ok (.iaload, 1) := by decide +kernel
theorem dX10_strike_20 : decode cX10_strike 20 = .ok (.i2l, 1) := by decide +kernel
theorem dX10_strike_21 : decode cX10_strike 21 = .ok (.invokestatic 92, 3) := by decide +kernel
theorem dX10_strike_24 : decode cX10_strike 24 = .ok (.ifCond .ne 5, 3) := by decide +kernel
theorem dX10_strike_27 : decode cX10_strike 27 = .ok (.iconst (-1), 1) := by decide +kernel
theorem dX10_strike_28 : decode cX10_strike 28 = .ok (.ireturn, 1) := by decide +kernel
theorem dX10_strike_29 : decode cX10_strike 29 = .ok (.bipush 6, 2) := by decide +kernel
theorem dX10_strike_31 : decode cX10_strike 31 = .ok (.iload_n 1, 1) := by decide +kernel
theorem dX10_strike_32 : decode cX10_strike 32 = .ok (.bipush 10, 2) := by decide +kernel
theorem dX10_strike_34 : decode cX10_strike 34 = .ok (.idiv, 1) := by decide +kernel
theorem dX10_strike_35 : decode cX10_strike 35 = .ok (.imul, 1) := by decide +kernel
theorem dX10_strike_36 : decode cX10_strike 36 = .ok (.iload_n 1, 1) := by decide +kernel
theorem dX10_strike_37 : decode cX10_strike 37 = .ok (.bipush 10, 2) := by decide +kernel
theorem dX10_strike_39 : decode cX10_strike 39 = .ok (.irem, 1) := by decide +kernel
theorem dX10_strike_40 : decode cX10_strike 40 = .ok (.iadd, 1) := by decide +kernel
theorem dX10_strike_41 : decode cX10_strike 41 = .ok (.istore_n 3, 1) := by decide +kernel
theorem dX10_strike_42 : decode cX10_strike 42 = .ok (.aload_n 0, 1) := by decide +kernel
theorem dX10_strike_43 : decode cX10_strike 43 = .ok (.getfield 28, 3) := by decide +kernel
theorem dX10_strike_46 : decode cX10_strike 46 = .ok (.iload_n 3, 1) := by decide +kernel
theorem dX10_strike_47 : decode cX10_strike 47 = .ok (.iaload, 1) := by decide +kernel
theorem dX10_strike_48 : decode cX10_strike 48 = .ok (.istore 4, 2) := by decide +kernel
theorem dX10_strike_50 : decode cX10_strike 50 = .ok (.aload_n 0, 1) := by decide +kernel
theorem dX10_strike_51 : decode cX10_strike 51 = .ok (.getfield 28, 3) := by decide +kernel
theorem dX10_strike_54 : decode cX10_strike 54 = .ok (.iload_n 3, 1) := by decide +kernel
theorem dX10_strike_55 : decode cX10_strike 55 = .ok (.iload_n 2, 1) := by decide +kernel
theorem dX10_strike_56 : decode cX10_strike 56 = .ok (.iastore, 1) := by decide +kernel
theorem dX10_strike_57 : decode cX10_strike 57 = .ok (.iload 4, 2) := by decide +kernel
theorem dX10_strike_59 : decode cX10_strike 59 = .ok (.iload_n 2, 1) := by decide +kernel
theorem dX10_strike_60 : decode cX10_strike 60 = .ok (.if_icmp .eq 11, 3) := by decide +kernel
theorem dX10_strike_63 : decode cX10_strike 63 = .ok (.aload_n 0, 1) := by decide +kernel
theorem dX10_strike_64 : decode cX10_strike 64 = .ok (.iload_n 1, 1) := by decide +kernel
theorem dX10_strike_65 : decode cX10_strike 65 = .ok (.iload 4, 2) := by decide +kernel
theorem dX10_strike_67 : decode cX10_strike 67 = .ok (.iload_n 2, 1) := by decide +kernel
theorem dX10_strike_68 : decode cX10_strike 68 = .ok (.invokevirtual 127, 3) := by decide +kernel
theorem dX10_strike_71 : decode cX10_strike 71 = .ok (.iload 4, 2) := by decide +kernel
theorem dX10_strike_73 : decode cX10_strike 73 = .ok (.ireturn, 1) := by decide +kernel
def m_X10_strike (a1 : Int32) (a2 : Int32) (g : Mm) : Option (Int32 × Mm) := bdd (m_X10_isCell a1 g) (fun ra1 ga2 => (if ra1 = (0 : Int32) then some ((-1 : Int32), ga2) else gdd (ixo (rmI a1 (10 : Int32)) 6) (bdd (m_X10_in (a2.toInt64) (0 : Int64) ((rdI ga2 41 (rmI a1 (10 : Int32)).toNatClampNeg).toInt64) ga2) (fun ra6 ga7 => (if ra6 = (0 : Int32) then some ((-1 : Int32), ga7) else lti (((6 : Int32) * (a1 / (10 : Int32))) + (rmI a1 (10 : Int32))) (fun v10 => gdd (ixo v10 144) (gdd (ixo v10 144) ((if (rdI ga7 44 v10.toNatClampNeg) = a2 then some ((rdI ga7 44 v10.toNatClampNeg), (wrI ga7 44 v10.toNatClampNeg a2)) else bdd (m_X10_keeps a1 (rdI ga7 44 v10.toNatClampNeg) a2 (wrI ga7 44 v10.toNatClampNeg a2)) (fun ra14 ga15 => some ((rdI ga7 44 v10.toNatClampNeg), ga15)))))))))))
set_option maxHeartbeats 2000000 in
theorem c_X10_strike {r2 : Int32} {g g2 : Mm} {a1 : Int32} {a2 : Int32} (h : m_X10_strike a1 a2 g = some (r2, g2)) : gx_M 4 yX10_strike cX10_strike 5 (some .int) (fun al => [.ref (al (40)), .int (a1), .int (a2)]) g (some (.int r2)) g2 := by
  have hd : 4 ≤ 4 := Nat.le_refl _
  refine gx_M.of (by decide +kernel) (fun _ => Nat.le_of_ble_eq_true rfl) ?_
  intro p l e R s m args below meth c D al cI cJ A X
  refine gx_eq (pc' := 0) (ls' := [(0, .ref (al (40))), (1, .int (a1)), (2, .int (a2))]) (st' := []) (g' := g) ⟨rfl, rfl, rfl, rfl⟩ ?_
  unfold m_X10_strike at h
  refine gx_aload_n X 0 rfl dX10_strike_0 ?_
  refine gx_iload_n X 1 rfl dX10_strike_1 ?_
  obtain ⟨ra1, ga2, ca3, h⟩ := bdd_eq h
  refine gx_callVi X (40) (c_X10_isCell ca3) lc_X10_isCell li_X10_isCell lm_X10_124 (by decide) (cl_40 _ _) rfl rfl rfl (Nat.le_trans (by decide) hd) rfl (Nat.le_of_ble_eq_true rfl) dX10_strike_2 ?_
  refine gx_if_eq X 27 dX10_strike_5 (by decide) (fun q4 => ?_) (fun q4 => ?_)
  · replace h := (if_pos q4).symm.trans h
    refine gx_iconst X (v := (-1 : Int32)) dX10_strike_27 (by decide) ?_
    obtain ⟨rfl, rfl⟩ := ret_eq h
    exact gx_iret X rfl dX10_strike_28
  · replace h := (if_neg q4).symm.trans h
    refine gx_iload_n X 2 rfl dX10_strike_8 ?_
    refine gx_i2l X dX10_strike_9 ?_
    refine gx_lconst X (v := (0 : Int64)) dX10_strike_10 (by decide) ?_
    refine gx_aload_n X 0 rfl dX10_strike_11 ?_
    refine gx_getf X (40) lf_X10_9 (by decide) (cl_40 _ _) (v := .ref (al (41))) rfl dX10_strike_12 ?_
    refine gx_iload_n X 1 rfl dX10_strike_15 ?_
    refine gx_bipush X (v := (10 : Int32)) dX10_strike_16 (by decide) ?_
    refine gx_irem X dX10_strike_18 (by decide) ?_
    obtain ⟨q5, h⟩ := gdd_eq h
    refine gx_iald X (41) 6 (by decide) (cl_41 _ _) q5 dX10_strike_19 ?_
    refine gx_i2l X dX10_strike_20 ?_
    obtain ⟨ra6, ga7, ca8, h⟩ := bdd_eq h
    refine gx_callSi X (c_X10_in ca8) lc_X10_in li_X10_in lm_X10_92 rfl rfl (Nat.le_trans (by decide) hd) rfl (Nat.le_of_ble_eq_true rfl) dX10_strike_21 ?_
    refine gx_if_ne X 29 dX10_strike_24 (by decide) (fun q9 => ?_) (fun q9 => ?_)
    · replace h := (if_neg q9).symm.trans h
      refine gx_bipush X (v := (6 : Int32)) dX10_strike_29 (by decide) ?_
      refine gx_iload_n X 1 rfl dX10_strike_31 ?_
      refine gx_bipush X (v := (10 : Int32)) dX10_strike_32 (by decide) ?_
      refine gx_idiv X dX10_strike_34 (by decide) ?_
      refine gx_imul X dX10_strike_35 ?_
      refine gx_iload_n X 1 rfl dX10_strike_36 ?_
      refine gx_bipush X (v := (10 : Int32)) dX10_strike_37 (by decide) ?_
      refine gx_irem X dX10_strike_39 (by decide) ?_
      refine gx_iadd X dX10_strike_40 ?_
      obtain ⟨v10, ev10, h⟩ := lti_eq h
      refine gx_topi ev10 ?_
      refine gx_istore_n X [(3, .int (v10)), (0, .ref (al (40))), (1, .int (a1)), (2, .int (a2))] dX10_strike_41 (by decide) rfl ?_
      refine gx_aload_n X 1 rfl dX10_strike_42 ?_
      refine gx_getf X (40) lf_X10_28 (by decide) (cl_40 _ _) (v := .ref (al (44))) rfl dX10_strike_43 ?_
      refine gx_iload_n X 0 rfl dX10_strike_46 ?_
      obtain ⟨q11, h⟩ := gdd_eq h
      refine gx_iald X (44) 144 (by decide) (cl_44 _ _) q11 dX10_strike_47 ?_
      refine gx_istore X [(4, .int ((rdI ga7 44 v10.toNatClampNeg))), (3, .int (v10)), (0, .ref (al (40))), (1, .int (a1)), (2, .int (a2))] dX10_strike_48 (by decide) rfl ?_
      refine gx_aload_n X 2 rfl dX10_strike_50 ?_
      refine gx_getf X (40) lf_X10_28 (by decide) (cl_40 _ _) (v := .ref (al (44))) rfl dX10_strike_51 ?_
      refine gx_iload_n X 1 rfl dX10_strike_54 ?_
      refine gx_iload_n X 4 rfl dX10_strike_55 ?_
      obtain ⟨q12, h⟩ := gdd_eq h
      refine gx_iast X (44) 144 (by decide) (fun r => cl_44 r _) q12 dX10_strike_56 ?_
      refine gx_iload X 0 rfl dX10_strike_57 ?_
      refine gx_iload_n X 4 rfl dX10_strike_59 ?_
      refine gx_icmp_eq X 71 dX10_strike_60 (by decide) (fun q13 => ?_) (fun q13 => ?_)
      · replace h := (if_pos q13).symm.trans h
        refine gx_iload X 0 rfl dX10_strike_71 ?_
        obtain ⟨rfl, rfl⟩ := ret_eq h
        exact gx_iret X rfl dX10_strike_73
      · replace h := (if_neg q13).symm.trans h
        refine gx_aload_n X 2 rfl dX10_strike_63 ?_
        refine gx_iload_n X 3 rfl dX10_strike_64 ?_
        refine gx_iload X 0 rfl dX10_strike_65 ?_
        refine gx_iload_n X 4 rfl dX10_strike_67 ?_
        obtain ⟨ra14, ga15, ca16, h⟩ := bdd_eq h
        refine gx_callVv X (40) (c_X10_keeps ca16) lc_X10_keeps li_X10_keeps lm_X10_127 (by decide) (cl_40 _ _) rfl rfl rfl (Nat.le_trans (by decide) hd) rfl (Nat.le_of_ble_eq_true rfl) dX10_strike_68 ?_
        refine gx_iload X 0 rfl dX10_strike_71 ?_
        obtain ⟨rfl, rfl⟩ := ret_eq h
        exact gx_iret X rfl dX10_strike_73
    · replace h := (if_pos q9).symm.trans h
      refine gx_iconst X (v := (-1 : Int32)) dX10_strike_27 (by decide) ?_
      obtain ⟨rfl, rfl⟩ := ret_eq h
      exact gx_iret X rfl dX10_strike_28
theorem dX10_strikes_0 : decode cX10_strikes 0 = .ok (.iload_n 1, 1) := by decide +kernel
theorem dX10_strikes_1 : decode cX10_strikes 1 = .ok (.invokestatic 367, 3) := by decide +kernel
theorem dX10_strikes_4 : decode cX10_strikes 4 = .ok (.ifCond .eq 26, 3) := by decide +kernel
theorem dX10_strikes_7 : decode cX10_strikes 7 = .ok (.aload_n 0, 1) := by decide +kernel
theorem dX10_strikes_8 : decode cX10_strikes 8 = .ok (.iload_n 3, 1) := by decide +kernel
theorem dX10_strikes_9 : decode cX10_strikes 9 = .ok (.invokevirtual 100, 3) := by decide +kernel
theorem dX10_strikes_12 : decode cX10_strikes 12 = .ok (.ifCond .eq 18, 3) := by decide +kernel
theorem dX10_strikes_15 : decode cX10_strikes 15 = .ok (.iload 4, 2) := by decide +kernel
theorem dX10_strikes_17 : decode cX10_strikes 17 = .ok (.i2l, 1) := by decide +kernel
theorem dX10_strikes_18 : decode cX10_strikes 18 = .ok (.lconst 1, 1) := by decide +kernel
theorem dX10_strikes_19 : decode cX10_strikes 19 = .ok (.aload_n 0, 1) := by decide +kernel
theorem dX10_strikes_20 : decode cX10_strikes 20 = .ok (.getfield 21, 3) := by decide +kernel
theorem dX10_strikes_23 : decode cX10_strikes 23 = .ok (.i2l, 1) := by decide +kernel
theorem dX10_strikes_24 : decode cX10_strikes 24 = .ok (.invokestatic 92, 3) := by decide +kernel
theorem dX10_strikes_27 : decode cX10_strikes 27 = .ok (.ifCond .ne 5, 3) := by decide +kernel
theorem dX10_strikes_30 : decode cX10_strikes 30 = .ok (.iconst (-1), 1) := by decide +kernel
theorem dX10_strikes_31 : decode cX10_strikes 31 = .ok (.ireturn, 1) := by decide +kernel
theorem dX10_strikes_32 : decode cX10_strikes 32 = .ok (.aload_n 0, 1) := by decide +kernel
theorem dX10_strikes_33 : decode cX10_strikes 33 = .ok (.getfield 70, 3) := by decide +kernel
theorem dX10_strikes_36 : decode cX10_strikes 36 = .ok (.iload_n 1, 1) := by decide +kernel
theorem dX10_strikes_37 : decode cX10_strikes 37 = .ok (.iaload, 1) := by decide +kernel
theorem dX10_strikes_38 : decode cX10_strikes 38 = .ok (.iconst 1, 1) := by decide +kernel
theorem dX10_strikes_39 : decode cX10_strikes 39 = .ok (.if_icmp .eq 22, 3) := by decide +kernel
theorem dX10_strikes_42 : decode cX10_strikes 42 = .ok (.aload_n 0, 1) := by decide +kernel
theorem dX10_strikes_43 : decode cX10_strikes 43 = .ok (.getfield 70, 3) := by decide +kernel
theorem dX10_strikes_46 : decode cX10_strikes 46 = .ok (.iload_n 1, 1) := by decide +kernel
theorem dX10_strikes_47 : decode cX10_strikes 47 = .ok (.iaload, 1) := by decide +kernel
theorem dX10_strikes_48 : decode cX10_strikes 48 = .ok (.iconst 2, 1) := by decide +kernel
theorem dX10_strikes_49 : decode cX10_strikes 49 = .ok (.if_icmp .ne 15, 3) := by decide +kernel
theorem dX10_strikes_52 : decode cX10_strikes 52 = .ok (.aload_n 0, 1) := by decide +kernel
theorem dX10_strikes_53 : decode cX10_strikes 53 = .ok (.getfield 76, 3) := by decide +kernel
theorem dX10_strikes_56 : decode cX10_strikes 56 = .ok (.iload_n 1, 1) := by decide +kernel
theorem dX10_strikes_57 : decode cX10_strikes 57 = .ok (.iaload, 1) := by decide +kernel
theorem dX10_strikes_58 : decode cX10_strikes 58 = .ok (.ifCond .eq 6, 3) := by decide +kernel
theorem dX10_strikes_61 : decode cX10_strikes 61 = .ok (.bipush (-12), 2) := by decide +kernel
theorem dX10_strikes_63 : decode cX10_strikes 63 = .ok (.ireturn, 1) := by decide +kernel
theorem dX10_strikes_64 : decode cX10_strikes 64 = .ok (.iconst 0, 1) := by decide +kernel
theorem dX10_strikes_65 : decode cX10_strikes 65 = .ok (.istore 5, 2) := by decide +kernel
theorem dX10_strikes_67 : decode cX10_strikes 67 = .ok (.aload_n 0, 1) := by decide +kernel
theorem dX10_strikes_68 : decode cX10_strikes 68 = .ok (.getfield 70, 3) := by decide +kernel
theorem dX10_strikes_71 : decode cX10_strikes 71 = .ok (.iload_n 1, 1) := by decide +kernel
theorem dX10_strikes_72 : decode cX10_strikes 72 = .ok (.iaload, 1) := by decide +kernel
theorem dX10_strikes_73 : decode cX10_strikes 73 = .ok (.iconst 2, 1) := by decide +kernel
theorem dX10_strikes_74 : decode cX10_strikes 74 = .ok (.if_icmp .ne 11, 3) := by decide +kernel
theorem dX10_strikes_77 : decode cX10_strikes 77 = .ok (.iload_n 2, 1) := by decide +kernel
theorem dX10_strikes_78 : decode cX10_strikes 78 = .ok (.ifCond .lt 7, 3) := by decide +kernel
theorem dX10_strikes_81 : decode cX10_strikes 81 = .ok (.iconst 1, 1) := by decide +kernel
theorem dX10_strikes_82 : decode cX10_strikes 82 = .ok (.goto 4, 3) := by decide +kernel
theorem dX10_strikes_85 : decode cX10_strikes 85 = .ok (.iconst 0, 1) := by decide +kernel
theorem dX10_strikes_86 : decode cX10_strikes 86 = .ok (.istore 6, 2) := by decide +kernel
theorem dX10_strikes_88 : decode cX10_strikes 88 = .ok (.iload 6, 2) := by decide +kernel
theorem dX10_strikes_90 : decode cX10_strikes 90 = .ok (.ifCond .eq 100, 3) := by decide +kernel
theorem dX10_strikes_93 : decode cX10_strikes 93 = .ok (.iload 5, 2) := by decide +kernel
theorem dX10_strikes_95 : decode cX10_strikes 95 = .ok (.iload 4, 2) := by decide +kernel
theorem dX10_strikes_97 : decode cX10_strikes 97 = .ok (.if_icmp .ge 93, 3) := by decide +kernel
theorem dX10_strikes_100 : decode cX10_strikes 100 = .ok (.iload_n 2, 1) := by decide +kernel
theorem dX10_strikes_101 : decode cX10_strikes 101 = .ok (.i2l, 1) := by decide +kernel
theorem dX10_strikes_102 : decode cX10_strikes 102 = .ok (.iload 5, 2) := by decide +kernel
theorem dX10_strikes_104 : decode cX10_strikes 104 = .ok (.i2l, 1) := by decide +kernel
theorem dX10_strikes_105 : decode cX10_strikes 105 = .ok (.ladd, 1) := by decide +kernel
theorem dX10_strikes_106 : decode cX10_strikes 106 = .ok (.aload_n 0, 1) := by decide +kernel
theorem dX10_strikes_107 : decode cX10_strikes 107 = .ok (.getfield 79, 3) := by decide +kernel
theorem dX10_strikes_110 : decode cX10_strikes 110 = .ok (.iload_n 1, 1) := by decide +kernel
theorem dX10_strikes_111 : decode cX10_strikes 111 = .ok (.iaload, 1) := by decide +kernel
theorem dX10_strikes_112 : decode cX10_strikes 112 = .ok (.i2l, 1) := by decide +kernel
theorem dX10_strikes_113 : decode cX10_strikes 113 = .ok (.lcmp, 1) := by decide +kernel
theorem dX10_strikes_114 : decode cX10_strikes 114 = .ok (.ifCond .ge 35, 3) := by decide +kernel
theorem dX10_strikes_117 : decode cX10_strikes 117 = .ok (.aload_n 0, 1) := by decide +kernel
theorem dX10_strikes_118 : decode cX10_strikes 118 = .ok (.getfield 82, 3) := by decide +kernel
theorem dX10_strikes_121 : decode cX10_strikes 121 = .ok (.bipush 60, 2) := by decide +kernel
theorem dX10_strikes_123 : decode cX10_strikes 123 = .ok (.iload_n 1, 1) := by decide +kernel
theorem dX10_strikes_124 : decode cX10_strikes 124 = .ok (.imul, 1) := by decide +kernel
theorem dX10_strikes_125 : decode cX10_strikes 125 = .ok (.iload_n 2, 1) := by decide +kernel
theorem dX10_strikes_126 : decode cX10_strikes 126 = .ok (.iadd, 1) := by decide +kernel
theorem dX10_strikes_127 : decode cX10_strikes 127 = .ok (.iload 5, 2) := by decide +kernel
theorem dX10_strikes_129 : decode cX10_strikes 129 = .ok (.iadd, 1) := by decide +kernel
theorem dX10_strikes_130 : decode cX10_strikes 130 = .ok (.laload, 1) := by decide +kernel
theorem dX10_strikes_131 : decode cX10_strikes 131 = .ok (.lconst 0, 1) := by decide +kernel
theorem dX10_strikes_132 : decode cX10_strikes 132 = .ok (.aload_n 0, 1) := by decide +kernel
theorem dX10_strikes_133 : decode cX10_strikes 133 = .ok (.getfield 9, 3) := by decide +kernel
theorem dX10_strikes_136 : decode cX10_strikes 136 = .ok (.iload_n 3, 1) := by decide +kernel
theorem dX10_strikes_137 : decode cX10_strikes 137 = .ok (.iaload, 1) := by decide +kernel
theorem dX10_strikes_138 : decode cX10_strikes 138 = .ok (.i2l, 1) := by decide +kernel
theorem dX10_strikes_139 : decode cX10_strikes 139 = .ok (.invokestatic 92, 3) := by decide +kernel
theorem dX10_strikes_142 : decode cX10_strikes 142 = .ok (.ifCond .eq 7, 3) := by decide +kernel
theorem dX10_strikes_145 : decode cX10_strikes 145 = .ok (.iconst 1, 1) := by decide +kernel
theorem dX10_strikes_146 : decode cX10_strikes 146 = .ok (.goto 4, 3) := by decide +kernel
theorem dX10_strikes_149 : decode cX10_strikes 149 = .ok (.iconst 0, 1) := by decide +kernel
theorem dX10_strikes_150 : decode cX10_strikes 150 = .ok (.istore 6, 2) := by decide +kernel
theorem dX10_strikes_152 : decode cX10_strikes 152 = .ok (.iload 6, 2) := by decide +kernel
theorem dX10_strikes_154 : decode cX10_strikes 154 = .ok (.ifCond .eq (-66), 3) := by decide +kernel
theorem dX10_strikes_157 : decode cX10_strikes 157 = .ok (.aload_n 0, 1) := by decide +kernel
theorem dX10_strikes_158 : decode cX10_strikes 158 = .ok (.getfield 28, 3) := by decide +kernel
theorem dX10_strikes_161 : decode cX10_strikes 161 = .ok (.bipush 6, 2) := by decide +kernel
theorem dX10_strikes_163 : decode cX10_strikes 163 = .ok (.iload 5, 2) := by decide +kernel
theorem dX10_strikes_165 : decode cX10_strikes 165 = .ok (.imul, 1) := by decide +kernel
theorem dX10_strikes_166 : decode cX10_strikes 166 = .ok (.iload_n 3, 1) := by decide +kernel
theorem dX10_strikes_167 : decode cX10_strikes 167 = .ok (.iadd, 1) := by decide +kernel
theorem dX10_strikes_168 : decode cX10_strikes 168 = .ok (.aload_n 0, 1) := by decide +kernel
theorem dX10_strikes_169 : decode cX10_strikes 169 = .ok (.getfield 82, 3) := by decide +kernel
theorem dX10_strikes_172 : decode cX10_strikes 172 = .ok (.bipush 60, 2) := by decide +kernel
theorem dX10_strikes_174 : decode cX10_strikes 174 = .ok (.iload_n 1, 1) := by decide +kernel
theorem dX10_strikes_175 : decode cX10_strikes 175 = .ok (.imul, 1) := by decide +kernel
theorem dX10_strikes_176 : decode cX10_strikes 176 = .ok (.iload_n 2, 1) := by decide +kernel
theorem dX10_strikes_177 : decode cX10_strikes 177 = .ok (.iadd, 1) := by decide +kernel
theorem dX10_strikes_178 : decode cX10_strikes 178 = .ok (.iload 5, 2) := by decide +kernel
theorem dX10_strikes_180 : decode cX10_strikes 180 = .ok (.iadd, 1) := by decide +kernel
theorem dX10_strikes_181 : decode cX10_strikes 181 = .ok (.laload, 1) := by decide +kernel
theorem dX10_strikes_182 : decode cX10_strikes 182 = .ok (.l2i, 1) := by decide +kernel
theorem dX10_strikes_183 : decode cX10_strikes 183 = .ok (.iastore, 1) := by decide +kernel
theorem dX10_strikes_184 : decode cX10_strikes 184 = .ok (.iinc 5 1, 3) := by decide +kernel
theorem dX10_strikes_187 : decode cX10_strikes 187 = .ok (.goto (-99), 3) := by decide +kernel
theorem dX10_strikes_190 : decode cX10_strikes 190 = .ok (.iload 5, 2) := by decide +kernel
theorem dX10_strikes_192 : decode cX10_strikes 192 = .ok (.ifCond .le 7, 3) := by decide +kernel
theorem dX10_strikes_195 : decode cX10_strikes 195 = .ok (.aload_n 0, 1) := by decide +kernel
theorem dX10_strikes_196 : decode cX10_strikes 196 = .ok (.invokevirtual 111, 3) := by decide +kernel
theorem dX10_strikes_199 : decode cX10_strikes 199 = .ok (.iload 5, 2) := by decide +kernel
theorem dX10_strikes_201 : decode cX10_strikes 201 = .ok (.ireturn, 1) := by decide +kernel
def m_X10_strikes_150 (K88 : Int32 → Int32 → Int32 → Int32 → Int32 → Int32 → Mm → Option (Int32 × Mm)) (x1 : Int32) (x2 : Int32) (x3 : Int32) (x4 : Int32) (x5 : Int32) (k0 : Int32) (g : Mm) : Option (Int32 × Mm) := (if k0 = (0 : Int32) then K88 x1 x2 x3 x4 x5 k0 g else gdd (ixo ((((60 : Int32) * x1) + x2) + x5) 360) (gdd (ixo (((6 : Int32) * x5) + x3) 144) (K88 x1 x2 x3 x4 (x5 + (1 : Int32)) k0 (wrI g 44 (((6 : Int32) * x5) + x3).toNatClampNeg ((rdL g 62 ((((60 : Int32) * x1) + x2) + x5).toNatClampNeg).toInt32)))))
set_option maxHeartbeats 2000000 in
theorem t_X10_strikes_150 {r2 : Int32} {g2 : Mm} (X : gx_X p R s m args meth c D al cI cJ A RX10 cX10_strikes 7 (some .int) d 0 0) (hd : 3 ≤ d) {K88 : Int32 → Int32 → Int32 → Int32 → Int32 → Int32 → Mm → Option (Int32 × Mm)} (hK88 : ∀ (u0 : Int32) (u1 : Int32) (u2 : Int32) (u3 : Int32) (u4 : Int32) (u5 : Int32) (g : Mm), K88 u0 u1 u2 u3 u4 u5 g = some (r2, g2) → gx_G p l e R s m args below meth c (gx_Q below args s D al cI cJ A (some (.int r2)) g2) D al cI cJ A 7 0 0 88 [(0, .ref (al (40))), (1, .int (u0)), (2, .int (u1)), (3, .int (u2)), (4, .int (u3)), (5, .int (u4)), (6, .int (u5))] [] g) : ∀ (x1 : Int32) (x2 : Int32) (x3 : Int32) (x4 : Int32) (x5 : Int32) (k0 : Int32) (g : Mm), m_X10_strikes_150 K88 x1 x2 x3 x4 x5 k0 g = some (r2, g2) → gx_G p l e R s m args below meth c (gx_Q below args s D al cI cJ A (some (.int r2)) g2) D al cI cJ A 7 0 0 150 [(0, .ref (al (40))), (1, .int (x1)), (2, .int (x2)), (3, .int (x3)), (4, .int (x4)), (5, .int (x5))] [.int (k0)] g := by
  intro x1 x2 x3 x4 x5 k0 g h
  unfold m_X10_strikes_150 at h
  refine gx_istore X [(6, .int (k0)), (0, .ref (al (40))), (1, .int (x1)), (2, .int (x2)), (3, .int (x3)), (4, .int (x4)), (5, .int (x5))] dX10_strikes_150 (by decide) rfl ?_
  refine gx_iload X 0 rfl dX10_strikes_152 ?_
  refine gx_if_eq X 88 dX10_strikes_154 (by decide) (fun q1 => ?_) (fun q1 => ?_)
  · replace h := (if_pos q1).symm.trans h
    exact gx_sub [1, 2, 3, 4, 5, 6, 0] rfl (hK88 x1 x2 x3 x4 x5 k0 g h)
  · replace h := (if_neg q1).symm.trans h
    refine gx_aload_n X 1 rfl dX10_strikes_157 ?_
    refine gx_getf X (40) lf_X10_28 (by decide) (cl_40 _ _) (v := .ref (al (44))) rfl dX10_strikes_158 ?_
    refine gx_bipush X (v := (6 : Int32)) dX10_strikes_161 (by decide) ?_
    refine gx_iload X 6 rfl dX10_strikes_163 ?_
    refine gx_imul X dX10_strikes_165 ?_
    refine gx_iload_n X 4 rfl dX10_strikes_166 ?_
    refine gx_iadd X dX10_strikes_167 ?_
    refine gx_aload_n X 1 rfl dX10_strikes_168 ?_
    refine gx_getf X (40) lf_X10_82 (by decide) (cl_40 _ _) (v := .ref (al (62))) rfl dX10_strikes_169 ?_
    refine gx_bipush X (v := (60 : Int32)) dX10_strikes_172 (by decide) ?_
    refine gx_iload_n X 2 rfl dX10_strikes_174 ?_
    refine gx_imul X dX10_strikes_175 ?_
    refine gx_iload_n X 3 rfl dX10_strikes_176 ?_
    refine gx_iadd X dX10_strikes_177 ?_
    refine gx_iload X 6 rfl dX10_strikes_178 ?_
    refine gx_iadd X dX10_strikes_180 ?_
    obtain ⟨q2, h⟩ := gdd_eq h
    refine gx_lald X (62) 360 (by decide) (cl_62 _ _) q2 dX10_strikes_181 ?_
    refine gx_l2i X dX10_strikes_182 ?_
    obtain ⟨q3, h⟩ := gdd_eq h
    refine gx_iast X (44) 144 (by decide) (fun r => cl_44 r _) q3 dX10_strikes_183 ?_
    refine gx_iinc X [(5, .int ((x5 + (1 : Int32)))), (6, .int (k0)), (0, .ref (al (40))), (1, .int (x1)), (2, .int (x2)), (3, .int (x3)), (4, .int (x4))] 6 dX10_strikes_184 rfl rfl (by decide) rfl ?_
    refine gx_goto X 88 dX10_strikes_187 (by decide) ?_
    exact gx_sub [2, 3, 4, 5, 6, 0, 1] rfl (hK88 x1 x2 x3 x4 (x5 + (1 : Int32)) k0 (wrI g 44 (((6 : Int32) * x5) + x3).toNatClampNeg ((rdL g 62 ((((60 : Int32) * x1) + x2) + x5).toNatClampNeg).toInt32)) h)
def m_X10_strikes_190 (x5 : Int32) (g : Mm) : Option (Int32 × Mm) := (if x5 ≤ (0 : Int32) then some (x5, g) else bdd (m_X10_forgets  g) (fun ra2 ga3 => some (x5, ga3)))
set_option maxHeartbeats 2000000 in
theorem t_X10_strikes_190 {r2 : Int32} {g2 : Mm} (X : gx_X p R s m args meth c D al cI cJ A RX10 cX10_strikes 7 (some .int) d 0 0) (hd : 3 ≤ d) : ∀ (x5 : Int32) (g : Mm), m_X10_strikes_190 x5 g = some (r2, g2) → gx_G p l e R s m args below meth c (gx_Q below args s D al cI cJ A (some (.int r2)) g2) D al cI cJ A 7 0 0 190 [(0, .ref (al (40))), (5, .int (x5))] [] g := by
  intro x5 g h
  unfold m_X10_strikes_190 at h
  refine gx_iload X 1 rfl dX10_strikes_190 ?_
  refine gx_if_le X 199 dX10_strikes_192 (by decide) (fun q1 => ?_) (fun q1 => ?_)
  · replace h := (if_pos q1).symm.trans h
    refine gx_iload X 1 rfl dX10_strikes_199 ?_
    obtain ⟨rfl, rfl⟩ := ret_eq h
    exact gx_iret X rfl dX10_strikes_201
  · replace h := (if_neg q1).symm.trans h
    refine gx_aload_n X 0 rfl dX10_strikes_195 ?_
    obtain ⟨ra2, ga3, ca4, h⟩ := bdd_eq h
    refine gx_callVv X (40) (c_X10_forgets ca4) lc_X10_forgets li_X10_forgets lm_X10_111 (by decide) (cl_40 _ _) rfl rfl rfl (Nat.le_trans (by decide) hd) rfl (Nat.le_of_ble_eq_true rfl) dX10_strikes_196 ?_
    refine gx_iload X 1 rfl dX10_strikes_199 ?_
    obtain ⟨rfl, rfl⟩ := ret_eq h
    exact gx_iret X rfl dX10_strikes_201
def m_X10_strikes_88 : Nat → Int32 → Int32 → Int32 → Int32 → Int32 → Int32 → Mm → Option (Int32 × Mm)
  | 0, _, _, _, _, _, _, _ => none
  | n + 1, x1, x2, x3, x4, x5, x6, g => (if x6 = (0 : Int32) then m_X10_strikes_190 x5 g else (if x4 ≤ x5 then m_X10_strikes_190 x5 g else gdd (ixo x1 6) ((if (0 : Int32) ≤ (lg_cmp ((x2.toInt64) + (x5.toInt64)) (rdI g 61 x1.toNatClampNeg).toInt64) then m_X10_strikes_150 (m_X10_strikes_88 n) x1 x2 x3 x4 x5 (0 : Int32) g else gdd (ixo ((((60 : Int32) * x1) + x2) + x5) 360) (gdd (ixo x3 6) (bdd (m_X10_in (rdL g 62 ((((60 : Int32) * x1) + x2) + x5).toNatClampNeg) (0 : Int64) ((rdI g 41 x3.toNatClampNeg).toInt64) g) (fun ra7 ga8 => (if ra7 = (0 : Int32) then m_X10_strikes_150 (m_X10_strikes_88 n) x1 x2 x3 x4 x5 (0 : Int32) ga8 else m_X10_strikes_150 (m_X10_strikes_88 n) x1 x2 x3 x4 x5 (1 : Int32) ga8))))))))
set_option maxHeartbeats 2000000 in
theorem t_X10_strikes_88 {r2 : Int32} {g2 : Mm} (X : gx_X p R s m args meth c D al cI cJ A RX10 cX10_strikes 7 (some .int) d 0 0) (hd : 3 ≤ d) : ∀ (n : Nat) (x1 : Int32) (x2 : Int32) (x3 : Int32) (x4 : Int32) (x5 : Int32) (x6 : Int32) (g : Mm), m_X10_strikes_88 n x1 x2 x3 x4 x5 x6 g = some (r2, g2) → gx_G p l e R s m args below meth c (gx_Q below args s D al cI cJ A (some (.int r2)) g2) D al cI cJ A 7 0 0 88 [(0, .ref (al (40))), (1, .int (x1)), (2, .int (x2)), (3, .int (x3)), (4, .int (x4)), (5, .int (x5)), (6, .int (x6))] [] g := by
  intro n
  induction n with
  | zero => intro x1 x2 x3 x4 x5 x6 g h; cases h
  | succ n ih =>
    intro x1 x2 x3 x4 x5 x6 g h
    rw [m_X10_strikes_88] at h
    refine gx_iload X 6 rfl dX10_strikes_88 ?_
    refine gx_if_eq X 190 dX10_strikes_90 (by decide) (fun q1 => ?_) (fun q1 => ?_)
    · replace h := (if_pos q1).symm.trans h
      exact gx_sub [0, 5] rfl (t_X10_strikes_190 X hd x5 g h)
    · replace h := (if_neg q1).symm.trans h
      refine gx_iload X 5 rfl dX10_strikes_93 ?_
      refine gx_iload X 4 rfl dX10_strikes_95 ?_
      refine gx_icmp_ge X 190 dX10_strikes_97 (by decide) (fun q2 => ?_) (fun q2 => ?_)
      · replace h := (if_pos q2).symm.trans h
        exact gx_sub [0, 5] rfl (t_X10_strikes_190 X hd x5 g h)
      · replace h := (if_neg q2).symm.trans h
        refine gx_iload_n X 2 rfl dX10_strikes_100 ?_
        refine gx_i2l X dX10_strikes_101 ?_
        refine gx_iload X 5 rfl dX10_strikes_102 ?_
        refine gx_i2l X dX10_strikes_104 ?_
        refine gx_ladd X dX10_strikes_105 ?_
        refine gx_aload_n X 0 rfl dX10_strikes_106 ?_
        refine gx_getf X (40) lf_X10_79 (by decide) (cl_40 _ _) (v := .ref (al (61))) rfl dX10_strikes_107 ?_
        refine gx_iload_n X 1 rfl dX10_strikes_110 ?_
        obtain ⟨q3, h⟩ := gdd_eq h
        refine gx_iald X (61) 6 (by decide) (cl_61 _ _) q3 dX10_strikes_111 ?_
        refine gx_i2l X dX10_strikes_112 ?_
        refine gx_lcmp X dX10_strikes_113 ?_
        refine gx_if_ge X 149 dX10_strikes_114 (by decide) (fun q4 => ?_) (fun q4 => ?_)
        · replace h := (if_pos q4).symm.trans h
          refine gx_iconst X (v := (0 : Int32)) dX10_strikes_149 (by decide) ?_
          exact gx_sub [0, 1, 2, 3, 4, 5] rfl (t_X10_strikes_150 X hd (fun u0 u1 u2 u3 u4 u5 g h => ih u0 u1 u2 u3 u4 u5 g h) x1 x2 x3 x4 x5 (0 : Int32) g h)
        · replace h := (if_neg q4).symm.trans h
          refine gx_aload_n X 0 rfl dX10_strikes_117 ?_
          refine gx_getf X (40) lf_X10_82 (by decide) (cl_40 _ _) (v := .ref (al (62))) rfl dX10_strikes_118 ?_
          refine gx_bipush X (v := (60 : Int32)) dX10_strikes_121 (by decide) ?_
          refine gx_iload_n X 1 rfl dX10_strikes_123 ?_
          refine gx_imul X dX10_strikes_124 ?_
          refine gx_iload_n X 2 rfl dX10_strikes_125 ?_
          refine gx_iadd X dX10_strikes_126 ?_
          refine gx_iload X 5 rfl dX10_strikes_127 ?_
          refine gx_iadd X dX10_strikes_129 ?_
          obtain ⟨q5, h⟩ := gdd_eq h
          refine gx_lald X (62) 360 (by decide) (cl_62 _ _) q5 dX10_strikes_130 ?_
          refine gx_lconst X (v := (0 : Int64)) dX10_strikes_131 (by decide) ?_
          refine gx_aload_n X 0 rfl dX10_strikes_132 ?_
          refine gx_getf X (40) lf_X10_9 (by decide) (cl_40 _ _) (v := .ref (al (41))) rfl dX10_strikes_133 ?_
          refine gx_iload_n X 3 rfl dX10_strikes_136 ?_
          obtain ⟨q6, h⟩ := gdd_eq h
          refine gx_iald X (41) 6 (by decide) (cl_41 _ _) q6 dX10_strikes_137 ?_
          refine gx_i2l X dX10_strikes_138 ?_
          obtain ⟨ra7, ga8, ca9, h⟩ := bdd_eq h
          refine gx_callSi X (c_X10_in ca9) lc_X10_in li_X10_in lm_X10_92 rfl rfl (Nat.le_trans (by decide) hd) rfl (Nat.le_of_ble_eq_true rfl) dX10_strikes_139 ?_
          refine gx_if_eq X 149 dX10_strikes_142 (by decide) (fun q10 => ?_) (fun q10 => ?_)
          · replace h := (if_pos q10).symm.trans h
            refine gx_iconst X (v := (0 : Int32)) dX10_strikes_149 (by decide) ?_
            exact gx_sub [0, 1, 2, 3, 4, 5] rfl (t_X10_strikes_150 X hd (fun u0 u1 u2 u3 u4 u5 g h => ih u0 u1 u2 u3 u4 u5 g h) x1 x2 x3 x4 x5 (0 : Int32) ga8 h)
          · replace h := (if_neg q10).symm.trans h
            refine gx_iconst X (v := (1 : Int32)) dX10_strikes_145 (by decide) ?_
            refine gx_goto X 150 dX10_strikes_146 (by decide) ?_
            exact gx_sub [0, 1, 2, 3, 4, 5] rfl (t_X10_strikes_150 X hd (fun u0 u1 u2 u3 u4 u5 g h => ih u0 u1 u2 u3 u4 u5 g h) x1 x2 x3 x4 x5 (1 : Int32) ga8 h)
def m_X10_strikes_64 (x1 : Int32) (x2 : Int32) (x3 : Int32) (x4 : Int32) (g : Mm) : Option (Int32 × Mm) := gdd (ixo x1 6) ((if (rdI g 58 x1.toNatClampNeg) = (2 : Int32) then (if x2 < (0 : Int32) then m_X10_strikes_88 fuL x1 x2 x3 x4 (0 : Int32) (0 : Int32) g else m_X10_strikes_88 fuL x1 x2 x3 x4 (0 : Int32) (1 : Int32) g) else m_X10_strikes_88 fuL x1 x2 x3 x4 (0 : Int32) (0 : Int32) g))
set_option maxHeartbeats 2000000 in
theorem t_X10_strikes_64 {r2 : Int32} {g2 : Mm} (X : gx_X p R s m args meth c D al cI cJ A RX10 cX10_strikes 7 (some .int) d 0 0) (hd : 3 ≤ d) : ∀ (x1 : Int32) (x2 : Int32) (x3 : Int32) (x4 : Int32) (g : Mm), m_X10_strikes_64 x1 x2 x3 x4 g = some (r2, g2) → gx_G p l e R s m args below meth c (gx_Q below args s D al cI cJ A (some (.int r2)) g2) D al cI cJ A 7 0 0 64 [(0, .ref (al (40))), (1, .int (x1)), (2, .int (x2)), (3, .int (x3)), (4, .int (x4))] [] g := by
  intro x1 x2 x3 x4 g h
  unfold m_X10_strikes_64 at h
  refine gx_iconst X (v := (0 : Int32)) dX10_strikes_64 (by decide) ?_
  refine gx_istore X [(5, .int ((0 : Int32))), (0, .ref (al (40))), (1, .int (x1)), (2, .int (x2)), (3, .int (x3)), (4, .int (x4))] dX10_strikes_65 (by decide) rfl ?_
  refine gx_aload_n X 1 rfl dX10_strikes_67 ?_
  refine gx_getf X (40) lf_X10_70 (by decide) (cl_40 _ _) (v := .ref (al (58))) rfl dX10_strikes_68 ?_
  refine gx_iload_n X 2 rfl dX10_strikes_71 ?_
  obtain ⟨q1, h⟩ := gdd_eq h
  refine gx_iald X (58) 6 (by decide) (cl_58 _ _) q1 dX10_strikes_72 ?_
  refine gx_iconst X (v := (2 : Int32)) dX10_strikes_73 (by decide) ?_
  refine gx_icmp_ne X 85 dX10_strikes_74 (by decide) (fun q2 => ?_) (fun q2 => ?_)
  · replace h := (if_neg q2).symm.trans h
    refine gx_iconst X (v := (0 : Int32)) dX10_strikes_85 (by decide) ?_
    refine gx_istore X [(6, .int ((0 : Int32))), (5, .int ((0 : Int32))), (0, .ref (al (40))), (1, .int (x1)), (2, .int (x2)), (3, .int (x3)), (4, .int (x4))] dX10_strikes_86 (by decide) rfl ?_
    exact gx_sub [2, 3, 4, 5, 6, 1, 0] rfl (t_X10_strikes_88 X hd fuL x1 x2 x3 x4 (0 : Int32) (0 : Int32) g h)
  · replace h := (if_pos q2).symm.trans h
    refine gx_iload_n X 3 rfl dX10_strikes_77 ?_
    refine gx_if_lt X 85 dX10_strikes_78 (by decide) (fun q3 => ?_) (fun q3 => ?_)
    · replace h := (if_pos q3).symm.trans h
      refine gx_iconst X (v := (0 : Int32)) dX10_strikes_85 (by decide) ?_
      refine gx_istore X [(6, .int ((0 : Int32))), (5, .int ((0 : Int32))), (0, .ref (al (40))), (1, .int (x1)), (2, .int (x2)), (3, .int (x3)), (4, .int (x4))] dX10_strikes_86 (by decide) rfl ?_
      exact gx_sub [2, 3, 4, 5, 6, 1, 0] rfl (t_X10_strikes_88 X hd fuL x1 x2 x3 x4 (0 : Int32) (0 : Int32) g h)
    · replace h := (if_neg q3).symm.trans h
      refine gx_iconst X (v := (1 : Int32)) dX10_strikes_81 (by decide) ?_
      refine gx_goto X 86 dX10_strikes_82 (by decide) ?_
      refine gx_istore X [(6, .int ((1 : Int32))), (5, .int ((0 : Int32))), (0, .ref (al (40))), (1, .int (x1)), (2, .int (x2)), (3, .int (x3)), (4, .int (x4))] dX10_strikes_86 (by decide) rfl ?_
      exact gx_sub [2, 3, 4, 5, 6, 1, 0] rfl (t_X10_strikes_88 X hd fuL x1 x2 x3 x4 (0 : Int32) (1 : Int32) g h)
def m_X10_strikes (a1 : Int32) (a2 : Int32) (a3 : Int32) (a4 : Int32) (g : Mm) : Option (Int32 × Mm) := bdd (m_X10_isShelf a1 g) (fun ra1 ga2 => (if ra1 = (0 : Int32) then some ((-1 : Int32), ga2) else bdd (m_X10_isBell a3 ga2) (fun ra5 ga6 => (if ra5 = (0 : Int32) then some ((-1 : Int32), ga6) else bdd (m_X10_in (a4.toInt64) (1 : Int64) ((rdI ga6 40 5).toInt64) ga6) (fun ra9 ga10 => (if ra9 = (0 : Int32) then some ((-1 : Int32), ga10) else gdd (ixo a1 6) ((if (rdI ga10 58 a1.toNatClampNeg) = (1 : Int32) then some ((-12 : Int32), ga10) else gdd (ixo a1 6) ((if (rdI ga10 58 a1.toNatClampNeg) = (2 : Int32) then gdd (ixo a1 6) ((if (rdI ga10 60 a1.toNatClampNeg) = (0 : Int32) then m_X10_strikes_64 a1 a2 a3 a4 ga10 else some ((-12 : Int32), ga10))) else m_X10_strikes_64 a1 a2 a3 a4 ga10))))))))))
set_option maxHeartbeats 2000000 in
theorem c_X10_strikes {r2 : Int32} {g g2 : Mm} {a1 : Int32} {a2 : Int32} {a3 : Int32} {a4 : Int32} (h : m_X10_strikes a1 a2 a3 a4 g = some (r2, g2)) : gx_M 3 yX10_strikes cX10_strikes 7 (some .int) (fun al => [.ref (al (40)), .int (a1), .int (a2), .int (a3), .int (a4)]) g (some (.int r2)) g2 := by
  have hd : 3 ≤ 3 := Nat.le_refl _
  refine gx_M.of (by decide +kernel) (fun _ => Nat.le_of_ble_eq_true rfl) ?_
  intro p l e R s m args below meth c D al cI cJ A X
  refine gx_eq (pc' := 0) (ls' := [(0, .ref (al (40))), (1, .int (a1)), (2, .int (a2)), (3, .int (a3)), (4, .int (a4))]) (st' := []) (g' := g) ⟨rfl, rfl, rfl, rfl⟩ ?_
  unfold m_X10_strikes at h
  refine gx_iload_n X 1 rfl dX10_strikes_0 ?_
  obtain ⟨ra1, ga2, ca3, h⟩ := bdd_eq h
  refine gx_callSi X (c_X10_isShelf ca3) lc_X10_isShelf li_X10_isShelf lm_X10_367 rfl rfl (Nat.le_trans (by decide) hd) rfl (Nat.le_of_ble_eq_true rfl) dX10_strikes_1 ?_
  refine gx_if_eq X 30 dX10_strikes_4 (by decide) (fun q4 => ?_) (fun q4 => ?_)
  · replace h := (if_pos q4).symm.trans h
    refine gx_iconst X (v := (-1 : Int32)) dX10_strikes_30 (by decide) ?_
    obtain ⟨rfl, rfl⟩ := ret_eq h
    exact gx_iret X rfl dX10_strikes_31
  · replace h := (if_neg q4).symm.trans h
    refine gx_aload_n X 0 rfl dX10_strikes_7 ?_
    refine gx_iload_n X 3 rfl dX10_strikes_8 ?_
    obtain ⟨ra5, ga6, ca7, h⟩ := bdd_eq h
    refine gx_callVi X (40) (c_X10_isBell ca7) lc_X10_isBell li_X10_isBell lm_X10_100 (by decide) (cl_40 _ _) rfl rfl rfl (Nat.le_trans (by decide) hd) rfl (Nat.le_of_ble_eq_true rfl) dX10_strikes_9 ?_
    refine gx_if_eq X 30 dX10_strikes_12 (by decide) (fun q8 => ?_) (fun q8 => ?_)
    · replace h := (if_pos q8).symm.trans h
      refine gx_iconst X (v := (-1 : Int32)) dX10_strikes_30 (by decide) ?_
      obtain ⟨rfl, rfl⟩ := ret_eq h
      exact gx_iret X rfl dX10_strikes_31
    · replace h := (if_neg q8).symm.trans h
      refine gx_iload X 4 rfl dX10_strikes_15 ?_
      refine gx_i2l X dX10_strikes_17 ?_
      refine gx_lconst X (v := (1 : Int64)) dX10_strikes_18 (by decide) ?_
      refine gx_aload_n X 0 rfl dX10_strikes_19 ?_
      refine gx_getf X (40) lf_X10_21 (by decide) (cl_40 _ _) (v := .int ((rdI ga6 40 5))) rfl dX10_strikes_20 ?_
      refine gx_i2l X dX10_strikes_23 ?_
      obtain ⟨ra9, ga10, ca11, h⟩ := bdd_eq h
      refine gx_callSi X (c_X10_in ca11) lc_X10_in li_X10_in lm_X10_92 rfl rfl (Nat.le_trans (by decide) hd) rfl (Nat.le_of_ble_eq_true rfl) dX10_strikes_24 ?_
      refine gx_if_ne X 32 dX10_strikes_27 (by decide) (fun q12 => ?_) (fun q12 => ?_)
      · replace h := (if_neg q12).symm.trans h
        refine gx_aload_n X 0 rfl dX10_strikes_32 ?_
        refine gx_getf X (40) lf_X10_70 (by decide) (cl_40 _ _) (v := .ref (al (58))) rfl dX10_strikes_33 ?_
        refine gx_iload_n X 1 rfl dX10_strikes_36 ?_
        obtain ⟨q13, h⟩ := gdd_eq h
        refine gx_iald X (58) 6 (by decide) (cl_58 _ _) q13 dX10_strikes_37 ?_
        refine gx_iconst X (v := (1 : Int32)) dX10_strikes_38 (by decide) ?_
        refine gx_icmp_eq X 61 dX10_strikes_39 (by decide) (fun q14 => ?_) (fun q14 => ?_)
        · replace h := (if_pos q14).symm.trans h
          refine gx_bipush X (v := (-12 : Int32)) dX10_strikes_61 (by decide) ?_
          obtain ⟨rfl, rfl⟩ := ret_eq h
          exact gx_iret X rfl dX10_strikes_63
        · replace h := (if_neg q14).symm.trans h
          refine gx_aload_n X 0 rfl dX10_strikes_42 ?_
          refine gx_getf X (40) lf_X10_70 (by decide) (cl_40 _ _) (v := .ref (al (58))) rfl dX10_strikes_43 ?_
          refine gx_iload_n X 1 rfl dX10_strikes_46 ?_
          obtain ⟨q15, h⟩ := gdd_eq h
          refine gx_iald X (58) 6 (by decide) (cl_58 _ _) q15 dX10_strikes_47 ?_
          refine gx_iconst X (v := (2 : Int32)) dX10_strikes_48 (by decide) ?_
          refine gx_icmp_ne X 64 dX10_strikes_49 (by decide) (fun q16 => ?_) (fun q16 => ?_)
          · replace h := (if_neg q16).symm.trans h
            exact gx_sub [0, 1, 2, 3, 4] rfl (t_X10_strikes_64 X hd a1 a2 a3 a4 ga10 h)
          · replace h := (if_pos q16).symm.trans h
            refine gx_aload_n X 0 rfl dX10_strikes_52 ?_
            refine gx_getf X (40) lf_X10_76 (by decide) (cl_40 _ _) (v := .ref (al (60))) rfl dX10_strikes_53 ?_
            refine gx_iload_n X 1 rfl dX10_strikes_56 ?_
            obtain ⟨q17, h⟩ := gdd_eq h
            refine gx_iald X (60) 6 (by decide) (cl_60 _ _) q17 dX10_strikes_57 ?_
            refine gx_if_eq X 64 dX10_strikes_58 (by decide) (fun q18 => ?_) (fun q18 => ?_)
            · replace h := (if_pos q18).symm.trans h
              exact gx_sub [0, 1, 2, 3, 4] rfl (t_X10_strikes_64 X hd a1 a2 a3 a4 ga10 h)
            · replace h := (if_neg q18).symm.trans h
              refine gx_bipush X (v := (-12 : Int32)) dX10_strikes_61 (by decide) ?_
              obtain ⟨rfl, rfl⟩ := ret_eq h
              exact gx_iret X rfl dX10_strikes_63
      · replace h := (if_pos q12).symm.trans h
        refine gx_iconst X (v := (-1 : Int32)) dX10_strikes_30 (by decide) ?_
        obtain ⟨rfl, rfl⟩ := ret_eq h
        exact gx_iret X rfl dX10_strikes_31
theorem dX10_strokesOf_0 : decode cX10_strokesOf 0 = .ok (.iconst 0, 1) := by decide +kernel
theorem dX10_strokesOf_1 : decode cX10_strokesOf 1 = .ok (.istore_n 2, 1) := by decide +kernel
theorem dX10_strokesOf_2 : decode cX10_strokesOf 2 = .ok (.iconst 0, 1) := by decide +kernel
theorem dX10_strokesOf_3 : decode cX10_strokesOf 3 = .ok (.istore_n 3, 1) := by decide +kernel
theorem dX10_strokesOf_4 : decode cX10_strokesOf 4 = .ok (.iload_n 3, 1) := by decide +kernel
theorem dX10_strokesOf_5 : decode cX10_strokesOf 5 = .ok (.aload_n 0, 1) := by decide +kernel
theorem dX10_strokesOf_6 : decode cX10_strokesOf 6 = .ok (.getfield 89, 3) := by decide +kernel
theorem dX10_strokesOf_9 : decode cX10_strokesOf 9 = .ok (.if_icmp .ge 23, 3) := by decide +kernel
theorem dX10_strokesOf_12 : decode cX10_strokesOf 12 = .ok (.iload_n 2, 1) := by decide +kernel
theorem dX10_strokesOf_13 : decode cX10_strokesOf 13 = .ok (.aload_n 0, 1) := by decide +kernel
theorem dX10_strokesOf_14 : decode cX10_strokesOf 14 = .ok (.getfield 28, 3) := by decide +kernel
theorem dX10_strokesOf_17 : decode cX10_strokesOf 17 = .ok (.bipush 6, 2) := by decide +kernel
theorem dX10_strokesOf_19 : decode cX10_strokesOf 19 = .ok (.iload_n 1, 1) := by decide +kernel
theorem dX10_strokesOf_20 : decode cX10_strokesOf 20 = .ok (.imul, 1) := by decide +kernel
theorem dX10_strokesOf_21 : decode cX10_strokesOf 21 = .ok (.iload_n 3, 1) := by decide +kernel
theorem dX10_strokesOf_22 : decode cX10_strokesOf 22 = .ok (.iadd, 1) := by decide +kernel
theorem dX10_strokesOf_23 : decode cX10_strokesOf 23 = .ok (.iaload, 1) := by decide +kernel
theorem dX10_strokesOf_24 : decode cX10_strokesOf 24 = .ok (.iadd, 1) := by decide +kernel
theorem dX10_strokesOf_25 : decode cX10_strokesOf 25 = .ok (.istore_n 2, 1) := by decide +kernel
theorem dX10_strokesOf_26 : decode cX10_strokesOf 26 = .ok (.iinc 3 1, 3) := by decide +kernel
theorem dX10_strokesOf_29 : decode cX10_strokesOf 29 = .ok (.goto (-25), 3) := by decide +kernel
theorem dX10_strokesOf_32 : decode cX10_strokesOf 32 = .ok (.iload_n 2, 1) := by decide +kernel
theorem dX10_strokesOf_33 : decode cX10_strokesOf 33 = .ok (.ireturn, 1) := by decide +kernel
def m_X10_strokesOf_4 : Nat → Int32 → Int32 → Int32 → Mm → Option (Int32 × Mm)
  | 0, _, _, _, _ => none
  | n + 1, x1, x2, x3, g => (if (rdI g 40 4) ≤ x3 then some (x2, g) else gdd (ixo (((6 : Int32) * x1) + x3) 144) (lti (x2 + (rdI g 44 (((6 : Int32) * x1) + x3).toNatClampNeg)) (fun v3 => m_X10_strokesOf_4 n x1 v3 (x3 + (1 : Int32)) g)))
set_option maxHeartbeats 2000000 in
theorem t_X10_strokesOf_4 {r2 : Int32} {g2 : Mm} (X : gx_X p R s m args meth c D al cI cJ A RX10 cX10_strokesOf 4 (some .int) d 0 0) (hd : 1 ≤ d) : ∀ (n : Nat) (x1 : Int32) (x2 : Int32) (x3 : Int32) (g : Mm), m_X10_strokesOf_4 n x1 x2 x3 g = some (r2, g2) → gx_G p l e R s m args below meth c (gx_Q below args s D al cI cJ A (some (.int r2)) g2) D al cI cJ A 4 0 0 4 [(0, .ref (al (40))), (1, .int (x1)), (2, .int (x2)), (3, .int (x3))] [] g := by
  intro n
  induction n with
  | zero => intro x1 x2 x3 g h; cases h
  | succ n ih =>
    intro x1 x2 x3 g h
    rw [m_X10_strokesOf_4] at h
    refine gx_iload_n X 3 rfl dX10_strokesOf_4 ?_
    refine gx_aload_n X 0 rfl dX10_strokesOf_5 ?_
    refine gx_getf X (40) lf_X10_89 (by decide) (cl_40 _ _) (v := .int ((rdI g 40 4))) rfl dX10_strokesOf_6 ?_
    refine gx_icmp_ge X 32 dX10_strokesOf_9 (by decide) (fun q1 => ?_) (fun q1 => ?_)
    · replace h := (if_pos q1).symm.trans h
      refine gx_iload_n X 2 rfl dX10_strokesOf_32 ?_
      obtain ⟨rfl, rfl⟩ := ret_eq h
      exact gx_iret X rfl dX10_strokesOf_33
    · replace h := (if_neg q1).symm.trans h
      refine gx_iload_n X 2 rfl dX10_strokesOf_12 ?_
      refine gx_aload_n X 0 rfl dX10_strokesOf_13 ?_
      refine gx_getf X (40) lf_X10_28 (by decide) (cl_40 _ _) (v := .ref (al (44))) rfl dX10_strokesOf_14 ?_
      refine gx_bipush X (v := (6 : Int32)) dX10_strokesOf_17 (by decide) ?_
      refine gx_iload_n X 1 rfl dX10_strokesOf_19 ?_
      refine gx_imul X dX10_strokesOf_20 ?_
      refine gx_iload_n X 3 rfl dX10_strokesOf_21 ?_
      refine gx_iadd X dX10_strokesOf_22 ?_
      obtain ⟨q2, h⟩ := gdd_eq h
      refine gx_iald X (44) 144 (by decide) (cl_44 _ _) q2 dX10_strokesOf_23 ?_
      refine gx_iadd X dX10_strokesOf_24 ?_
      obtain ⟨v3, ev3, h⟩ := lti_eq h
      refine gx_topi ev3 ?_
      refine gx_istore_n X [(2, .int (v3)), (0, .ref (al (40))), (1, .int (x1)), (3, .int (x3))] dX10_strokesOf_25 (by decide) rfl ?_
      refine gx_iinc X [(3, .int ((x3 + (1 : Int32)))), (2, .int (v3)), (0, .ref (al (40))), (1, .int (x1))] 3 dX10_strokesOf_26 rfl rfl (by decide) rfl ?_
      refine gx_goto X 4 dX10_strokesOf_29 (by decide) ?_
      exact gx_sub [2, 3, 1, 0] rfl (ih x1 v3 (x3 + (1 : Int32)) g h)
def m_X10_strokesOf (a1 : Int32) (g : Mm) : Option (Int32 × Mm) := m_X10_strokesOf_4 fuL a1 (0 : Int32) (0 : Int32) g
set_option maxHeartbeats 2000000 in
theorem c_X10_strokesOf {r2 : Int32} {g g2 : Mm} {a1 : Int32} (h : m_X10_strokesOf a1 g = some (r2, g2)) : gx_M 1 yX10_strokesOf cX10_strokesOf 4 (some .int) (fun al => [.ref (al (40)), .int (a1)]) g (some (.int r2)) g2 := by
  have hd : 1 ≤ 1 := Nat.le_refl _
  refine gx_M.of (by decide +kernel) (fun _ => Nat.le_of_ble_eq_true rfl) ?_
  intro p l e R s m args below meth c D al cI cJ A X
  refine gx_eq (pc' := 0) (ls' := [(0, .ref (al (40))), (1, .int (a1))]) (st' := []) (g' := g) ⟨rfl, rfl, rfl, rfl⟩ ?_
  unfold m_X10_strokesOf at h
  refine gx_iconst X (v := (0 : Int32)) dX10_strokesOf_0 (by decide) ?_
  refine gx_istore_n X [(2, .int ((0 : Int32))), (0, .ref (al (40))), (1, .int (a1))] dX10_strokesOf_1 (by decide) rfl ?_
  refine gx_iconst X (v := (0 : Int32)) dX10_strokesOf_2 (by decide) ?_
  refine gx_istore_n X [(3, .int ((0 : Int32))), (2, .int ((0 : Int32))), (0, .ref (al (40))), (1, .int (a1))] dX10_strokesOf_3 (by decide) rfl ?_
  exact gx_sub [2, 3, 1, 0] rfl (t_X10_strokesOf_4 X hd fuL a1 (0 : Int32) (0 : Int32) g h)
theorem dX10_worst_0 : decode cX10_worst 0 = .ok (.iconst 0, 1) := by decide +kernel
theorem dX10_worst_1 : decode cX10_worst 1 = .ok (.istore_n 1, 1) := by decide +kernel
theorem dX10_worst_2 : decode cX10_worst 2 = .ok (.iconst 1, 1) := by decide +kernel
theorem dX10_worst_3 : decode cX10_worst 3 = .ok (.istore_n 2, 1) := by decide +kernel
theorem dX10_worst_4 : decode cX10_worst 4 = .ok (.iload_n 2, 1) := by decide +kernel
theorem dX10_worst_5 : decode cX10_worst 5 = .ok (.aload_n 0, 1) := by decide +kernel
theorem dX10_worst_6 : decode cX10_worst 6 = .ok (.getfield 21, 3) := by decide +kernel
theorem dX10_worst_9 : decode cX10_worst 9 = .ok (.if_icmp .ge 24, 3) := by decide +kernel
theorem dX10_worst_12 : decode cX10_worst 12 = .ok (.aload_n 0, 1) := by decide +kernel
theorem dX10_worst_13 : decode cX10_worst 13 = .ok (.iload_n 2, 1) := by decide +kernel
theorem dX10_worst_14 : decode cX10_worst 14 = .ok (.invokevirtual 272, 3) := by decide +kernel
theorem dX10_worst_17 : decode cX10_worst 17 = .ok (.aload_n 0, 1) := by decide +kernel
theorem dX10_worst_18 : decode cX10_worst 18 = .ok (.iload_n 1, 1) := by decide +kernel
theorem dX10_worst_19 : decode cX10_worst 19 = .ok (.invokevirtual 272, 3) := by decide +kernel
theorem dX10_worst_22 : decode cX10_worst 22 = .ok (.if_icmp .le 5, 3) := by decide +kernel
theorem dX10_worst_25 : decode cX10_worst 25 = .ok (.iload_n 2, 1) := by decide +kernel
theorem dX10_worst_26 : decode cX10_worst 26 = .ok (.istore_n 1, 1) := by decide +kernel
theorem dX10_worst_27 : decode cX10_worst 27 = .ok (.iinc 2 1, 3) := by decide +kernel
theorem dX10_worst_30 : decode cX10_worst 30 = .ok (.goto (-26), 3) := by decide +kernel
theorem dX10_worst_33 : decode cX10_worst 33 = .ok (.iload_n 1, 1) := by decide +kernel
theorem dX10_worst_34 : decode cX10_worst 34 = .ok (.ireturn, 1) := by decide +kernel
def m_X10_worst_4 : Nat → Int32 → Int32 → Mm → Option (Int32 × Mm)
  | 0, _, _, _ => none
  | n + 1, x1, x2, g => (if (rdI g 40 5) ≤ x2 then some (x1, g) else bdd (m_X10_strokesOf x2 g) (fun ra2 ga3 => bdd (m_X10_strokesOf x1 ga3) (fun ra5 ga6 => (if ra2 ≤ ra5 then m_X10_worst_4 n x1 (x2 + (1 : Int32)) ga6 else m_X10_worst_4 n x2 (x2 + (1 : Int32)) ga6))))
set_option maxHeartbeats 2000000 in
theorem t_X10_worst_4 {r2 : Int32} {g2 : Mm} (X : gx_X p R s m args meth c D al cI cJ A RX10 cX10_worst 3 (some .int) d 0 0) (hd : 2 ≤ d) : ∀ (n : Nat) (x1 : Int32) (x2 : Int32) (g : Mm), m_X10_worst_4 n x1 x2 g = some (r2, g2) → gx_G p l e R s m args below meth c (gx_Q below args s D al cI cJ A (some (.int r2)) g2) D al cI cJ A 3 0 0 4 [(0, .ref (al (40))), (1, .int (x1)), (2, .int (x2))] [] g := by
  intro n
  induction n with
  | zero => intro x1 x2 g h; cases h
  | succ n ih =>
    intro x1 x2 g h
    rw [m_X10_worst_4] at h
    refine gx_iload_n X 2 rfl dX10_worst_4 ?_
    refine gx_aload_n X 0 rfl dX10_worst_5 ?_
    refine gx_getf X (40) lf_X10_21 (by decide) (cl_40 _ _) (v := .int ((rdI g 40 5))) rfl dX10_worst_6 ?_
    refine gx_icmp_ge X 33 dX10_worst_9 (by decide) (fun q1 => ?_) (fun q1 => ?_)
    · replace h := (if_pos q1).symm.trans h
      refine gx_iload_n X 1 rfl dX10_worst_33 ?_
      obtain ⟨rfl, rfl⟩ := ret_eq h
      exact gx_iret X rfl dX10_worst_34
    · replace h := (if_neg q1).symm.trans h
      refine gx_aload_n X 0 rfl dX10_worst_12 ?_
      refine gx_iload_n X 2 rfl dX10_worst_13 ?_
      obtain ⟨ra2, ga3, ca4, h⟩ := bdd_eq h
      refine gx_callVi X (40) (c_X10_strokesOf ca4) lc_X10_strokesOf li_X10_strokesOf lm_X10_272 (by decide) (cl_40 _ _) rfl rfl rfl (Nat.le_trans (by decide) hd) rfl (Nat.le_of_ble_eq_true rfl) dX10_worst_14 ?_
      refine gx_aload_n X 0 rfl dX10_worst_17 ?_
      refine gx_iload_n X 1 rfl dX10_worst_18 ?_
      obtain ⟨ra5, ga6, ca7, h⟩ := bdd_eq h
      refine gx_callVi X (40) (c_X10_strokesOf ca7) lc_X10_strokesOf li_X10_strokesOf lm_X10_272 (by decide) (cl_40 _ _) rfl rfl rfl (Nat.le_trans (by decide) hd) rfl (Nat.le_of_ble_eq_true rfl) dX10_worst_19 ?_
      refine gx_icmp_le X 27 dX10_worst_22 (by decide) (fun q8 => ?_) (fun q8 => ?_)
      · replace h := (if_pos q8).symm.trans h
        refine gx_iinc X [(2, .int ((x2 + (1 : Int32)))), (0, .ref (al (40))), (1, .int (x1))] 2 dX10_worst_27 rfl rfl (by decide) rfl ?_
        refine gx_goto X 4 dX10_worst_30 (by decide) ?_
        exact gx_sub [1, 2, 0] rfl (ih x1 (x2 + (1 : Int32)) ga6 h)
      · replace h := (if_neg q8).symm.trans h
        refine gx_iload_n X 2 rfl dX10_worst_25 ?_
        refine gx_istore_n X [(1, .int (x2)), (0, .ref (al (40))), (2, .int (x2))] dX10_worst_26 (by decide) rfl ?_
        refine gx_iinc X [(2, .int ((x2 + (1 : Int32)))), (1, .int (x2)), (0, .ref (al (40)))] 2 dX10_worst_27 rfl rfl (by decide) rfl ?_
        refine gx_goto X 4 dX10_worst_30 (by decide) ?_
        exact gx_sub [2, 1, 0] rfl (ih x2 (x2 + (1 : Int32)) ga6 h)
def m_X10_worst (g : Mm) : Option (Int32 × Mm) := m_X10_worst_4 fuL (0 : Int32) (1 : Int32) g
set_option maxHeartbeats 2000000 in
theorem c_X10_worst {r2 : Int32} {g g2 : Mm} (h : m_X10_worst g = some (r2, g2)) : gx_M 2 yX10_worst cX10_worst 3 (some .int) (fun al => [.ref (al (40))]) g (some (.int r2)) g2 := by
  have hd : 2 ≤ 2 := Nat.le_refl _
  refine gx_M.of (by decide +kernel) (fun _ => Nat.le_of_ble_eq_true rfl) ?_
  intro p l e R s m args below meth c D al cI cJ A X
  refine gx_eq (pc' := 0) (ls' := [(0, .ref (al (40)))]) (st' := []) (g' := g) ⟨rfl, rfl, rfl, rfl⟩ ?_
  unfold m_X10_worst at h
  refine gx_iconst X (v := (0 : Int32)) dX10_worst_0 (by decide) ?_
  refine gx_istore_n X [(1, .int ((0 : Int32))), (0, .ref (al (40)))] dX10_worst_1 (by decide) rfl ?_
  refine gx_iconst X (v := (1 : Int32)) dX10_worst_2 (by decide) ?_
  refine gx_istore_n X [(2, .int ((1 : Int32))), (1, .int ((0 : Int32))), (0, .ref (al (40)))] dX10_worst_3 (by decide) rfl ?_
  exact gx_sub [2, 1, 0] rfl (t_X10_worst_4 X hd fuL (0 : Int32) (1 : Int32) g h)
theorem dX10_strokes_0 : decode cX10_strokes 0 = .ok (.aload_n 0, 1) := by decide +kernel
theorem dX10_strokes_1 : decode cX10_strokes 1 = .ok (.iload_n 1, 1) := by decide +kernel
theorem dX10_strokes_2 : decode cX10_strokes 2 = .ok (.invokevirtual 96, 3) := by decide +kernel
theorem dX10_strokes_5 : decode cX10_strokes 5 = .ok (.ifCond .eq 9, 3) := by decide +kernel
theorem dX10_strokes_8 : decode cX10_strokes 8 = .ok (.aload_n 0, 1) := by decide +kernel
theorem dX10_strokes_9 : decode cX10_strokes 9 = .ok (.iload_n 1, 1) := by decide +kernel
theorem dX10_strokes_10 : decode cX10_strokes 10 = .ok (.invokevirtual 272, 3) := by decide +kernel
theorem dX10_strokes_13 : decode cX10_strokes 13 = .ok (.ireturn, 1) := by decide +kernel
theorem dX10_strokes_14 : decode cX10_strokes 14 = .ok (.iload_n 1, 1) := by decide +kernel
theorem dX10_strokes_15 : decode cX10_strokes 15 = .ok (.i2l, 1) := by decide +kernel
theorem dX10_strokes_16 : decode cX10_strokes 16 = .ok (.ldc2_w 275, 3) := by decide +kernel
theorem dX10_strokes_19 : decode cX10_strokes 19 = .ok (.ldc2_w 277, 3) := by decide +kernel
theorem dX10_strokes_22 : decode cX10_strokes 22 = .ok (.invokestatic 92, 3) := by decide +kernel
theorem dX10_strokes_25 : decode cX10_strokes 25 = .ok (.ifCond .ne 5, 3) := by decide +kernel
theorem dX10_strokes_28 : decode cX10_strokes 28 = .ok (.iconst (-1), 1) := by decide +kernel
theorem dX10_strokes_29 : decode cX10_strokes 29 = .ok (.ireturn, 1) := by decide +kernel
theorem dX10_strokes_30 : decode cX10_strokes 30 = .ok (.iload_n 1, 1) := by decide +kernel
theorem dX10_strokes_31 : decode cX10_strokes 31 = .ok (.bipush 100, 2) := by decide +kernel
theorem dX10_strokes_33 : decode cX10_strokes 33 = .ok (.if_icmp .ne 10, 3) := by decide +kernel
theorem dX10_strokes_36 : decode cX10_strokes 36 = .ok (.iconst 2, 1) := by decide +kernel
theorem dX10_strokes_37 : decode cX10_strokes 37 = .ok (.aload_n 0, 1) := by decide +kernel
theorem dX10_strokes_38 : decode cX10_strokes 38 = .ok (.invokevirtual 219, 3) := by decide +kernel
theorem dX10_strokes_41 : decode cX10_strokes 41 = .ok (.imul, 1) := by decide +kernel
theorem dX10_strokes_42 : decode cX10_strokes 42 = .ok (.ireturn, 1) := by decide +kernel
theorem dX10_strokes_43 : decode cX10_strokes 43 = .ok (.iload_n 1, 1) := by decide +kernel
theorem dX10_strokes_44 : decode cX10_strokes 44 = .ok (.bipush 103, 2) := by decide +kernel
theorem dX10_strokes_46 : decode cX10_strokes 46 = .ok (.if_icmp .ge 25, 3) := by decide +kernel
theorem dX10_strokes_49 : decode cX10_strokes 49 = .ok (.iload_n 1, 1) := by decide +kernel
theorem dX10_strokes_50 : decode cX10_strokes 50 = .ok (.bipush 101, 2) := by decide +kernel
theorem dX10_strokes_52 : decode cX10_strokes 52 = .ok (.if_icmp .ne 14, 3) := by decide +kernel
theorem dX10_strokes_55 : decode cX10_strokes 55 = .ok (.aload_n 0, 1) := by decide +kernel
theorem dX10_strokes_56 : decode cX10_strokes 56 = .ok (.aload_n 0, 1) := by decide +kernel
theorem dX10_strokes_57 : decode cX10_strokes 57 = .ok (.invokevirtual 279, 3) := by decide +kernel
theorem dX10_strokes_60 : decode cX10_strokes 60 = .ok (.invokevirtual 272, 3) := by decide +kernel
theorem dX10_strokes_63 : decode cX10_strokes 63 = .ok (.goto 7, 3) := by decide +kernel
theorem dX10_strokes_66 : decode cX10_strokes 66 = .ok (.aload_n 0, 1) := by decide +kernel
theorem dX10_strokes_67 : decode cX10_strokes 67 = .ok (.invokevirtual 279, 3) := by decide +kernel
theorem dX10_strokes_70 : decode cX10_strokes 70 = .ok (.ireturn, 1) := by decide +kernel
theorem dX10_strokes_71 : decode cX10_strokes 71 = .ok (.iconst 0, 1) := by decide +kernel
theorem dX10_strokes_72 : decode cX10_strokes 72 = .ok (.istore_n 2, 1) := by decide +kernel
theorem dX10_strokes_73 : decode cX10_strokes 73 = .ok (.iconst 0, 1) := by decide +kernel
theorem dX10_strokes_74 : decode cX10_strokes 74 = .ok (.istore_n 3, 1) := by decide +kernel
theorem dX10_strokes_75 : decode cX10_strokes 75 = .ok (.iconst 0, 1) := by decide +kernel
theorem dX10_strokes_76 : decode cX10_strokes 76 = .ok (.istore 4, 2) := by decide +kernel
theorem dX10_strokes_78 : decode cX10_strokes 78 = .ok (.iload 4, 2) := by decide +kernel
theorem dX10_strokes_80 : decode cX10_strokes 80 = .ok (.aload_n 0, 1) := by decide +kernel
theorem dX10_strokes_81 : decode cX10_strokes 81 = .ok (.getfield 89, 3) := by decide +kernel
theorem dX10_strokes_84 : decode cX10_strokes 84 = .ok (.if_icmp .ge 35, 3) := by decide +kernel
theorem dX10_strokes_87 : decode cX10_strokes 87 = .ok (.iload_n 2, 1) := by decide +kernel
theorem dX10_strokes_88 : decode cX10_strokes 88 = .ok (.aload_n 0, 1) := by decide +kernel
theorem dX10_strokes_89 : decode cX10_strokes 89 = .ok (.iload 4, 2) := by decide +kernel
theorem dX10_strokes_91 : decode cX10_strokes 91 = .ok (.invokevirtual 282, 3) := by decide +kernel
theorem dX10_strokes_94 : decode cX10_strokes 94 = .ok (.iadd, 1) := by decide +kernel
theorem dX10_strokes_95 : decode cX10_strokes 95 = .ok (.istore_n 2, 1) := by decide +kernel
theorem dX10_strokes_96 : decode cX10_strokes 96 = .ok (.aload_n 0, 1) := by decide +kernel
theorem dX10_strokes_97 : decode cX10_strokes 97 = .ok (.iload 4, 2) := by decide +kernel
theorem dX10_strokes_99 : decode cX10_strokes 99 = .ok (.invokevirtual 282, 3) := by decide +kernel
theorem dX10_strokes_102 : decode cX10_strokes 102 = .ok (.aload_n 0, 1) := by decide +kernel
theorem dX10_strokes_103 : decode cX10_strokes 103 = .ok (.iload_n 3, 1) := by decide +kernel
theorem dX10_strokes_104 : decode cX10_strokes 104 = .ok (.invokevirtual 282, 3) := by decide +kernel
theorem dX10_strokes_107 : decode cX10_strokes 107 = .ok (.if_icmp .le 6, 3) := by decide +kernel
theorem dX10_strokes_110 : decode cX10_strokes 110 = .ok (.iload 4, 2) := by decide +kernel
theorem dX10_strokes_112 : decode cX10_strokes 112 = .ok (.istore_n 3, 1) := by decide +kernel
theorem dX10_strokes_113 : decode cX10_strokes 113 = .ok (.iinc 4 1, 3) := by decide +kernel
theorem dX10_strokes_116 : decode cX10_strokes 116 = .ok (.goto (-38), 3) := by decide +kernel
theorem dX10_strokes_119 : decode cX10_strokes 119 = .ok (.iload_n 1, 1) := by decide +kernel
theorem dX10_strokes_120 : decode cX10_strokes 120 = .ok (.bipush 103, 2) := by decide +kernel
theorem dX10_strokes_122 : decode cX10_strokes 122 = .ok (.if_icmp .ne 7, 3) := by decide +kernel
theorem dX10_strokes_125 : decode cX10_strokes 125 = .ok (.iload_n 2, 1) := by decide +kernel
theorem dX10_strokes_126 : decode cX10_strokes 126 = .ok (.goto 16, 3) := by decide +kernel
theorem dX10_strokes_129 : decode cX10_strokes 129 = .ok (.aload_n 0, 1) := by decide +kernel
theorem dX10_strokes_130 : decode cX10_strokes 130 = .ok (.getfield 89, 3) := by decide +kernel
theorem dX10_strokes_133 : decode cX10_strokes 133 = .ok (.ifCond .ne 8, 3) := by decide +kernel
theorem dX10_strokes_136 : decode cX10_strokes 136 = .ok (.bipush (-5), 2) := by decide +kernel
theorem dX10_strokes_138 : decode cX10_strokes 138 = .ok (.goto 4, 3) := by decide +kernel
theorem dX10_strokes_141 : decode cX10_strokes 141 = .ok (.iload_n 3, 1) := by decide +kernel
theorem dX10_strokes_142 : decode cX10_strokes 142 = .ok (.ireturn, 1) := by decide +kernel
def m_X10_strokes_78 : Nat → Int32 → Int32 → Int32 → Int32 → Mm → Option (Int32 × Mm)
  | 0, _, _, _, _, _ => none
  | n + 1, x1, x2, x3, x4, g => (if (rdI g 40 4) ≤ x4 then (if x1 = (103 : Int32) then some (x2, g) else (if (rdI g 40 4) = (0 : Int32) then some ((-5 : Int32), g) else some (x3, g))) else bdd (m_X10_costOf x4 g) (fun ra4 ga5 => bdd (m_X10_costOf x4 ga5) (fun ra7 ga8 => bdd (m_X10_costOf x3 ga8) (fun ra10 ga11 => (if ra7 ≤ ra10 then m_X10_strokes_78 n x1 (x2 + ra4) x3 (x4 + (1 : Int32)) ga11 else m_X10_strokes_78 n x1 (x2 + ra4) x4 (x4 + (1 : Int32)) ga11)))))
set_option maxHeartbeats 2000000 in
theorem t_X10_strokes_78 {r2 : Int32} {g2 : Mm} (X : gx_X p R s m args meth c D al cI cJ A RX10 cX10_strokes 5 (some .int) d 0 0) (hd : 3 ≤ d) : ∀ (n : Nat) (x1 : Int32) (x2 : Int32) (x3 : Int32) (x4 : Int32) (g : Mm), m_X10_strokes_78 n x1 x2 x3 x4 g = some (r2, g2) → gx_G p l e R s m args below meth c (gx_Q below args s D al cI cJ A (some (.int r2)) g2) D al cI cJ A 5 0 0 78 [(0, .ref (al (40))), (1, .int (x1)), (2, .int (x2)), (3, .int (x3)), (4, .int (x4))] [] g := by
  intro n
  induction n with
  | zero => intro x1 x2 x3 x4 g h; cases h
  | succ n ih =>
    intro x1 x2 x3 x4 g h
    rw [m_X10_strokes_78] at h
    refine gx_iload X 4 rfl dX10_strokes_78 ?_
    refine gx_aload_n X 0 rfl dX10_strokes_80 ?_
    refine gx_getf X (40) lf_X10_89 (by decide) (cl_40 _ _) (v := .int ((rdI g 40 4))) rfl dX10_strokes_81 ?_
    refine gx_icmp_ge X 119 dX10_strokes_84 (by decide) (fun q1 => ?_) (fun q1 => ?_)
    · replace h := (if_pos q1).symm.trans h
      refine gx_iload_n X 1 rfl dX10_strokes_119 ?_
      refine gx_bipush X (v := (103 : Int32)) dX10_strokes_120 (by decide) ?_
      refine gx_icmp_ne X 129 dX10_strokes_122 (by decide) (fun q2 => ?_) (fun q2 => ?_)
      · replace h := (if_neg q2).symm.trans h
        refine gx_aload_n X 0 rfl dX10_strokes_129 ?_
        refine gx_getf X (40) lf_X10_89 (by decide) (cl_40 _ _) (v := .int ((rdI g 40 4))) rfl dX10_strokes_130 ?_
        refine gx_if_ne X 141 dX10_strokes_133 (by decide) (fun q3 => ?_) (fun q3 => ?_)
        · replace h := (if_neg q3).symm.trans h
          refine gx_iload_n X 3 rfl dX10_strokes_141 ?_
          obtain ⟨rfl, rfl⟩ := ret_eq h
          exact gx_iret X rfl dX10_strokes_142
        · replace h := (if_pos q3).symm.trans h
          refine gx_bipush X (v := (-5 : Int32)) dX10_strokes_136 (by decide) ?_
          refine gx_goto X 142 dX10_strokes_138 (by decide) ?_
          obtain ⟨rfl, rfl⟩ := ret_eq h
          exact gx_iret X rfl dX10_strokes_142
      · replace h := (if_pos q2).symm.trans h
        refine gx_iload_n X 2 rfl dX10_strokes_125 ?_
        refine gx_goto X 142 dX10_strokes_126 (by decide) ?_
        obtain ⟨rfl, rfl⟩ := ret_eq h
        exact gx_iret X rfl dX10_strokes_142
    · replace h := (if_neg q1).symm.trans h
      refine gx_iload_n X 2 rfl dX10_strokes_87 ?_
      refine gx_aload_n X 0 rfl dX10_strokes_88 ?_
      refine gx_iload X 4 rfl dX10_strokes_89 ?_
      obtain ⟨ra4, ga5, ca6, h⟩ := bdd_eq h
      refine gx_callVi X (40) (c_X10_costOf ca6) lc_X10_costOf li_X10_costOf lm_X10_282 (by decide) (cl_40 _ _) rfl rfl rfl (Nat.le_trans (by decide) hd) rfl (Nat.le_of_ble_eq_true rfl) dX10_strokes_91 ?_
      refine gx_iadd X dX10_strokes_94 ?_
      refine gx_istore_n X [(2, .int ((x2 + ra4))), (0, .ref (al (40))), (1, .int (x1)), (3, .int (x3)), (4, .int (x4))] dX10_strokes_95 (by decide) rfl ?_
      refine gx_aload_n X 1 rfl dX10_strokes_96 ?_
      refine gx_iload X 4 rfl dX10_strokes_97 ?_
      obtain ⟨ra7, ga8, ca9, h⟩ := bdd_eq h
      refine gx_callVi X (40) (c_X10_costOf ca9) lc_X10_costOf li_X10_costOf lm_X10_282 (by decide) (cl_40 _ _) rfl rfl rfl (Nat.le_trans (by decide) hd) rfl (Nat.le_of_ble_eq_true rfl) dX10_strokes_99 ?_
      refine gx_aload_n X 1 rfl dX10_strokes_102 ?_
      refine gx_iload_n X 3 rfl dX10_strokes_103 ?_
      obtain ⟨ra10, ga11, ca12, h⟩ := bdd_eq h
      refine gx_callVi X (40) (c_X10_costOf ca12) lc_X10_costOf li_X10_costOf lm_X10_282 (by decide) (cl_40 _ _) rfl rfl rfl (Nat.le_trans (by decide) hd) rfl (Nat.le_of_ble_eq_true rfl) dX10_strokes_104 ?_
      refine gx_icmp_le X 113 dX10_strokes_107 (by decide) (fun q13 => ?_) (fun q13 => ?_)
      · replace h := (if_pos q13).symm.trans h
        refine gx_iinc X [(4, .int ((x4 + (1 : Int32)))), (2, .int ((x2 + ra4))), (0, .ref (al (40))), (1, .int (x1)), (3, .int (x3))] 4 dX10_strokes_113 rfl rfl (by decide) rfl ?_
        refine gx_goto X 78 dX10_strokes_116 (by decide) ?_
        exact gx_sub [2, 3, 1, 4, 0] rfl (ih x1 (x2 + ra4) x3 (x4 + (1 : Int32)) ga11 h)
      · replace h := (if_neg q13).symm.trans h
        refine gx_iload X 4 rfl dX10_strokes_110 ?_
        refine gx_istore_n X [(3, .int (x4)), (2, .int ((x2 + ra4))), (0, .ref (al (40))), (1, .int (x1)), (4, .int (x4))] dX10_strokes_112 (by decide) rfl ?_
        refine gx_iinc X [(4, .int ((x4 + (1 : Int32)))), (3, .int (x4)), (2, .int ((x2 + ra4))), (0, .ref (al (40))), (1, .int (x1))] 4 dX10_strokes_113 rfl rfl (by decide) rfl ?_
        refine gx_goto X 78 dX10_strokes_116 (by decide) ?_
        exact gx_sub [3, 4, 2, 1, 0] rfl (ih x1 (x2 + ra4) x4 (x4 + (1 : Int32)) ga11 h)
def m_X10_strokes (a1 : Int32) (g : Mm) : Option (Int32 × Mm) := bdd (m_X10_isHour a1 g) (fun ra1 ga2 => (if ra1 = (0 : Int32) then bdd (m_X10_in (a1.toInt64) (100 : Int64) (104 : Int64) ga2) (fun ra5 ga6 => (if ra5 = (0 : Int32) then some ((-1 : Int32), ga6) else (if a1 = (100 : Int32) then bdd (m_X10_sumAll  ga6) (fun ra21 ga22 => some (((2 : Int32) * ra21), ga22)) else (if (103 : Int32) ≤ a1 then m_X10_strokes_78 fuL a1 (0 : Int32) (0 : Int32) (0 : Int32) ga6 else (if a1 = (101 : Int32) then bdd (m_X10_worst  ga6) (fun ra15 ga16 => bdd (m_X10_strokesOf ra15 ga16) (fun ra18 ga19 => some (ra18, ga19))) else bdd (m_X10_worst  ga6) (fun ra12 ga13 => some (ra12, ga13))))))) else bdd (m_X10_strokesOf a1 ga2) (fun ra24 ga25 => some (ra24, ga25))))
set_option maxHeartbeats 2000000 in
theorem c_X10_strokes {r2 : Int32} {g g2 : Mm} {a1 : Int32} (h : m_X10_strokes a1 g = some (r2, g2)) : gx_M 3 yX10_strokes cX10_strokes 5 (some .int) (fun al => [.ref (al (40)), .int (a1)]) g (some (.int r2)) g2 := by
  have hd : 3 ≤ 3 := Nat.le_refl _
  refine gx_M.of (by decide +kernel) (fun _ => Nat.le_of_ble_eq_true rfl) ?_
  intro p l e R s m args below meth c D al cI cJ A X
  refine gx_eq (pc' := 0) (ls' := [(0, .ref (al (40))), (1, .int (a1))]) (st' := []) (g' := g) ⟨rfl, rfl, rfl, rfl⟩ ?_
  unfold m_X10_strokes at h
  refine gx_aload_n X 0 rfl dX10_strokes_0 ?_
  refine gx_iload_n X 1 rfl dX10_strokes_1 ?_
  obtain ⟨ra1, ga2, ca3, h⟩ := bdd_eq h
  refine gx_callVi X (40) (c_X10_isHour ca3) lc_X10_isHour li_X10_isHour lm_X10_96 (by decide) (cl_40 _ _) rfl rfl rfl (Nat.le_trans (by decide) hd) rfl (Nat.le_of_ble_eq_true rfl) dX10_strokes_2 ?_
  refine gx_if_eq X 14 dX10_strokes_5 (by decide) (fun q4 => ?_) (fun q4 => ?_)
  · replace h := (if_pos q4).symm.trans h
    refine gx_iload_n X 1 rfl dX10_strokes_14 ?_
    refine gx_i2l X dX10_strokes_15 ?_
    refine gx_ldc2 X (v := (100 : Int64)) lk_X10_275 dX10_strokes_16 ?_
    refine gx_ldc2 X (v := (104 : Int64)) lk_X10_277 dX10_strokes_19 ?_
    obtain ⟨ra5, ga6, ca7, h⟩ := bdd_eq h
    refine gx_callSi X (c_X10_in ca7) lc_X10_in li_X10_in lm_X10_92 rfl rfl (Nat.le_trans (by decide) hd) rfl (Nat.le_of_ble_eq_true rfl) dX10_strokes_22 ?_
    refine gx_if_ne X 30 dX10_strokes_25 (by decide) (fun q8 => ?_) (fun q8 => ?_)
    · replace h := (if_neg q8).symm.trans h
      refine gx_iload_n X 1 rfl dX10_strokes_30 ?_
      refine gx_bipush X (v := (100 : Int32)) dX10_strokes_31 (by decide) ?_
      refine gx_icmp_ne X 43 dX10_strokes_33 (by decide) (fun q9 => ?_) (fun q9 => ?_)
      · replace h := (if_neg q9).symm.trans h
        refine gx_iload_n X 1 rfl dX10_strokes_43 ?_
        refine gx_bipush X (v := (103 : Int32)) dX10_strokes_44 (by decide) ?_
        refine gx_icmp_ge X 71 dX10_strokes_46 (by decide) (fun q10 => ?_) (fun q10 => ?_)
        · replace h := (if_pos q10).symm.trans h
          refine gx_iconst X (v := (0 : Int32)) dX10_strokes_71 (by decide) ?_
          refine gx_istore_n X [(2, .int ((0 : Int32))), (0, .ref (al (40))), (1, .int (a1))] dX10_strokes_72 (by decide) rfl ?_
          refine gx_iconst X (v := (0 : Int32)) dX10_strokes_73 (by decide) ?_
          refine gx_istore_n X [(3, .int ((0 : Int32))), (2, .int ((0 : Int32))), (0, .ref (al (40))), (1, .int (a1))] dX10_strokes_74 (by decide) rfl ?_
          refine gx_iconst X (v := (0 : Int32)) dX10_strokes_75 (by decide) ?_
          refine gx_istore X [(4, .int ((0 : Int32))), (3, .int ((0 : Int32))), (2, .int ((0 : Int32))), (0, .ref (al (40))), (1, .int (a1))] dX10_strokes_76 (by decide) rfl ?_
          exact gx_sub [3, 4, 2, 1, 0] rfl (t_X10_strokes_78 X hd fuL a1 (0 : Int32) (0 : Int32) (0 : Int32) ga6 h)
        · replace h := (if_neg q10).symm.trans h
          refine gx_iload_n X 1 rfl dX10_strokes_49 ?_
          refine gx_bipush X (v := (101 : Int32)) dX10_strokes_50 (by decide) ?_
          refine gx_icmp_ne X 66 dX10_strokes_52 (by decide) (fun q11 => ?_) (fun q11 => ?_)
          · replace h := (if_neg q11).symm.trans h
            refine gx_aload_n X 0 rfl dX10_strokes_66 ?_
            obtain ⟨ra12, ga13, ca14, h⟩ := bdd_eq h
            refine gx_callVi X (40) (c_X10_worst ca14) lc_X10_worst li_X10_worst lm_X10_279 (by decide) (cl_40 _ _) rfl rfl rfl (Nat.le_trans (by decide) hd) rfl (Nat.le_of_ble_eq_true rfl) dX10_strokes_67 ?_
            obtain ⟨rfl, rfl⟩ := ret_eq h
            exact gx_iret X rfl dX10_strokes_70
          · replace h := (if_pos q11).symm.trans h
            refine gx_aload_n X 0 rfl dX10_strokes_55 ?_
            refine gx_aload_n X 0 rfl dX10_strokes_56 ?_
            obtain ⟨ra15, ga16, ca17, h⟩ := bdd_eq h
            refine gx_callVi X (40) (c_X10_worst ca17) lc_X10_worst li_X10_worst lm_X10_279 (by decide) (cl_40 _ _) rfl rfl rfl (Nat.le_trans (by decide) hd) rfl (Nat.le_of_ble_eq_true rfl) dX10_strokes_57 ?_
            obtain ⟨ra18, ga19, ca20, h⟩ := bdd_eq h
            refine gx_callVi X (40) (c_X10_strokesOf ca20) lc_X10_strokesOf li_X10_strokesOf lm_X10_272 (by decide) (cl_40 _ _) rfl rfl rfl (Nat.le_trans (by decide) hd) rfl (Nat.le_of_ble_eq_true rfl) dX10_strokes_60 ?_
            refine gx_goto X 70 dX10_strokes_63 (by decide) ?_
            obtain ⟨rfl, rfl⟩ := ret_eq h
            exact gx_iret X rfl dX10_strokes_70
      · replace h := (if_pos q9).symm.trans h
        refine gx_iconst X (v := (2 : Int32)) dX10_strokes_36 (by decide) ?_
        refine gx_aload_n X 0 rfl dX10_strokes_37 ?_
        obtain ⟨ra21, ga22, ca23, h⟩ := bdd_eq h
        refine gx_callVi X (40) (c_X10_sumAll ca23) lc_X10_sumAll li_X10_sumAll lm_X10_219 (by decide) (cl_40 _ _) rfl rfl rfl (Nat.le_trans (by decide) hd) rfl (Nat.le_of_ble_eq_true rfl) dX10_strokes_38 ?_
        refine gx_imul X dX10_strokes_41 ?_
        obtain ⟨rfl, rfl⟩ := ret_eq h
        exact gx_iret X rfl dX10_strokes_42
    · replace h := (if_pos q8).symm.trans h
      refine gx_iconst X (v := (-1 : Int32)) dX10_strokes_28 (by decide) ?_
      obtain ⟨rfl, rfl⟩ := ret_eq h
      exact gx_iret X rfl dX10_strokes_29
  · replace h := (if_neg q4).symm.trans h
    refine gx_aload_n X 0 rfl dX10_strokes_8 ?_
    refine gx_iload_n X 1 rfl dX10_strokes_9 ?_
    obtain ⟨ra24, ga25, ca26, h⟩ := bdd_eq h
    refine gx_callVi X (40) (c_X10_strokesOf ca26) lc_X10_strokesOf li_X10_strokesOf lm_X10_272 (by decide) (cl_40 _ _) rfl rfl rfl (Nat.le_trans (by decide) hd) rfl (Nat.le_of_ble_eq_true rfl) dX10_strokes_10 ?_
    obtain ⟨rfl, rfl⟩ := ret_eq h
    exact gx_iret X rfl dX10_strokes_13
theorem dX10_sum_0 : decode cX10_sum 0 = .ok (.aload_n 0, 1) := by decide +kernel
theorem dX10_sum_1 : decode cX10_sum 1 = .ok (.iload_n 1, 1) := by decide +kernel
theorem dX10_sum_2 : decode cX10_sum 2 = .ok (.invokevirtual 100, 3) := by decide +kernel
theorem dX10_sum_5 : decode cX10_sum 5 = .ok (.ifCond .eq 29, 3) := by decide +kernel
theorem dX10_sum_8 : decode cX10_sum 8 = .ok (.iload_n 2, 1) := by decide +kernel
theorem dX10_sum_9 : decode cX10_sum 9 = .ok (.ifCond .lt 25, 3) := by decide +kernel
theorem dX10_sum_12 : decode cX10_sum 12 = .ok (.aload_n 0, 1) := by decide +kernel
theorem dX10_sum_13 : decode cX10_sum 13 = .ok (.iload_n 2, 1) := by decide +kernel
theorem dX10_sum_14 : decode cX10_sum 14 = .ok (.bipush 10, 2) := by decide +kernel
theorem dX10_sum_16 : decode cX10_sum 16 = .ok (.idiv, 1) := by decide +kernel
theorem dX10_sum_17 : decode cX10_sum 17 = .ok (.invokevirtual 100, 3) := by decide +kernel
theorem dX10_sum_20 : decode cX10_sum 20 = .ok (.ifCond .eq 14, 3) := by decide +kernel
theorem dX10_sum_23 : decode cX10_sum 23 = .ok (.aload_n 0, 1) := by decide +kernel
theorem dX10_sum_24 : decode cX10_sum 24 = .ok (.iload_n 2, 1) := by decide +kernel
theorem dX10_sum_25 : decode cX10_sum 25 = .ok (.bipush 10, 2) := by decide +kernel
theorem dX10_sum_27 : decode cX10_sum 27 = .ok (.irem, 1) := by decide +kernel
theorem dX10_sum_28 : decode cX10_sum 28 = .ok (.invokevirtual 100, 3) := by decide +kernel
theorem dX10_sum_31 : decode cX10_sum 31 = .ok (.ifCond .ne 5, 3) := by decide +kernel
theorem dX10_sum_34 : decode cX10_sum 34 = .ok (.iconst (-1), 1) := by decide +kernel
theorem dX10_sum_35 : decode cX10_sum 35 = .ok (.ireturn, 1) := by decide +kernel
theorem dX10_sum_36 : decode cX10_sum 36 = .ok (.iload_n 2, 1) := by decide +kernel
theorem dX10_sum_37 : decode cX10_sum 37 = .ok (.bipush 10, 2) := by decide +kernel
theorem dX10_sum_39 : decode cX10_sum 39 = .ok (.idiv, 1) := by decide +kernel
theorem dX10_sum_40 : decode cX10_sum 40 = .ok (.istore_n 3, 1) := by decide +kernel
theorem dX10_sum_41 : decode cX10_sum 41 = .ok (.iload_n 2, 1) := by decide +kernel
theorem dX10_sum_42 : decode cX10_sum 42 = .ok (.bipush 10, 2) := by decide +kernel
theorem dX10_sum_44 : decode cX10_sum 44 = .ok (.irem, 1) := by decide +kernel
theorem dX10_sum_45 : decode cX10_sum 45 = .ok (.istore 4, 2) := by decide +kernel
theorem dX10_sum_47 : decode cX10_sum 47 = .ok (.iload_n 3, 1) := by decide +kernel
theorem dX10_sum_48 : decode cX10_sum 48 = .ok (.iload 4, 2) := by decide +kernel
theorem dX10_sum_50 : decode cX10_sum 50 = .ok (.if_icmp .eq 14, 3) := by decide +kernel
theorem dX10_sum_53 : decode cX10_sum 53 = .ok (.iload_n 3, 1) := by decide +kernel
theorem dX10_sum_54 : decode cX10_sum 54 = .ok (.iload_n 1, 1) := by decide +kernel
theorem dX10_sum_55 : decode cX10_sum 55 = .ok (.if_icmp .eq 9, 3) := by decide +kernel
theorem dX10_sum_58 : decode cX10_sum 58 = .ok (.iload 4, 2) := by decide +kernel
theorem dX10_sum_60 : decode cX10_sum 60 = .ok (.iload_n 1, 1) := by decide +kernel
theorem dX10_sum_61 : decode cX10_sum 61 = .ok (.if_icmp .ne 5, 3) := by decide +kernel
theorem dX10_sum_64 : decode cX10_sum 64 = .ok (.iconst (-1), 1) := by decide +kernel
theorem dX10_sum_65 : decode cX10_sum 65 = .ok (.ireturn, 1) := by decide +kernel
theorem dX10_sum_66 : decode cX10_sum 66 = .ok (.aload_n 0, 1) := by decide +kernel
theorem dX10_sum_67 : decode cX10_sum 67 = .ok (.invokevirtual 111, 3) := by decide +kernel
theorem dX10_sum_70 : decode cX10_sum 70 = .ok (.iconst 0, 1) := by decide +kernel
theorem dX10_sum_71 : decode cX10_sum 71 = .ok (.istore 5, 2) := by decide +kernel
theorem dX10_sum_73 : decode cX10_sum 73 = .ok (.iload 5, 2) := by decide +kernel
theorem dX10_sum_75 : decode cX10_sum 75 = .ok (.aload_n 0, 1) := by decide +kernel
theorem dX10_sum_76 : decode cX10_sum 76 = .ok (.getfield 21, 3) := by decide +kernel
theorem dX10_sum_79 : decode cX10_sum 79 = .ok (.if_icmp .ge 56, 3) := by decide +kernel
theorem dX10_sum_82 : decode cX10_sum 82 = .ok (.aload_n 0, 1) := by decide +kernel
theorem dX10_sum_83 : decode cX10_sum 83 = .ok (.getfield 28, 3) := by decide +kernel
theorem dX10_sum_86 : decode cX10_sum 86 = .ok (.bipush 6, 2) := by decide +kernel
theorem dX10_sum_88 : decode cX10_sum 88 = .ok (.iload 5, 2) := by decide +kernel
theorem dX10_sum_90 : decode cX10_sum 90 = .ok (.imul, 1) := by decide +kernel
theorem dX10_sum_91 : decode cX10_sum 91 = .ok (.iload_n 1, 1) := by decide +kernel
theorem dX10_sum_92 : decode cX10_sum 92 = .ok (.iadd, 1) := by decide +kernel
theorem dX10_sum_93 : decode cX10_sum 93 = .ok (.aload_n 0, 1) := by decide +kernel
theorem dX10_sum_94 : decode cX10_sum 94 = .ok (.getfield 28, 3) := by decide +kernel
theorem dX10_sum_97 : decode cX10_sum 97 = .ok (.bipush 6, 2) := by decide +kernel
theorem dX10_sum_99 : decode cX10_sum 99 = .ok (.iload 5, 2) := by decide +kernel
theorem dX10_sum_101 : decode cX10_sum 101 = .ok (.imul, 1) := by decide +kernel
theorem dX10_sum_102 : decode cX10_sum 102 = .ok (.iload_n 3, 1) := by decide +kernel
theorem dX10_sum_103 : decode cX10_sum 103 = .ok (.iadd, 1) := by decide +kernel
theorem dX10_sum_104 : decode cX10_sum 104 = .ok (.iaload, 1) := by decide +kernel
theorem dX10_sum_105 : decode cX10_sum 105 = .ok (.aload_n 0, 1) := by decide +kernel
theorem dX10_sum_106 : decode cX10_sum 106 = .ok (.getfield 28, 3) := by decide +kernel
theorem dX10_sum_109 : decode cX10_sum 109 = .ok (.bipush 6, 2) := by decide +kernel
theorem dX10_sum_111 : decode cX10_sum 111 = .ok (.iload 5, 2) := by decide +kernel
theorem dX10_sum_113 : decode cX10_sum 113 = .ok (.imul, 1) := by decide +kernel
theorem dX10_sum_114 : decode cX10_sum 114 = .ok (.iload 4, 2) := by decide +kernel
theorem dX10_sum_116 : decode cX10_sum 116 = .ok (.iadd, 1) := by decide +kernel
theorem dX10_sum_117 : decode cX10_sum 117 = .ok (.iaload, 1) := by decide +kernel
theorem dX10_sum_118 : decode cX10_sum 118 = .ok (.iadd, 1) := by decide +kernel
theorem dX10_sum_119 : decode cX10_sum 119 = .ok (.aload_n 0, 1) := by decide +kernel
theorem dX10_sum_120 : decode cX10_sum 120 = .ok (.getfield 9, 3) := by decide +kernel
theorem dX10_sum_123 : decode cX10_sum 123 = .ok (.iload_n 1, 1) := by decide +kernel
theorem dX10_sum_124 : decode cX10_sum 124 = .ok (.iaload, 1) := by decide +kernel
theorem dX10_sum_125 : decode cX10_sum 125 = .ok (.iconst 1, 1) := by decide +kernel
theorem dX10_sum_126 : decode cX10_sum 126 = .ok (.iadd, 1) := by decide +kernel
theorem dX10_sum_127 : decode cX10_sum 127 = .ok (.irem, 1) := by decide +kernel
theorem dX10_sum_128 : decode cX10_sum 128 = .ok (.iastore, 1) := by decide +kernel
theorem dX10_sum_129 : decode cX10_sum 129 = .ok (.iinc 5 1, 3) := by decide +kernel
theorem dX10_sum_132 : decode cX10_sum 132 = .ok (.goto (-59), 3) := by decide +kernel
theorem dX10_sum_135 : decode cX10_sum 135 = .ok (.aload_n 0, 1) := by decide +kernel
theorem dX10_sum_136 : decode cX10_sum 136 = .ok (.iload_n 1, 1) := by decide +kernel
theorem dX10_sum_137 : decode cX10_sum 137 = .ok (.invokevirtual 226, 3) := by decide +kernel
theorem dX10_sum_140 : decode cX10_sum 140 = .ok (.ireturn, 1) := by decide +kernel
def m_X10_sum_73 : Nat → Int32 → Int32 → Int32 → Int32 → Mm → Option (Int32 × Mm)
  | 0, _, _, _, _, _ => none
  | n + 1, x1, x3, x4, x5, g => (if (rdI g 40 5) ≤ x5 then bdd (m_X10_sumOf x1 g) (fun ra2 ga3 => some (ra2, ga3)) else gdd (ixo (((6 : Int32) * x5) + x3) 144) (gdd (ixo (((6 : Int32) * x5) + x4) 144) (gdd (ixo x1 6) (gdd (decide (¬ ((rdI g 41 x1.toNatClampNeg) + (1 : Int32)) = 0)) (gdd (ixo (((6 : Int32) * x5) + x1) 144) (m_X10_sum_73 n x1 x3 x4 (x5 + (1 : Int32)) (wrI g 44 (((6 : Int32) * x5) + x1).toNatClampNeg (rmI ((rdI g 44 (((6 : Int32) * x5) + x3).toNatClampNeg) + (rdI g 44 (((6 : Int32) * x5) + x4).toNatClampNeg)) ((rdI g 41 x1.toNatClampNeg) + (1 : Int32))))))))))
set_option maxHeartbeats 2000000 in
theorem t_X10_sum_73 {r2 : Int32} {g2 : Mm} (X : gx_X p R s m args meth c D al cI cJ A RX10 cX10_sum 6 (some .int) d 0 0) (hd : 3 ≤ d) : ∀ (n : Nat) (x1 : Int32) (x3 : Int32) (x4 : Int32) (x5 : Int32) (g : Mm), m_X10_sum_73 n x1 x3 x4 x5 g = some (r2, g2) → gx_G p l e R s m args below meth c (gx_Q below args s D al cI cJ A (some (.int r2)) g2) D al cI cJ A 6 0 0 73 [(0, .ref (al (40))), (1, .int (x1)), (3, .int (x3)), (4, .int (x4)), (5, .int (x5))] [] g := by
  intro n
  induction n with
  | zero => intro x1 x3 x4 x5 g h; cases h
  | succ n ih =>
    intro x1 x3 x4 x5 g h
    rw [m_X10_sum_73] at h
    refine gx_iload X 4 rfl dX10_sum_73 ?_
    refine gx_aload_n X 0 rfl dX10_sum_75 ?_
    refine gx_getf X (40) lf_X10_21 (by decide) (cl_40 _ _) (v := .int ((rdI g 40 5))) rfl dX10_sum_76 ?_
    refine gx_icmp_ge X 135 dX10_sum_79 (by decide) (fun q1 => ?_) (fun q1 => ?_)
    · replace h := (if_pos q1).symm.trans h
      refine gx_aload_n X 0 rfl dX10_sum_135 ?_
      refine gx_iload_n X 1 rfl dX10_sum_136 ?_
      obtain ⟨ra2, ga3, ca4, h⟩ := bdd_eq h
      refine gx_callVi X (40) (c_X10_sumOf ca4) lc_X10_sumOf li_X10_sumOf lm_X10_226 (by decide) (cl_40 _ _) rfl rfl rfl (Nat.le_trans (by decide) hd) rfl (Nat.le_of_ble_eq_true rfl) dX10_sum_137 ?_
      obtain ⟨rfl, rfl⟩ := ret_eq h
      exact gx_iret X rfl dX10_sum_140
    · replace h := (if_neg q1).symm.trans h
      refine gx_aload_n X 0 rfl dX10_sum_82 ?_
      refine gx_getf X (40) lf_X10_28 (by decide) (cl_40 _ _) (v := .ref (al (44))) rfl dX10_sum_83 ?_
      refine gx_bipush X (v := (6 : Int32)) dX10_sum_86 (by decide) ?_
      refine gx_iload X 4 rfl dX10_sum_88 ?_
      refine gx_imul X dX10_sum_90 ?_
      refine gx_iload_n X 1 rfl dX10_sum_91 ?_
      refine gx_iadd X dX10_sum_92 ?_
      refine gx_aload_n X 0 rfl dX10_sum_93 ?_
      refine gx_getf X (40) lf_X10_28 (by decide) (cl_40 _ _) (v := .ref (al (44))) rfl dX10_sum_94 ?_
      refine gx_bipush X (v := (6 : Int32)) dX10_sum_97 (by decide) ?_
      refine gx_iload X 4 rfl dX10_sum_99 ?_
      refine gx_imul X dX10_sum_101 ?_
      refine gx_iload_n X 2 rfl dX10_sum_102 ?_
      refine gx_iadd X dX10_sum_103 ?_
      obtain ⟨q5, h⟩ := gdd_eq h
      refine gx_iald X (44) 144 (by decide) (cl_44 _ _) q5 dX10_sum_104 ?_
      refine gx_aload_n X 0 rfl dX10_sum_105 ?_
      refine gx_getf X (40) lf_X10_28 (by decide) (cl_40 _ _) (v := .ref (al (44))) rfl dX10_sum_106 ?_
      refine gx_bipush X (v := (6 : Int32)) dX10_sum_109 (by decide) ?_
      refine gx_iload X 4 rfl dX10_sum_111 ?_
      refine gx_imul X dX10_sum_113 ?_
      refine gx_iload X 3 rfl dX10_sum_114 ?_
      refine gx_iadd X dX10_sum_116 ?_
      obtain ⟨q6, h⟩ := gdd_eq h
      refine gx_iald X (44) 144 (by decide) (cl_44 _ _) q6 dX10_sum_117 ?_
      refine gx_iadd X dX10_sum_118 ?_
      refine gx_aload_n X 0 rfl dX10_sum_119 ?_
      refine gx_getf X (40) lf_X10_9 (by decide) (cl_40 _ _) (v := .ref (al (41))) rfl dX10_sum_120 ?_
      refine gx_iload_n X 1 rfl dX10_sum_123 ?_
      obtain ⟨q7, h⟩ := gdd_eq h
      refine gx_iald X (41) 6 (by decide) (cl_41 _ _) q7 dX10_sum_124 ?_
      refine gx_iconst X (v := (1 : Int32)) dX10_sum_125 (by decide) ?_
      refine gx_iadd X dX10_sum_126 ?_
      obtain ⟨q8, h⟩ := gdd_eq h
      refine gx_irem X dX10_sum_127 (of_decide_eq_true q8) ?_
      obtain ⟨q9, h⟩ := gdd_eq h
      refine gx_iast X (44) 144 (by decide) (fun r => cl_44 r _) q9 dX10_sum_128 ?_
      refine gx_iinc X [(5, .int ((x5 + (1 : Int32)))), (0, .ref (al (40))), (1, .int (x1)), (3, .int (x3)), (4, .int (x4))] 4 dX10_sum_129 rfl rfl (by decide) rfl ?_
      refine gx_goto X 73 dX10_sum_132 (by decide) ?_
      exact gx_sub [1, 2, 3, 4, 0] rfl (ih x1 x3 x4 (x5 + (1 : Int32)) (wrI g 44 (((6 : Int32) * x5) + x1).toNatClampNeg (rmI ((rdI g 44 (((6 : Int32) * x5) + x3).toNatClampNeg) + (rdI g 44 (((6 : Int32) * x5) + x4).toNatClampNeg)) ((rdI g 41 x1.toNatClampNeg) + (1 : Int32)))) h)
def m_X10_sum (a1 : Int32) (a2 : Int32) (g : Mm) : Option (Int32 × Mm) := bdd (m_X10_isBell a1 g) (fun ra1 ga2 => (if ra1 = (0 : Int32) then some ((-1 : Int32), ga2) else (if a2 < (0 : Int32) then some ((-1 : Int32), ga2) else bdd (m_X10_isBell (a2 / (10 : Int32)) ga2) (fun ra6 ga7 => (if ra6 = (0 : Int32) then some ((-1 : Int32), ga7) else bdd (m_X10_isBell (rmI a2 (10 : Int32)) ga7) (fun ra10 ga11 => (if ra10 = (0 : Int32) then some ((-1 : Int32), ga11) else (if (a2 / (10 : Int32)) = (rmI a2 (10 : Int32)) then some ((-1 : Int32), ga11) else (if (a2 / (10 : Int32)) = a1 then some ((-1 : Int32), ga11) else (if (rmI a2 (10 : Int32)) = a1 then some ((-1 : Int32), ga11) else bdd (m_X10_forgets  ga11) (fun ra17 ga18 => m_X10_sum_73 fuL a1 (a2 / (10 : Int32)) (rmI a2 (10 : Int32)) (0 : Int32) ga18)))))))))))
set_option maxHeartbeats 2000000 in
theorem c_X10_sum {r2 : Int32} {g g2 : Mm} {a1 : Int32} {a2 : Int32} (h : m_X10_sum a1 a2 g = some (r2, g2)) : gx_M 3 yX10_sum cX10_sum 6 (some .int) (fun al => [.ref (al (40)), .int (a1), .int (a2)]) g (some (.int r2)) g2 := by
  have hd : 3 ≤ 3 := Nat.le_refl _
  refine gx_M.of (by decide +kernel) (fun _ => Nat.le_of_ble_eq_true rfl) ?_
  intro p l e R s m args below meth c D al cI cJ A X
  refine gx_eq (pc' := 0) (ls' := [(0, .ref (al (40))), (1, .int (a1)), (2, .int (a2))]) (st' := []) (g' := g) ⟨rfl, rfl, rfl, rfl⟩ ?_
  unfold m_X10_sum at h
  refine gx_aload_n X 0 rfl dX10_sum_0 ?_
  refine gx_iload_n X 1 rfl dX10_sum_1 ?_
  obtain ⟨ra1, ga2, ca3, h⟩ := bdd_eq h
  refine gx_callVi X (40) (c_X10_isBell ca3) lc_X10_isBell li_X10_isBell lm_X10_100 (by decide) (cl_40 _ _) rfl rfl rfl (Nat.le_trans (by decide) hd) rfl (Nat.le_of_ble_eq_true rfl) dX10_sum_2 ?_
  refine gx_if_eq X 34 dX10_sum_5 (by decide) (fun q4 => ?_) (fun q4 => ?_)
  · replace h := (if_pos q4).symm.trans h
    refine gx_iconst X (v := (-1 : Int32)) dX10_sum_34 (by decide) ?_
    obtain ⟨rfl, rfl⟩ := ret_eq h
    exact gx_iret X rfl dX10_sum_35
  · replace h := (if_neg q4).symm.trans h
    refine gx_iload_n X 2 rfl dX10_sum_8 ?_
    refine gx_if_lt X 34 dX10_sum_9 (by decide) (fun q5 => ?_) (fun q5 => ?_)
    · replace h := (if_pos q5).symm.trans h
      refine gx_iconst X (v := (-1 : Int32)) dX10_sum_34 (by decide) ?_
      obtain ⟨rfl, rfl⟩ := ret_eq h
      exact gx_iret X rfl dX10_sum_35
    · replace h := (if_neg q5).symm.trans h
      refine gx_aload_n X 0 rfl dX10_sum_12 ?_
      refine gx_iload_n X 2 rfl dX10_sum_13 ?_
      refine gx_bipush X (v := (10 : Int32)) dX10_sum_14 (by decide) ?_
      refine gx_idiv X dX10_sum_16 (by decide) ?_
      obtain ⟨ra6, ga7, ca8, h⟩ := bdd_eq h
      refine gx_callVi X (40) (c_X10_isBell ca8) lc_X10_isBell li_X10_isBell lm_X10_100 (by decide) (cl_40 _ _) rfl rfl rfl (Nat.le_trans (by decide) hd) rfl (Nat.le_of_ble_eq_true rfl) dX10_sum_17 ?_
      refine gx_if_eq X 34 dX10_sum_20 (by decide) (fun q9 => ?_) (fun q9 => ?_)
      · replace h := (if_pos q9).symm.trans h
        refine gx_iconst X (v := (-1 : Int32)) dX10_sum_34 (by decide) ?_
        obtain ⟨rfl, rfl⟩ := ret_eq h
        exact gx_iret X rfl dX10_sum_35
      · replace h := (if_neg q9).symm.trans h
        refine gx_aload_n X 0 rfl dX10_sum_23 ?_
        refine gx_iload_n X 2 rfl dX10_sum_24 ?_
        refine gx_bipush X (v := (10 : Int32)) dX10_sum_25 (by decide) ?_
        refine gx_irem X dX10_sum_27 (by decide) ?_
        obtain ⟨ra10, ga11, ca12, h⟩ := bdd_eq h
        refine gx_callVi X (40) (c_X10_isBell ca12) lc_X10_isBell li_X10_isBell lm_X10_100 (by decide) (cl_40 _ _) rfl rfl rfl (Nat.le_trans (by decide) hd) rfl (Nat.le_of_ble_eq_true rfl) dX10_sum_28 ?_
        refine gx_if_ne X 36 dX10_sum_31 (by decide) (fun q13 => ?_) (fun q13 => ?_)
        · replace h := (if_neg q13).symm.trans h
          refine gx_iload_n X 2 rfl dX10_sum_36 ?_
          refine gx_bipush X (v := (10 : Int32)) dX10_sum_37 (by decide) ?_
          refine gx_idiv X dX10_sum_39 (by decide) ?_
          refine gx_istore_n X [(3, .int ((a2 / (10 : Int32)))), (0, .ref (al (40))), (1, .int (a1)), (2, .int (a2))] dX10_sum_40 (by decide) rfl ?_
          refine gx_iload_n X 3 rfl dX10_sum_41 ?_
          refine gx_bipush X (v := (10 : Int32)) dX10_sum_42 (by decide) ?_
          refine gx_irem X dX10_sum_44 (by decide) ?_
          refine gx_istore X [(4, .int ((rmI a2 (10 : Int32)))), (3, .int ((a2 / (10 : Int32)))), (0, .ref (al (40))), (1, .int (a1)), (2, .int (a2))] dX10_sum_45 (by decide) rfl ?_
          refine gx_iload_n X 1 rfl dX10_sum_47 ?_
          refine gx_iload X 0 rfl dX10_sum_48 ?_
          refine gx_icmp_eq X 64 dX10_sum_50 (by decide) (fun q14 => ?_) (fun q14 => ?_)
          · replace h := (if_pos q14).symm.trans h
            refine gx_iconst X (v := (-1 : Int32)) dX10_sum_64 (by decide) ?_
            obtain ⟨rfl, rfl⟩ := ret_eq h
            exact gx_iret X rfl dX10_sum_65
          · replace h := (if_neg q14).symm.trans h
            refine gx_iload_n X 1 rfl dX10_sum_53 ?_
            refine gx_iload_n X 3 rfl dX10_sum_54 ?_
            refine gx_icmp_eq X 64 dX10_sum_55 (by decide) (fun q15 => ?_) (fun q15 => ?_)
            · replace h := (if_pos q15).symm.trans h
              refine gx_iconst X (v := (-1 : Int32)) dX10_sum_64 (by decide) ?_
              obtain ⟨rfl, rfl⟩ := ret_eq h
              exact gx_iret X rfl dX10_sum_65
            · replace h := (if_neg q15).symm.trans h
              refine gx_iload X 0 rfl dX10_sum_58 ?_
              refine gx_iload_n X 3 rfl dX10_sum_60 ?_
              refine gx_icmp_ne X 66 dX10_sum_61 (by decide) (fun q16 => ?_) (fun q16 => ?_)
              · replace h := (if_neg q16).symm.trans h
                refine gx_aload_n X 2 rfl dX10_sum_66 ?_
                obtain ⟨ra17, ga18, ca19, h⟩ := bdd_eq h
                refine gx_callVv X (40) (c_X10_forgets ca19) lc_X10_forgets li_X10_forgets lm_X10_111 (by decide) (cl_40 _ _) rfl rfl rfl (Nat.le_trans (by decide) hd) rfl (Nat.le_of_ble_eq_true rfl) dX10_sum_67 ?_
                refine gx_iconst X (v := (0 : Int32)) dX10_sum_70 (by decide) ?_
                refine gx_istore X [(5, .int ((0 : Int32))), (4, .int ((rmI a2 (10 : Int32)))), (3, .int ((a2 / (10 : Int32)))), (0, .ref (al (40))), (1, .int (a1)), (2, .int (a2))] dX10_sum_71 (by decide) rfl ?_
                exact gx_sub [3, 4, 2, 1, 0] rfl (t_X10_sum_73 X hd fuL a1 (a2 / (10 : Int32)) (rmI a2 (10 : Int32)) (0 : Int32) ga18 h)
              · replace h := (if_pos q16).symm.trans h
                refine gx_iconst X (v := (-1 : Int32)) dX10_sum_64 (by decide) ?_
                obtain ⟨rfl, rfl⟩ := ret_eq h
                exact gx_iret X rfl dX10_sum_65
        · replace h := (if_pos q13).symm.trans h
          refine gx_iconst X (v := (-1 : Int32)) dX10_sum_34 (by decide) ?_
          obtain ⟨rfl, rfl⟩ := ret_eq h
          exact gx_iret X rfl dX10_sum_35
theorem dX10_taken_0 : decode cX10_taken 0 = .ok (.iload_n 1, 1) := by decide +kernel
theorem dX10_taken_1 : decode cX10_taken 1 = .ok (.invokestatic 367, 3) := by decide +kernel
theorem dX10_taken_4 : decode cX10_taken 4 = .ok (.ifCond .eq 15, 3) := by decide +kernel
theorem dX10_taken_7 : decode cX10_taken 7 = .ok (.iload_n 2, 1) := by decide +kernel
theorem dX10_taken_8 : decode cX10_taken 8 = .ok (.i2l, 1) := by decide +kernel
theorem dX10_taken_9 : decode cX10_taken 9 = .ok (.lconst 0, 1) := by decide +kernel
theorem dX10_taken_10 : decode cX10_taken 10 = .ok (.ldc2_w 332, 3) := by decide +kernel
theorem dX10_taken_13 : decode cX10_taken 13 = .ok (.invokestatic 92, 3) := by decide +kernel
theorem dX10_taken_16 : decode cX10_taken 16 = .ok (.ifCond .ne 5, 3) := by decide +kernel
theorem dX10_taken_19 : decode cX10_taken 19 = .ok (.iconst (-1), 1) := by decide +kernel
theorem dX10_taken_20 : decode cX10_taken 20 = .ok (.ireturn, 1) := by decide +kernel
theorem dX10_taken_21 : decode cX10_taken 21 = .ok (.aload_n 0, 1) := by decide +kernel
theorem dX10_taken_22 : decode cX10_taken 22 = .ok (.getfield 70, 3) := by decide +kernel
theorem dX10_taken_25 : decode cX10_taken 25 = .ok (.iload_n 1, 1) := by decide +kernel
theorem dX10_taken_26 : decode cX10_taken 26 = .ok (.iaload, 1) := by decide +kernel
theorem dX10_taken_27 : decode cX10_taken 27 = .ok (.iconst 1, 1) := by decide +kernel
theorem dX10_taken_28 : decode cX10_taken 28 = .ok (.if_icmp .eq 20, 3) := by decide +kernel
theorem dX10_taken_31 : decode cX10_taken 31 = .ok (.aload_n 0, 1) := by decide +kernel
theorem dX10_taken_32 : decode cX10_taken 32 = .ok (.getfield 70, 3) := by decide +kernel
theorem dX10_taken_35 : decode cX10_taken 35 = .ok (.iload_n 1, 1) := by decide +kernel
theorem dX10_taken_36 : decode cX10_taken 36 = .ok (.iaload, 1) := by decide +kernel
theorem dX10_taken_37 : decode cX10_taken 37 = .ok (.ifCond .ne 8, 3) := by decide +kernel
theorem dX10_taken_40 : decode cX10_taken 40 = .ok (.bipush (-11), 2) := by decide +kernel
theorem dX10_taken_42 : decode cX10_taken 42 = .ok (.goto 5, 3) := by decide +kernel
theorem dX10_taken_45 : decode cX10_taken 45 = .ok (.bipush (-12), 2) := by decide +kernel
theorem dX10_taken_47 : decode cX10_taken 47 = .ok (.ireturn, 1) := by decide +kernel
theorem dX10_taken_48 : decode cX10_taken 48 = .ok (.aload_n 0, 1) := by decide +kernel
theorem dX10_taken_49 : decode cX10_taken 49 = .ok (.getfield 64, 3) := by decide +kernel
theorem dX10_taken_52 : decode cX10_taken 52 = .ok (.aload_n 0, 1) := by decide +kernel
theorem dX10_taken_53 : decode cX10_taken 53 = .ok (.getfield 73, 3) := by decide +kernel
theorem dX10_taken_56 : decode cX10_taken 56 = .ok (.iload_n 1, 1) := by decide +kernel
theorem dX10_taken_57 : decode cX10_taken 57 = .ok (.iaload, 1) := by decide +kernel
theorem dX10_taken_58 : decode cX10_taken 58 = .ok (.iaload, 1) := by decide +kernel
theorem dX10_taken_59 : decode cX10_taken 59 = .ok (.istore_n 3, 1) := by decide +kernel
theorem dX10_taken_60 : decode cX10_taken 60 = .ok (.iload_n 3, 1) := by decide +kernel
theorem dX10_taken_61 : decode cX10_taken 61 = .ok (.iconst (-1), 1) := by decide +kernel
theorem dX10_taken_62 : decode cX10_taken 62 = .ok (.if_icmp .eq 16, 3) := by decide +kernel
theorem dX10_taken_65 : decode cX10_taken 65 = .ok (.iload_n 3, 1) := by decide +kernel
theorem dX10_taken_66 : decode cX10_taken 66 = .ok (.iload_n 2, 1) := by decide +kernel
theorem dX10_taken_67 : decode cX10_taken 67 = .ok (.if_icmp .eq 11, 3) := by decide +kernel
theorem dX10_taken_70 : decode cX10_taken 70 = .ok (.iload_n 3, 1) := by decide +kernel
theorem dX10_taken_71 : decode cX10_taken 71 = .ok (.invokestatic 347, 3) := by decide +kernel
theorem dX10_taken_74 : decode cX10_taken 74 = .ok (.istore_n 3, 1) := by decide +kernel
theorem dX10_taken_75 : decode cX10_taken 75 = .ok (.goto (-15), 3) := by decide +kernel
theorem dX10_taken_78 : decode cX10_taken 78 = .ok (.iload_n 3, 1) := by decide +kernel
theorem dX10_taken_79 : decode cX10_taken 79 = .ok (.iload_n 2, 1) := by decide +kernel
theorem dX10_taken_80 : decode cX10_taken 80 = .ok (.if_icmp .ne 17, 3) := by decide +kernel
theorem dX10_taken_83 : decode cX10_taken 83 = .ok (.aload_n 0, 1) := by decide +kernel
theorem dX10_taken_84 : decode cX10_taken 84 = .ok (.getfield 64, 3) := by decide +kernel
theorem dX10_taken_87 : decode cX10_taken 87 = .ok (.aload_n 0, 1) := by decide +kernel
theorem dX10_taken_88 : decode cX10_taken 88 = .ok (.getfield 73, 3) := by decide +kernel
theorem dX10_taken_91 : decode cX10_taken 91 = .ok (.iload_n 1, 1) := by decide +kernel
theorem dX10_taken_92 : decode cX10_taken 92 = .ok (.iaload, 1) := by decide +kernel
theorem dX10_taken_93 : decode cX10_taken 93 = .ok (.iaload, 1) := by decide +kernel
theorem dX10_taken_94 : decode cX10_taken 94 = .ok (.goto 5, 3) := by decide +kernel
theorem dX10_taken_97 : decode cX10_taken 97 = .ok (.bipush (-12), 2) := by decide +kernel
theorem dX10_taken_99 : decode cX10_taken 99 = .ok (.ireturn, 1) := by decide +kernel
def m_X10_taken_78 (x1 : Int32) (x2 : Int32) (x3 : Int32) (g : Mm) : Option (Int32 × Mm) := (if x3 = x2 then gdd (ixo x1 6) (gdd (ixo (rdI g 59 x1.toNatClampNeg) 50) (some ((rdI g 56 (rdI g 59 x1.toNatClampNeg).toNatClampNeg), g))) else some ((-12 : Int32), g))
set_option maxHeartbeats 2000000 in
theorem t_X10_taken_78 {r2 : Int32} {g2 : Mm} (X : gx_X p R s m args meth c D al cI cJ A RX10 cX10_taken 4 (some .int) d 0 0) (hd : 3 ≤ d) : ∀ (x1 : Int32) (x2 : Int32) (x3 : Int32) (g : Mm), m_X10_taken_78 x1 x2 x3 g = some (r2, g2) → gx_G p l e R s m args below meth c (gx_Q below args s D al cI cJ A (some (.int r2)) g2) D al cI cJ A 4 0 0 78 [(0, .ref (al (40))), (1, .int (x1)), (2, .int (x2)), (3, .int (x3))] [] g := by
  intro x1 x2 x3 g h
  unfold m_X10_taken_78 at h
  refine gx_iload_n X 3 rfl dX10_taken_78 ?_
  refine gx_iload_n X 2 rfl dX10_taken_79 ?_
  refine gx_icmp_ne X 97 dX10_taken_80 (by decide) (fun q1 => ?_) (fun q1 => ?_)
  · replace h := (if_neg q1).symm.trans h
    refine gx_bipush X (v := (-12 : Int32)) dX10_taken_97 (by decide) ?_
    obtain ⟨rfl, rfl⟩ := ret_eq h
    exact gx_iret X rfl dX10_taken_99
  · replace h := (if_pos q1).symm.trans h
    refine gx_aload_n X 0 rfl dX10_taken_83 ?_
    refine gx_getf X (40) lf_X10_64 (by decide) (cl_40 _ _) (v := .ref (al (56))) rfl dX10_taken_84 ?_
    refine gx_aload_n X 0 rfl dX10_taken_87 ?_
    refine gx_getf X (40) lf_X10_73 (by decide) (cl_40 _ _) (v := .ref (al (59))) rfl dX10_taken_88 ?_
    refine gx_iload_n X 1 rfl dX10_taken_91 ?_
    obtain ⟨q2, h⟩ := gdd_eq h
    refine gx_iald X (59) 6 (by decide) (cl_59 _ _) q2 dX10_taken_92 ?_
    obtain ⟨q3, h⟩ := gdd_eq h
    refine gx_iald X (56) 50 (by decide) (cl_56 _ _) q3 dX10_taken_93 ?_
    refine gx_goto X 99 dX10_taken_94 (by decide) ?_
    obtain ⟨rfl, rfl⟩ := ret_eq h
    exact gx_iret X rfl dX10_taken_99
def m_X10_taken_60 : Nat → Int32 → Int32 → Int32 → Mm → Option (Int32 × Mm)
  | 0, _, _, _, _ => none
  | n + 1, x1, x2, x3, g => (if x3 = (-1 : Int32) then m_X10_taken_78 x1 x2 x3 g else (if x3 = x2 then m_X10_taken_78 x1 x2 x3 g else bdd (m_X10_above x3 g) (fun ra3 ga4 => m_X10_taken_60 n x1 x2 ra3 ga4)))
set_option maxHeartbeats 2000000 in
theorem t_X10_taken_60 {r2 : Int32} {g2 : Mm} (X : gx_X p R s m args meth c D al cI cJ A RX10 cX10_taken 4 (some .int) d 0 0) (hd : 3 ≤ d) : ∀ (n : Nat) (x1 : Int32) (x2 : Int32) (x3 : Int32) (g : Mm), m_X10_taken_60 n x1 x2 x3 g = some (r2, g2) → gx_G p l e R s m args below meth c (gx_Q below args s D al cI cJ A (some (.int r2)) g2) D al cI cJ A 4 0 0 60 [(0, .ref (al (40))), (1, .int (x1)), (2, .int (x2)), (3, .int (x3))] [] g := by
  intro n
  induction n with
  | zero => intro x1 x2 x3 g h; cases h
  | succ n ih =>
    intro x1 x2 x3 g h
    rw [m_X10_taken_60] at h
    refine gx_iload_n X 3 rfl dX10_taken_60 ?_
    refine gx_iconst X (v := (-1 : Int32)) dX10_taken_61 (by decide) ?_
    refine gx_icmp_eq X 78 dX10_taken_62 (by decide) (fun q1 => ?_) (fun q1 => ?_)
    · replace h := (if_pos q1).symm.trans h
      exact gx_sub [0, 1, 2, 3] rfl (t_X10_taken_78 X hd x1 x2 x3 g h)
    · replace h := (if_neg q1).symm.trans h
      refine gx_iload_n X 3 rfl dX10_taken_65 ?_
      refine gx_iload_n X 2 rfl dX10_taken_66 ?_
      refine gx_icmp_eq X 78 dX10_taken_67 (by decide) (fun q2 => ?_) (fun q2 => ?_)
      · replace h := (if_pos q2).symm.trans h
        exact gx_sub [0, 1, 2, 3] rfl (t_X10_taken_78 X hd x1 x2 x3 g h)
      · replace h := (if_neg q2).symm.trans h
        refine gx_iload_n X 3 rfl dX10_taken_70 ?_
        obtain ⟨ra3, ga4, ca5, h⟩ := bdd_eq h
        refine gx_callSi X (c_X10_above ca5) lc_X10_above li_X10_above lm_X10_347 rfl rfl (Nat.le_trans (by decide) hd) rfl (Nat.le_of_ble_eq_true rfl) dX10_taken_71 ?_
        refine gx_istore_n X [(3, .int (ra3)), (0, .ref (al (40))), (1, .int (x1)), (2, .int (x2))] dX10_taken_74 (by decide) rfl ?_
        refine gx_goto X 60 dX10_taken_75 (by decide) ?_
        exact gx_sub [1, 2, 3, 0] rfl (ih x1 x2 ra3 ga4 h)
def m_X10_taken (a1 : Int32) (a2 : Int32) (g : Mm) : Option (Int32 × Mm) := bdd (m_X10_isShelf a1 g) (fun ra1 ga2 => (if ra1 = (0 : Int32) then some ((-1 : Int32), ga2) else bdd (m_X10_in (a2.toInt64) (0 : Int64) (7 : Int64) ga2) (fun ra5 ga6 => (if ra5 = (0 : Int32) then some ((-1 : Int32), ga6) else gdd (ixo a1 6) ((if (rdI ga6 58 a1.toNatClampNeg) = (1 : Int32) then gdd (ixo a1 6) (gdd (ixo (rdI ga6 59 a1.toNatClampNeg) 50) (lti (rdI ga6 56 (rdI ga6 59 a1.toNatClampNeg).toNatClampNeg) (fun v13 => m_X10_taken_60 fuL a1 a2 v13 ga6))) else gdd (ixo a1 6) ((if (rdI ga6 58 a1.toNatClampNeg) = (0 : Int32) then some ((-11 : Int32), ga6) else some ((-12 : Int32), ga6)))))))))
set_option maxHeartbeats 2000000 in
theorem c_X10_taken {r2 : Int32} {g g2 : Mm} {a1 : Int32} {a2 : Int32} (h : m_X10_taken a1 a2 g = some (r2, g2)) : gx_M 3 yX10_taken cX10_taken 4 (some .int) (fun al => [.ref (al (40)), .int (a1), .int (a2)]) g (some (.int r2)) g2 := by
  have hd : 3 ≤ 3 := Nat.le_refl _
  refine gx_M.of (by decide +kernel) (fun _ => Nat.le_of_ble_eq_true rfl) ?_
  intro p l e R s m args below meth c D al cI cJ A X
  refine gx_eq (pc' := 0) (ls' := [(0, .ref (al (40))), (1, .int (a1)), (2, .int (a2))]) (st' := []) (g' := g) ⟨rfl, rfl, rfl, rfl⟩ ?_
  unfold m_X10_taken at h
  refine gx_iload_n X 1 rfl dX10_taken_0 ?_
  obtain ⟨ra1, ga2, ca3, h⟩ := bdd_eq h
  refine gx_callSi X (c_X10_isShelf ca3) lc_X10_isShelf li_X10_isShelf lm_X10_367 rfl rfl (Nat.le_trans (by decide) hd) rfl (Nat.le_of_ble_eq_true rfl) dX10_taken_1 ?_
  refine gx_if_eq X 19 dX10_taken_4 (by decide) (fun q4 => ?_) (fun q4 => ?_)
  · replace h := (if_pos q4).symm.trans h
    refine gx_iconst X (v := (-1 : Int32)) dX10_taken_19 (by decide) ?_
    obtain ⟨rfl, rfl⟩ := ret_eq h
    exact gx_iret X rfl dX10_taken_20
  · replace h := (if_neg q4).symm.trans h
    refine gx_iload_n X 2 rfl dX10_taken_7 ?_
    refine gx_i2l X dX10_taken_8 ?_
    refine gx_lconst X (v := (0 : Int64)) dX10_taken_9 (by decide) ?_
    refine gx_ldc2 X (v := (7 : Int64)) lk_X10_332 dX10_taken_10 ?_
    obtain ⟨ra5, ga6, ca7, h⟩ := bdd_eq h
    refine gx_callSi X (c_X10_in ca7) lc_X10_in li_X10_in lm_X10_92 rfl rfl (Nat.le_trans (by decide) hd) rfl (Nat.le_of_ble_eq_true rfl) dX10_taken_13 ?_
    refine gx_if_ne X 21 dX10_taken_16 (by decide) (fun q8 => ?_) (fun q8 => ?_)
    · replace h := (if_neg q8).symm.trans h
      refine gx_aload_n X 0 rfl dX10_taken_21 ?_
      refine gx_getf X (40) lf_X10_70 (by decide) (cl_40 _ _) (v := .ref (al (58))) rfl dX10_taken_22 ?_
      refine gx_iload_n X 1 rfl dX10_taken_25 ?_
      obtain ⟨q9, h⟩ := gdd_eq h
      refine gx_iald X (58) 6 (by decide) (cl_58 _ _) q9 dX10_taken_26 ?_
      refine gx_iconst X (v := (1 : Int32)) dX10_taken_27 (by decide) ?_
      refine gx_icmp_eq X 48 dX10_taken_28 (by decide) (fun q10 => ?_) (fun q10 => ?_)
      · replace h := (if_pos q10).symm.trans h
        refine gx_aload_n X 0 rfl dX10_taken_48 ?_
        refine gx_getf X (40) lf_X10_64 (by decide) (cl_40 _ _) (v := .ref (al (56))) rfl dX10_taken_49 ?_
        refine gx_aload_n X 0 rfl dX10_taken_52 ?_
        refine gx_getf X (40) lf_X10_73 (by decide) (cl_40 _ _) (v := .ref (al (59))) rfl dX10_taken_53 ?_
        refine gx_iload_n X 1 rfl dX10_taken_56 ?_
        obtain ⟨q11, h⟩ := gdd_eq h
        refine gx_iald X (59) 6 (by decide) (cl_59 _ _) q11 dX10_taken_57 ?_
        obtain ⟨q12, h⟩ := gdd_eq h
        refine gx_iald X (56) 50 (by decide) (cl_56 _ _) q12 dX10_taken_58 ?_
        obtain ⟨v13, ev13, h⟩ := lti_eq h
        refine gx_topi ev13 ?_
        refine gx_istore_n X [(3, .int (v13)), (0, .ref (al (40))), (1, .int (a1)), (2, .int (a2))] dX10_taken_59 (by decide) rfl ?_
        exact gx_sub [1, 2, 3, 0] rfl (t_X10_taken_60 X hd fuL a1 a2 v13 ga6 h)
      · replace h := (if_neg q10).symm.trans h
        refine gx_aload_n X 0 rfl dX10_taken_31 ?_
        refine gx_getf X (40) lf_X10_70 (by decide) (cl_40 _ _) (v := .ref (al (58))) rfl dX10_taken_32 ?_
        refine gx_iload_n X 1 rfl dX10_taken_35 ?_
        obtain ⟨q14, h⟩ := gdd_eq h
        refine gx_iald X (58) 6 (by decide) (cl_58 _ _) q14 dX10_taken_36 ?_
        refine gx_if_ne X 45 dX10_taken_37 (by decide) (fun q15 => ?_) (fun q15 => ?_)
        · replace h := (if_neg q15).symm.trans h
          refine gx_bipush X (v := (-12 : Int32)) dX10_taken_45 (by decide) ?_
          obtain ⟨rfl, rfl⟩ := ret_eq h
          exact gx_iret X rfl dX10_taken_47
        · replace h := (if_pos q15).symm.trans h
          refine gx_bipush X (v := (-11 : Int32)) dX10_taken_40 (by decide) ?_
          refine gx_goto X 47 dX10_taken_42 (by decide) ?_
          obtain ⟨rfl, rfl⟩ := ret_eq h
          exact gx_iret X rfl dX10_taken_47
    · replace h := (if_pos q8).symm.trans h
      refine gx_iconst X (v := (-1 : Int32)) dX10_taken_19 (by decide) ?_
      obtain ⟨rfl, rfl⟩ := ret_eq h
      exact gx_iret X rfl dX10_taken_20
theorem dX10_tells_0 : decode cX10_tells 0 = .ok (.iload_n 1, 1) := by decide +kernel
theorem dX10_tells_1 : decode cX10_tells 1 = .ok (.i2l, 1) := by decide +kernel
theorem dX10_tells_2 : decode cX10_tells 2 = .ok (.lconst 0, 1) := by decide +kernel
theorem dX10_tells_3 : decode cX10_tells 3 = .ok (.ldc2_w 249, 3) := by decide +kernel
theorem dX10_tells_6 : decode cX10_tells 6 = .ok (.invokestatic 92, 3) := by decide +kernel
theorem dX10_tells_9 : decode cX10_tells 9 = .ok (.ifCond .ne 5, 3) := by decide +kernel
theorem dX10_tells_12 : decode cX10_tells 12 = .ok (.iconst (-1), 1) := by decide +kernel
theorem dX10_tells_13 : decode cX10_tells 13 = .ok (.ireturn, 1) := by decide +kernel
theorem dX10_tells_14 : decode cX10_tells 14 = .ok (.aload_n 0, 1) := by decide +kernel
theorem dX10_tells_15 : decode cX10_tells 15 = .ok (.getfield 89, 3) := by decide +kernel
theorem dX10_tells_18 : decode cX10_tells 18 = .ok (.ifCond .ne 6, 3) := by decide +kernel
theorem dX10_tells_21 : decode cX10_tells 21 = .ok (.bipush (-5), 2) := by decide +kernel
theorem dX10_tells_23 : decode cX10_tells 23 = .ok (.ireturn, 1) := by decide +kernel
theorem dX10_tells_24 : decode cX10_tells 24 = .ok (.aload_n 0, 1) := by decide +kernel
theorem dX10_tells_25 : decode cX10_tells 25 = .ok (.iconst 1, 1) := by decide +kernel
theorem dX10_tells_26 : decode cX10_tells 26 = .ok (.aload_n 0, 1) := by decide +kernel
theorem dX10_tells_27 : decode cX10_tells 27 = .ok (.getfield 89, 3) := by decide +kernel
theorem dX10_tells_30 : decode cX10_tells 30 = .ok (.ishl, 1) := by decide +kernel
theorem dX10_tells_31 : decode cX10_tells 31 = .ok (.iconst 1, 1) := by decide +kernel
theorem dX10_tells_32 : decode cX10_tells 32 = .ok (.isub, 1) := by decide +kernel
theorem dX10_tells_33 : decode cX10_tells 33 = .ok (.aload_n 0, 1) := by decide +kernel
theorem dX10_tells_34 : decode cX10_tells 34 = .ok (.invokevirtual 251, 3) := by decide +kernel
theorem dX10_tells_37 : decode cX10_tells 37 = .ok (.invokevirtual 254, 3) := by decide +kernel
theorem dX10_tells_40 : decode cX10_tells 40 = .ok (.istore_n 2, 1) := by decide +kernel
theorem dX10_tells_41 : decode cX10_tells 41 = .ok (.iload_n 1, 1) := by decide +kernel
theorem dX10_tells_42 : decode cX10_tells 42 = .ok (.iconst 3, 1) := by decide +kernel
theorem dX10_tells_43 : decode cX10_tells 43 = .ok (.if_icmp .ne 13, 3) := by decide +kernel
theorem dX10_tells_46 : decode cX10_tells 46 = .ok (.iload_n 2, 1) := by decide +kernel
theorem dX10_tells_47 : decode cX10_tells 47 = .ok (.ifCond .eq 7, 3) := by decide +kernel
theorem dX10_tells_50 : decode cX10_tells 50 = .ok (.iconst 1, 1) := by decide +kernel
theorem dX10_tells_51 : decode cX10_tells 51 = .ok (.goto 4, 3) := by decide +kernel
theorem dX10_tells_54 : decode cX10_tells 54 = .ok (.iconst 0, 1) := by decide +kernel
theorem dX10_tells_55 : decode cX10_tells 55 = .ok (.ireturn, 1) := by decide +kernel
theorem dX10_tells_56 : decode cX10_tells 56 = .ok (.iload_n 2, 1) := by decide +kernel
theorem dX10_tells_57 : decode cX10_tells 57 = .ok (.ifCond .eq 8, 3) := by decide +kernel
theorem dX10_tells_60 : decode cX10_tells 60 = .ok (.bipush (-2), 2) := by decide +kernel
theorem dX10_tells_62 : decode cX10_tells 62 = .ok (.goto 30, 3) := by decide +kernel
theorem dX10_tells_65 : decode cX10_tells 65 = .ok (.iload_n 1, 1) := by decide +kernel
theorem dX10_tells_66 : decode cX10_tells 66 = .ok (.ifCond .ne 10, 3) := by decide +kernel
theorem dX10_tells_69 : decode cX10_tells 69 = .ok (.aload_n 0, 1) := by decide +kernel
theorem dX10_tells_70 : decode cX10_tells 70 = .ok (.getfield 240, 3) := by decide +kernel
theorem dX10_tells_73 : decode cX10_tells 73 = .ok (.goto 19, 3) := by decide +kernel
theorem dX10_tells_76 : decode cX10_tells 76 = .ok (.iload_n 1, 1) := by decide +kernel
theorem dX10_tells_77 : decode cX10_tells 77 = .ok (.iconst 1, 1) := by decide +kernel
theorem dX10_tells_78 : decode cX10_tells 78 = .ok (.if_icmp .ne 10, 3) := by decide +kernel
theorem dX10_tells_81 : decode cX10_tells 81 = .ok (.aload_n 0, 1) := by decide +kernel
theorem dX10_tells_82 : decode cX10_tells 82 = .ok (.getfield 243, 3) := by decide +kernel
theorem dX10_tells_85 : decode cX10_tells 85 = .ok (.goto 7, 3) := by decide +kernel
theorem dX10_tells_88 : decode cX10_tells 88 = .ok (.aload_n 0, 1) := by decide +kernel
theorem dX10_tells_89 : decode cX10_tells 89 = .ok (.getfield 246, 3) := by decide +kernel
theorem dX10_tells_92 : decode cX10_tells 92 = .ok (.ireturn, 1) := by decide +kernel
def m_X10_tells (a1 : Int32) (g : Mm) : Option (Int32 × Mm) := bdd (m_X10_in (a1.toInt64) (0 : Int64) (3 : Int64) g) (fun ra1 ga2 => (if ra1 = (0 : Int32) then some ((-1 : Int32), ga2) else (if (rdI ga2 40 4) = (0 : Int32) then some ((-5 : Int32), ga2) else bdd (m_X10_heardNow  ga2) (fun ra6 ga7 => bdd (m_X10_tellsBy ((shlI (1 : Int32) (rdI ga2 40 4)) - (1 : Int32)) ra6 ga7) (fun ra9 ga10 => (if a1 = (3 : Int32) then (if ra9 = (0 : Int32) then some ((0 : Int32), ga10) else some ((1 : Int32), ga10)) else (if ra9 = (0 : Int32) then (if a1 = (0 : Int32) then some ((rdI ga10 40 29), ga10) else (if a1 = (1 : Int32) then some ((rdI ga10 40 30), ga10) else some ((rdI ga10 40 31), ga10))) else some ((-2 : Int32), ga10))))))))
set_option maxHeartbeats 2000000 in
theorem c_X10_tells {r2 : Int32} {g g2 : Mm} {a1 : Int32} (h : m_X10_tells a1 g = some (r2, g2)) : gx_M 3 yX10_tells cX10_tells 3 (some .int) (fun al => [.ref (al (40)), .int (a1)]) g (some (.int r2)) g2 := by
  have hd : 3 ≤ 3 := Nat.le_refl _
  refine gx_M.of (by decide +kernel) (fun _ => Nat.le_of_ble_eq_true rfl) ?_
  intro p l e R s m args below meth c D al cI cJ A X
  refine gx_eq (pc' := 0) (ls' := [(0, .ref (al (40))), (1, .int (a1))]) (st' := []) (g' := g) ⟨rfl, rfl, rfl, rfl⟩ ?_
  unfold m_X10_tells at h
  refine gx_iload_n X 1 rfl dX10_tells_0 ?_
  refine gx_i2l X dX10_tells_1 ?_
  refine gx_lconst X (v := (0 : Int64)) dX10_tells_2 (by decide) ?_
  refine gx_ldc2 X (v := (3 : Int64)) lk_X10_249 dX10_tells_3 ?_
  obtain ⟨ra1, ga2, ca3, h⟩ := bdd_eq h
  refine gx_callSi X (c_X10_in ca3) lc_X10_in li_X10_in lm_X10_92 rfl rfl (Nat.le_trans (by decide) hd) rfl (Nat.le_of_ble_eq_true rfl) dX10_tells_6 ?_
  refine gx_if_ne X 14 dX10_tells_9 (by decide) (fun q4 => ?_) (fun q4 => ?_)
  · replace h := (if_neg q4).symm.trans h
    refine gx_aload_n X 0 rfl dX10_tells_14 ?_
    refine gx_getf X (40) lf_X10_89 (by decide) (cl_40 _ _) (v := .int ((rdI ga2 40 4))) rfl dX10_tells_15 ?_
    refine gx_if_ne X 24 dX10_tells_18 (by decide) (fun q5 => ?_) (fun q5 => ?_)
    · replace h := (if_neg q5).symm.trans h
      refine gx_aload_n X 0 rfl dX10_tells_24 ?_
      refine gx_iconst X (v := (1 : Int32)) dX10_tells_25 (by decide) ?_
      refine gx_aload_n X 0 rfl dX10_tells_26 ?_
      refine gx_getf X (40) lf_X10_89 (by decide) (cl_40 _ _) (v := .int ((rdI ga2 40 4))) rfl dX10_tells_27 ?_
      refine gx_ishl X dX10_tells_30 ?_
      refine gx_iconst X (v := (1 : Int32)) dX10_tells_31 (by decide) ?_
      refine gx_isub X dX10_tells_32 ?_
      refine gx_aload_n X 0 rfl dX10_tells_33 ?_
      obtain ⟨ra6, ga7, ca8, h⟩ := bdd_eq h
      refine gx_callVi X (40) (c_X10_heardNow ca8) lc_X10_heardNow li_X10_heardNow lm_X10_251 (by decide) (cl_40 _ _) rfl rfl rfl (Nat.le_trans (by decide) hd) rfl (Nat.le_of_ble_eq_true rfl) dX10_tells_34 ?_
      obtain ⟨ra9, ga10, ca11, h⟩ := bdd_eq h
      refine gx_callVi X (40) (c_X10_tellsBy ca11) lc_X10_tellsBy li_X10_tellsBy lm_X10_254 (by decide) (cl_40 _ _) rfl rfl rfl (Nat.le_trans (by decide) hd) rfl (Nat.le_of_ble_eq_true rfl) dX10_tells_37 ?_
      refine gx_istore_n X [(2, .int (ra9)), (0, .ref (al (40))), (1, .int (a1))] dX10_tells_40 (by decide) rfl ?_
      refine gx_iload_n X 2 rfl dX10_tells_41 ?_
      refine gx_iconst X (v := (3 : Int32)) dX10_tells_42 (by decide) ?_
      refine gx_icmp_ne X 56 dX10_tells_43 (by decide) (fun q12 => ?_) (fun q12 => ?_)
      · replace h := (if_neg q12).symm.trans h
        refine gx_iload_n X 0 rfl dX10_tells_56 ?_
        refine gx_if_eq X 65 dX10_tells_57 (by decide) (fun q13 => ?_) (fun q13 => ?_)
        · replace h := (if_pos q13).symm.trans h
          refine gx_iload_n X 2 rfl dX10_tells_65 ?_
          refine gx_if_ne X 76 dX10_tells_66 (by decide) (fun q14 => ?_) (fun q14 => ?_)
          · replace h := (if_neg q14).symm.trans h
            refine gx_iload_n X 2 rfl dX10_tells_76 ?_
            refine gx_iconst X (v := (1 : Int32)) dX10_tells_77 (by decide) ?_
            refine gx_icmp_ne X 88 dX10_tells_78 (by decide) (fun q15 => ?_) (fun q15 => ?_)
            · replace h := (if_neg q15).symm.trans h
              refine gx_aload_n X 1 rfl dX10_tells_88 ?_
              refine gx_getf X (40) lf_X10_246 (by decide) (cl_40 _ _) (v := .int ((rdI ga10 40 31))) rfl dX10_tells_89 ?_
              obtain ⟨rfl, rfl⟩ := ret_eq h
              exact gx_iret X rfl dX10_tells_92
            · replace h := (if_pos q15).symm.trans h
              refine gx_aload_n X 1 rfl dX10_tells_81 ?_
              refine gx_getf X (40) lf_X10_243 (by decide) (cl_40 _ _) (v := .int ((rdI ga10 40 30))) rfl dX10_tells_82 ?_
              refine gx_goto X 92 dX10_tells_85 (by decide) ?_
              obtain ⟨rfl, rfl⟩ := ret_eq h
              exact gx_iret X rfl dX10_tells_92
          · replace h := (if_pos q14).symm.trans h
            refine gx_aload_n X 1 rfl dX10_tells_69 ?_
            refine gx_getf X (40) lf_X10_240 (by decide) (cl_40 _ _) (v := .int ((rdI ga10 40 29))) rfl dX10_tells_70 ?_
            refine gx_goto X 92 dX10_tells_73 (by decide) ?_
            obtain ⟨rfl, rfl⟩ := ret_eq h
            exact gx_iret X rfl dX10_tells_92
        · replace h := (if_neg q13).symm.trans h
          refine gx_bipush X (v := (-2 : Int32)) dX10_tells_60 (by decide) ?_
          refine gx_goto X 92 dX10_tells_62 (by decide) ?_
          obtain ⟨rfl, rfl⟩ := ret_eq h
          exact gx_iret X rfl dX10_tells_92
      · replace h := (if_pos q12).symm.trans h
        refine gx_iload_n X 0 rfl dX10_tells_46 ?_
        refine gx_if_eq X 54 dX10_tells_47 (by decide) (fun q16 => ?_) (fun q16 => ?_)
        · replace h := (if_pos q16).symm.trans h
          refine gx_iconst X (v := (0 : Int32)) dX10_tells_54 (by decide) ?_
          obtain ⟨rfl, rfl⟩ := ret_eq h
          exact gx_iret X rfl dX10_tells_55
        · replace h := (if_neg q16).symm.trans h
          refine gx_iconst X (v := (1 : Int32)) dX10_tells_50 (by decide) ?_
          refine gx_goto X 55 dX10_tells_51 (by decide) ?_
          obtain ⟨rfl, rfl⟩ := ret_eq h
          exact gx_iret X rfl dX10_tells_55
    · replace h := (if_pos q5).symm.trans h
      refine gx_bipush X (v := (-5 : Int32)) dX10_tells_21 (by decide) ?_
      obtain ⟨rfl, rfl⟩ := ret_eq h
      exact gx_iret X rfl dX10_tells_23
  · replace h := (if_pos q4).symm.trans h
    refine gx_iconst X (v := (-1 : Int32)) dX10_tells_12 (by decide) ?_
    obtain ⟨rfl, rfl⟩ := ret_eq h
    exact gx_iret X rfl dX10_tells_13
theorem dX10_trace_0 : decode cX10_trace 0 = .ok (.iload_n 1, 1) := by decide +kernel
theorem dX10_trace_1 : decode cX10_trace 1 = .ok (.i2l, 1) := by decide +kernel
theorem dX10_trace_2 : decode cX10_trace 2 = .ok (.lconst 0, 1) := by decide +kernel
theorem dX10_trace_3 : decode cX10_trace 3 = .ok (.aload_n 0, 1) := by decide +kernel
theorem dX10_trace_4 : decode cX10_trace 4 = .ok (.getfield 337, 3) := by decide +kernel
theorem dX10_trace_7 : decode cX10_trace 7 = .ok (.bipush 24, 2) := by decide +kernel
theorem dX10_trace_9 : decode cX10_trace 9 = .ok (.if_icmp .ge 10, 3) := by decide +kernel
theorem dX10_trace_12 : decode cX10_trace 12 = .ok (.aload_n 0, 1) := by decide +kernel
theorem dX10_trace_13 : decode cX10_trace 13 = .ok (.getfield 337, 3) := by decide +kernel
theorem dX10_trace_16 : decode cX10_trace 16 = .ok (.goto 5, 3) := by decide +kernel
theorem dX10_trace_19 : decode cX10_trace 19 = .ok (.bipush 24, 2) := by decide +kernel
theorem dX10_trace_21 : decode cX10_trace 21 = .ok (.iconst 1, 1) := by decide +kernel
theorem dX10_trace_22 : decode cX10_trace 22 = .ok (.isub, 1) := by decide +kernel
theorem dX10_trace_23 : decode cX10_trace 23 = .ok (.i2l, 1) := by decide +kernel
theorem dX10_trace_24 : decode cX10_trace 24 = .ok (.invokestatic 92, 3) := by decide +kernel
theorem dX10_trace_27 : decode cX10_trace 27 = .ok (.ifCond .eq 12, 3) := by decide +kernel
theorem dX10_trace_30 : decode cX10_trace 30 = .ok (.aload_n 0, 1) := by decide +kernel
theorem dX10_trace_31 : decode cX10_trace 31 = .ok (.getfield 67, 3) := by decide +kernel
theorem dX10_trace_34 : decode cX10_trace 34 = .ok (.iload_n 1, 1) := by decide +kernel
theorem dX10_trace_35 : decode cX10_trace 35 = .ok (.iaload, 1) := by decide +kernel
theorem dX10_trace_36 : decode cX10_trace 36 = .ok (.goto 4, 3) := by decide +kernel
theorem dX10_trace_39 : decode cX10_trace 39 = .ok (.iconst (-1), 1) := by decide +kernel
theorem dX10_trace_40 : decode cX10_trace 40 = .ok (.ireturn, 1) := by decide +kernel
def m_X10_trace_21 (x1 : Int32) (k0 : Int32) (k1 : Int64) (k2 : Int64) (g : Mm) : Option (Int32 × Mm) := bdd (m_X10_in k2 k1 ((k0 - (1 : Int32)).toInt64) g) (fun ra1 ga2 => (if ra1 = (0 : Int32) then some ((-1 : Int32), ga2) else gdd (ixo x1 24) (some ((rdI ga2 57 x1.toNatClampNeg), ga2))))
set_option maxHeartbeats 2000000 in
theorem t_X10_trace_21 {r2 : Int32} {g2 : Mm} (X : gx_X p R s m args meth c D al cI cJ A RX10 cX10_trace 2 (some .int) d 0 0) (hd : 2 ≤ d) : ∀ (x1 : Int32) (k0 : Int32) (k1 : Int64) (k2 : Int64) (g : Mm), m_X10_trace_21 x1 k0 k1 k2 g = some (r2, g2) → gx_G p l e R s m args below meth c (gx_Q below args s D al cI cJ A (some (.int r2)) g2) D al cI cJ A 2 0 0 21 [(0, .ref (al (40))), (1, .int (x1))] [.int (k0), .long (k1), .long (k2)] g := by
  intro x1 k0 k1 k2 g h
  unfold m_X10_trace_21 at h
  refine gx_iconst X (v := (1 : Int32)) dX10_trace_21 (by decide) ?_
  refine gx_isub X dX10_trace_22 ?_
  refine gx_i2l X dX10_trace_23 ?_
  obtain ⟨ra1, ga2, ca3, h⟩ := bdd_eq h
  refine gx_callSi X (c_X10_in ca3) lc_X10_in li_X10_in lm_X10_92 rfl rfl (Nat.le_trans (by decide) hd) rfl (Nat.le_of_ble_eq_true rfl) dX10_trace_24 ?_
  refine gx_if_eq X 39 dX10_trace_27 (by decide) (fun q4 => ?_) (fun q4 => ?_)
  · replace h := (if_pos q4).symm.trans h
    refine gx_iconst X (v := (-1 : Int32)) dX10_trace_39 (by decide) ?_
    obtain ⟨rfl, rfl⟩ := ret_eq h
    exact gx_iret X rfl dX10_trace_40
  · replace h := (if_neg q4).symm.trans h
    refine gx_aload_n X 0 rfl dX10_trace_30 ?_
    refine gx_getf X (40) lf_X10_67 (by decide) (cl_40 _ _) (v := .ref (al (57))) rfl dX10_trace_31 ?_
    refine gx_iload_n X 1 rfl dX10_trace_34 ?_
    obtain ⟨q5, h⟩ := gdd_eq h
    refine gx_iald X (57) 24 (by decide) (cl_57 _ _) q5 dX10_trace_35 ?_
    refine gx_goto X 40 dX10_trace_36 (by decide) ?_
    obtain ⟨rfl, rfl⟩ := ret_eq h
    exact gx_iret X rfl dX10_trace_40
def m_X10_trace (a1 : Int32) (g : Mm) : Option (Int32 × Mm) := (if (24 : Int32) ≤ (rdI g 40 42) then m_X10_trace_21 a1 (24 : Int32) (0 : Int64) (a1.toInt64) g else m_X10_trace_21 a1 (rdI g 40 42) (0 : Int64) (a1.toInt64) g)
set_option maxHeartbeats 2000000 in
theorem c_X10_trace {r2 : Int32} {g g2 : Mm} {a1 : Int32} (h : m_X10_trace a1 g = some (r2, g2)) : gx_M 2 yX10_trace cX10_trace 2 (some .int) (fun al => [.ref (al (40)), .int (a1)]) g (some (.int r2)) g2 := by
  have hd : 2 ≤ 2 := Nat.le_refl _
  refine gx_M.of (by decide +kernel) (fun _ => Nat.le_of_ble_eq_true rfl) ?_
  intro p l e R s m args below meth c D al cI cJ A X
  refine gx_eq (pc' := 0) (ls' := [(0, .ref (al (40))), (1, .int (a1))]) (st' := []) (g' := g) ⟨rfl, rfl, rfl, rfl⟩ ?_
  unfold m_X10_trace at h
  refine gx_iload_n X 1 rfl dX10_trace_0 ?_
  refine gx_i2l X dX10_trace_1 ?_
  refine gx_lconst X (v := (0 : Int64)) dX10_trace_2 (by decide) ?_
  refine gx_aload_n X 0 rfl dX10_trace_3 ?_
  refine gx_getf X (40) lf_X10_337 (by decide) (cl_40 _ _) (v := .int ((rdI g 40 42))) rfl dX10_trace_4 ?_
  refine gx_bipush X (v := (24 : Int32)) dX10_trace_7 (by decide) ?_
  refine gx_icmp_ge X 19 dX10_trace_9 (by decide) (fun q1 => ?_) (fun q1 => ?_)
  · replace h := (if_pos q1).symm.trans h
    refine gx_bipush X (v := (24 : Int32)) dX10_trace_19 (by decide) ?_
    exact gx_sub [0, 1] rfl (t_X10_trace_21 X hd a1 (24 : Int32) (0 : Int64) (a1.toInt64) g h)
  · replace h := (if_neg q1).symm.trans h
    refine gx_aload_n X 0 rfl dX10_trace_12 ?_
    refine gx_getf X (40) lf_X10_337 (by decide) (cl_40 _ _) (v := .int ((rdI g 40 42))) rfl dX10_trace_13 ?_
    refine gx_goto X 21 dX10_trace_16 (by decide) ?_
    exact gx_sub [0, 1] rfl (t_X10_trace_21 X hd a1 (rdI g 40 42) (0 : Int64) (a1.toInt64) g h)
theorem dX10_undo_0 : decode cX10_undo 0 = .ok (.aload_n 0, 1) := by decide +kernel
theorem dX10_undo_1 : decode cX10_undo 1 = .ok (.getfield 117, 3) := by decide +kernel
theorem dX10_undo_4 : decode cX10_undo 4 = .ok (.ifCond .ne 6, 3) := by decide +kernel
theorem dX10_undo_7 : decode cX10_undo 7 = .ok (.bipush (-5), 2) := by decide +kernel
theorem dX10_undo_9 : decode cX10_undo 9 = .ok (.ireturn, 1) := by decide +kernel
theorem dX10_undo_10 : decode cX10_undo 10 = .ok (.aload_n 0, 1) := by decide +kernel
theorem dX10_undo_11 : decode cX10_undo 11 = .ok (.dup, 1) := by decide +kernel
theorem dX10_undo_12 : decode cX10_undo 12 = .ok (.getfield 117, 3) := by decide +kernel
theorem dX10_undo_15 : decode cX10_undo 15 = .ok (.iconst 1, 1) := by decide +kernel
theorem dX10_undo_16 : decode cX10_undo 16 = .ok (.isub, 1) := by decide +kernel
theorem dX10_undo_17 : decode cX10_undo 17 = .ok (.putfield 117, 3) := by decide +kernel
theorem dX10_undo_20 : decode cX10_undo 20 = .ok (.aload_n 0, 1) := by decide +kernel
theorem dX10_undo_21 : decode cX10_undo 21 = .ok (.dup, 1) := by decide +kernel
theorem dX10_undo_22 : decode cX10_undo 22 = .ok (.getfield 114, 3) := by decide +kernel
theorem dX10_undo_25 : decode cX10_undo 25 = .ok (.iconst 1, 1) := by decide +kernel
theorem dX10_undo_26 : decode cX10_undo 26 = .ok (.iadd, 1) := by decide +kernel
theorem dX10_undo_27 : decode cX10_undo 27 = .ok (.putfield 114, 3) := by decide +kernel
theorem dX10_undo_30 : decode cX10_undo 30 = .ok (.aload_n 0, 1) := by decide +kernel
theorem dX10_undo_31 : decode cX10_undo 31 = .ok (.aload_n 0, 1) := by decide +kernel
theorem dX10_undo_32 : decode cX10_undo 32 = .ok (.getfield 34, 3) := by decide +kernel
theorem dX10_undo_35 : decode cX10_undo 35 = .ok (.aload_n 0, 1) := by decide +kernel
theorem dX10_undo_36 : decode cX10_undo 36 = .ok (.getfield 117, 3) := by decide +kernel
theorem dX10_undo_39 : decode cX10_undo 39 = .ok (.iaload, 1) := by decide +kernel
theorem dX10_undo_40 : decode cX10_undo 40 = .ok (.aload_n 0, 1) := by decide +kernel
theorem dX10_undo_41 : decode cX10_undo 41 = .ok (.getfield 37, 3) := by decide +kernel
theorem dX10_undo_44 : decode cX10_undo 44 = .ok (.aload_n 0, 1) := by decide +kernel
theorem dX10_undo_45 : decode cX10_undo 45 = .ok (.getfield 117, 3) := by decide +kernel
theorem dX10_undo_48 : decode cX10_undo 48 = .ok (.iaload, 1) := by decide +kernel
theorem dX10_undo_49 : decode cX10_undo 49 = .ok (.invokevirtual 120, 3) := by decide +kernel
theorem dX10_undo_52 : decode cX10_undo 52 = .ok (.aload_n 0, 1) := by decide +kernel
theorem dX10_undo_53 : decode cX10_undo 53 = .ok (.getfield 117, 3) := by decide +kernel
theorem dX10_undo_56 : decode cX10_undo 56 = .ok (.ireturn, 1) := by decide +kernel
def m_X10_undo (g : Mm) : Option (Int32 × Mm) := (if (rdI g 40 12) = (0 : Int32) then some ((-5 : Int32), g) else gdd (ixo (rdI (wrI (wrI g 40 12 ((rdI g 40 12) - (1 : Int32))) 40 13 ((rdI (wrI g 40 12 ((rdI g 40 12) - (1 : Int32))) 40 13) + (1 : Int32))) 40 12) 40) (gdd (ixo (rdI (wrI (wrI g 40 12 ((rdI g 40 12) - (1 : Int32))) 40 13 ((rdI (wrI g 40 12 ((rdI g 40 12) - (1 : Int32))) 40 13) + (1 : Int32))) 40 12) 40) (bdd (m_X10_puts (rdI (wrI (wrI g 40 12 ((rdI g 40 12) - (1 : Int32))) 40 13 ((rdI (wrI g 40 12 ((rdI g 40 12) - (1 : Int32))) 40 13) + (1 : Int32))) 46 (rdI (wrI (wrI g 40 12 ((rdI g 40 12) - (1 : Int32))) 40 13 ((rdI (wrI g 40 12 ((rdI g 40 12) - (1 : Int32))) 40 13) + (1 : Int32))) 40 12).toNatClampNeg) (rdI (wrI (wrI g 40 12 ((rdI g 40 12) - (1 : Int32))) 40 13 ((rdI (wrI g 40 12 ((rdI g 40 12) - (1 : Int32))) 40 13) + (1 : Int32))) 47 (rdI (wrI (wrI g 40 12 ((rdI g 40 12) - (1 : Int32))) 40 13 ((rdI (wrI g 40 12 ((rdI g 40 12) - (1 : Int32))) 40 13) + (1 : Int32))) 40 12).toNatClampNeg) (wrI (wrI g 40 12 ((rdI g 40 12) - (1 : Int32))) 40 13 ((rdI (wrI g 40 12 ((rdI g 40 12) - (1 : Int32))) 40 13) + (1 : Int32)))) (fun ra4 ga5 => some ((rdI ga5 40 12), ga5)))))
set_option maxHeartbeats 2000000 in
theorem c_X10_undo {r2 : Int32} {g g2 : Mm} (h : m_X10_undo g = some (r2, g2)) : gx_M 4 yX10_undo cX10_undo 1 (some .int) (fun al => [.ref (al (40))]) g (some (.int r2)) g2 := by
  have hd : 4 ≤ 4 := Nat.le_refl _
  refine gx_M.of (by decide +kernel) (fun _ => Nat.le_of_ble_eq_true rfl) ?_
  intro p l e R s m args below meth c D al cI cJ A X
  refine gx_eq (pc' := 0) (ls' := [(0, .ref (al (40)))]) (st' := []) (g' := g) ⟨rfl, rfl, rfl, rfl⟩ ?_
  unfold m_X10_undo at h
  refine gx_aload_n X 0 rfl dX10_undo_0 ?_
  refine gx_getf X (40) lf_X10_117 (by decide) (cl_40 _ _) (v := .int ((rdI g 40 12))) rfl dX10_undo_1 ?_
  refine gx_if_ne X 10 dX10_undo_4 (by decide) (fun q1 => ?_) (fun q1 => ?_)
  · replace h := (if_neg q1).symm.trans h
    refine gx_aload_n X 0 rfl dX10_undo_10 ?_
    refine gx_dup X dX10_undo_11 rfl ?_
    refine gx_getf X (40) lf_X10_117 (by decide) (cl_40 _ _) (v := .int ((rdI g 40 12))) rfl dX10_undo_12 ?_
    refine gx_iconst X (v := (1 : Int32)) dX10_undo_15 (by decide) ?_
    refine gx_isub X dX10_undo_16 ?_
    refine gx_putf X (40) ((rdI g 40 12) - (1 : Int32)) lf_X10_117 lp_X10_12 (by decide) (cl_40 _ _) (Nat.le_of_ble_eq_true rfl) rfl rfl rfl dX10_undo_17 ?_
    refine gx_aload_n X 0 rfl dX10_undo_20 ?_
    refine gx_dup X dX10_undo_21 rfl ?_
    refine gx_getf X (40) lf_X10_114 (by decide) (cl_40 _ _) (v := .int ((rdI (wrI g 40 12 ((rdI g 40 12) - (1 : Int32))) 40 13))) rfl dX10_undo_22 ?_
    refine gx_iconst X (v := (1 : Int32)) dX10_undo_25 (by decide) ?_
    refine gx_iadd X dX10_undo_26 ?_
    refine gx_putf X (40) ((rdI (wrI g 40 12 ((rdI g 40 12) - (1 : Int32))) 40 13) + (1 : Int32)) lf_X10_114 lp_X10_13 (by decide) (cl_40 _ _) (Nat.le_of_ble_eq_true rfl) rfl rfl rfl dX10_undo_27 ?_
    refine gx_aload_n X 0 rfl dX10_undo_30 ?_
    refine gx_aload_n X 0 rfl dX10_undo_31 ?_
    refine gx_getf X (40) lf_X10_34 (by decide) (cl_40 _ _) (v := .ref (al (46))) rfl dX10_undo_32 ?_
    refine gx_aload_n X 0 rfl dX10_undo_35 ?_
    refine gx_getf X (40) lf_X10_117 (by decide) (cl_40 _ _) (v := .int ((rdI (wrI (wrI g 40 12 ((rdI g 40 12) - (1 : Int32))) 40 13 ((rdI (wrI g 40 12 ((rdI g 40 12) - (1 : Int32))) 40 13) + (1 : Int32))) 40 12))) rfl dX10_undo_36 ?_
    obtain ⟨q2, h⟩ := gdd_eq h
    refine gx_iald X (46) 40 (by decide) (cl_46 _ _) q2 dX10_undo_39 ?_
    refine gx_aload_n X 0 rfl dX10_undo_40 ?_
    refine gx_getf X (40) lf_X10_37 (by decide) (cl_40 _ _) (v := .ref (al (47))) rfl dX10_undo_41 ?_
    refine gx_aload_n X 0 rfl dX10_undo_44 ?_
    refine gx_getf X (40) lf_X10_117 (by decide) (cl_40 _ _) (v := .int ((rdI (wrI (wrI g 40 12 ((rdI g 40 12) - (1 : Int32))) 40 13 ((rdI (wrI g 40 12 ((rdI g 40 12) - (1 : Int32))) 40 13) + (1 : Int32))) 40 12))) rfl dX10_undo_45 ?_
    obtain ⟨q3, h⟩ := gdd_eq h
    refine gx_iald X (47) 40 (by decide) (cl_47 _ _) q3 dX10_undo_48 ?_
    obtain ⟨ra4, ga5, ca6, h⟩ := bdd_eq h
    refine gx_callVv X (40) (c_X10_puts ca6) lc_X10_puts li_X10_puts lm_X10_120 (by decide) (cl_40 _ _) rfl rfl rfl (Nat.le_trans (by decide) hd) rfl (Nat.le_of_ble_eq_true rfl) dX10_undo_49 ?_
    refine gx_aload_n X 0 rfl dX10_undo_52 ?_
    refine gx_getf X (40) lf_X10_117 (by decide) (cl_40 _ _) (v := .int ((rdI ga5 40 12))) rfl dX10_undo_53 ?_
    obtain ⟨rfl, rfl⟩ := ret_eq h
    exact gx_iret X rfl dX10_undo_56
  · replace h := (if_pos q1).symm.trans h
    refine gx_bipush X (v := (-5 : Int32)) dX10_undo_7 (by decide) ?_
    obtain ⟨rfl, rfl⟩ := ret_eq h
    exact gx_iret X rfl dX10_undo_9
theorem dX10_which_0 : decode cX10_which 0 = .ok (.iconst 0, 1) := by decide +kernel
theorem dX10_which_1 : decode cX10_which 1 = .ok (.istore_n 1, 1) := by decide +kernel
theorem dX10_which_2 : decode cX10_which 2 = .ok (.iconst 0, 1) := by decide +kernel
theorem dX10_which_3 : decode cX10_which 3 = .ok (.istore_n 2, 1) := by decide +kernel
theorem dX10_which_4 : decode cX10_which 4 = .ok (.iload_n 2, 1) := by decide +kernel
theorem dX10_which_5 : decode cX10_which 5 = .ok (.aload_n 0, 1) := by decide +kernel
theorem dX10_which_6 : decode cX10_which 6 = .ok (.getfield 21, 3) := by decide +kernel
theorem dX10_which_9 : decode cX10_which 9 = .ok (.if_icmp .ge 85, 3) := by decide +kernel
theorem dX10_which_12 : decode cX10_which 12 = .ok (.iconst 1, 1) := by decide +kernel
theorem dX10_which_13 : decode cX10_which 13 = .ok (.istore_n 3, 1) := by decide +kernel
theorem dX10_which_14 : decode cX10_which 14 = .ok (.iconst 0, 1) := by decide +kernel
theorem dX10_which_15 : decode cX10_which 15 = .ok (.istore 4, 2) := by decide +kernel
theorem dX10_which_17 : decode cX10_which 17 = .ok (.iload 4, 2) := by decide +kernel
theorem dX10_which_19 : decode cX10_which 19 = .ok (.aload_n 0, 1) := by decide +kernel
theorem dX10_which_20 : decode cX10_which 20 = .ok (.getfield 266, 3) := by decide +kernel
theorem dX10_which_23 : decode cX10_which 23 = .ok (.if_icmp .ge 51, 3) := by decide +kernel
theorem dX10_which_26 : decode cX10_which 26 = .ok (.iload_n 3, 1) := by decide +kernel
theorem dX10_which_27 : decode cX10_which 27 = .ok (.ifCond .eq 39, 3) := by decide +kernel
theorem dX10_which_30 : decode cX10_which 30 = .ok (.aload_n 0, 1) := by decide +kernel
theorem dX10_which_31 : decode cX10_which 31 = .ok (.getfield 49, 3) := by decide +kernel
theorem dX10_which_34 : decode cX10_which 34 = .ok (.iload 4, 2) := by decide +kernel
theorem dX10_which_36 : decode cX10_which 36 = .ok (.iaload, 1) := by decide +kernel
theorem dX10_which_37 : decode cX10_which 37 = .ok (.ifCond .lt 25, 3) := by decide +kernel
theorem dX10_which_40 : decode cX10_which 40 = .ok (.aload_n 0, 1) := by decide +kernel
theorem dX10_which_41 : decode cX10_which 41 = .ok (.getfield 49, 3) := by decide +kernel
theorem dX10_which_44 : decode cX10_which 44 = .ok (.iload 4, 2) := by decide +kernel
theorem dX10_which_46 : decode cX10_which 46 = .ok (.iaload, 1) := by decide +kernel
theorem dX10_which_47 : decode cX10_which 47 = .ok (.aload_n 0, 1) := by decide +kernel
theorem dX10_which_48 : decode cX10_which 48 = .ok (.getfield 28, 3) := by decide +kernel
theorem dX10_which_51 : decode cX10_which 51 = .ok (.bipush 6, 2) := by decide +kernel
theorem dX10_which_53 : decode cX10_which 53 = .ok (.iload_n 2, 1) := by decide +kernel
theorem dX10_which_54 : decode cX10_which 54 = .ok (.imul, 1) := by decide +kernel
theorem dX10_which_55 : decode cX10_which 55 = .ok (.iload 4, 2) := by decide +kernel
theorem dX10_which_57 : decode cX10_which 57 = .ok (.iadd, 1) := by decide +kernel
theorem dX10_which_58 : decode cX10_which 58 = .ok (.iaload, 1) := by decide +kernel
theorem dX10_which_59 : decode cX10_which 59 = .ok (.if_icmp .ne 7, 3) := by decide +kernel
theorem dX10_which_62 : decode cX10_which 62 = .ok (.iconst 1, 1) := by decide +kernel
theorem dX10_which_63 : decode cX10_which 63 = .ok (.goto 4, 3) := by decide +kernel
theorem dX10_which_66 : decode cX10_which 66 = .ok (.iconst 0, 1) := by decide +kernel
theorem dX10_which_67 : decode cX10_which 67 = .ok (.istore_n 3, 1) := by decide +kernel
theorem dX10_which_68 : decode cX10_which 68 = .ok (.iinc 4 1, 3) := by decide +kernel
theorem dX10_which_71 : decode cX10_which 71 = .ok (.goto (-54), 3) := by decide +kernel
theorem dX10_which_74 : decode cX10_which 74 = .ok (.iload_n 1, 1) := by decide +kernel
theorem dX10_which_75 : decode cX10_which 75 = .ok (.iload_n 3, 1) := by decide +kernel
theorem dX10_which_76 : decode cX10_which 76 = .ok (.ifCond .eq 7, 3) := by decide +kernel
theorem dX10_which_79 : decode cX10_which 79 = .ok (.iconst 1, 1) := by decide +kernel
theorem dX10_which_80 : decode cX10_which 80 = .ok (.goto 4, 3) := by decide +kernel
theorem dX10_which_83 : decode cX10_which 83 = .ok (.iconst 0, 1) := by decide +kernel
theorem dX10_which_84 : decode cX10_which 84 = .ok (.iload_n 2, 1) := by decide +kernel
theorem dX10_which_85 : decode cX10_which 85 = .ok (.ishl, 1) := by decide +kernel
theorem dX10_which_86 : decode cX10_which 86 = .ok (.ior, 1) := by decide +kernel
theorem dX10_which_87 : decode cX10_which 87 = .ok (.istore_n 1, 1) := by decide +kernel
theorem dX10_which_88 : decode cX10_which 88 = .ok (.iinc 2 1, 3) := by decide +kernel
theorem dX10_which_91 : decode cX10_which 91 = .ok (.goto (-87), 3) := by decide +kernel
theorem dX10_which_94 : decode cX10_which 94 = .ok (.aload_n 0, 1) := by decide +kernel
theorem dX10_which_95 : decode cX10_which 95 = .ok (.iconst 0, 1) := by decide +kernel
theorem dX10_which_96 : decode cX10_which 96 = .ok (.putfield 266, 3) := by decide +kernel
theorem dX10_which_99 : decode cX10_which 99 = .ok (.iload_n 1, 1) := by decide +kernel
theorem dX10_which_100 : decode cX10_which 100 = .ok (.ireturn, 1) := by decide +kernel
def m_X10_which_17 (K4 : Int32 → Int32 → Mm → Option (Int32 × Mm)) : Nat → Int32 → Int32 → Int32 → Int32 → Mm → Option (Int32 × Mm)
  | 0, _, _, _, _, _ => none
  | n + 1, x1, x2, x3, x4, g => (if (rdI g 40 33) ≤ x4 then (if x3 = (0 : Int32) then K4 (x1 ||| (shlI (0 : Int32) x2)) (x2 + (1 : Int32)) g else K4 (x1 ||| (shlI (1 : Int32) x2)) (x2 + (1 : Int32)) g) else (if x3 = (0 : Int32) then m_X10_which_17 K4 n x1 x2 (0 : Int32) (x4 + (1 : Int32)) g else gdd (ixo x4 6) ((if (rdI g 51 x4.toNatClampNeg) < (0 : Int32) then m_X10_which_17 K4 n x1 x2 (1 : Int32) (x4 + (1 : Int32)) g else gdd (ixo x4 6) (gdd (ixo (((6 : Int32) * x2) + x4) 144) ((if (rdI g 51 x4.toNatClampNeg) = (rdI g 44 (((6 : Int32) * x2) + x4).toNatClampNeg) then m_X10_which_17 K4 n x1 x2 (1 : Int32) (x4 + (1 : Int32)) g else m_X10_which_17 K4 n x1 x2 (0 : Int32) (x4 + (1 : Int32)) g)))))))
set_option maxHeartbeats 2000000 in
theorem t_X10_which_17 {r2 : Int32} {g2 : Mm} (X : gx_X p R s m args meth c D al cI cJ A RX10 cX10_which 5 (some .int) d 0 0) (hd : 1 ≤ d) {K4 : Int32 → Int32 → Mm → Option (Int32 × Mm)} (hK4 : ∀ (u0 : Int32) (u1 : Int32) (g : Mm), K4 u0 u1 g = some (r2, g2) → gx_G p l e R s m args below meth c (gx_Q below args s D al cI cJ A (some (.int r2)) g2) D al cI cJ A 5 0 0 4 [(0, .ref (al (40))), (1, .int (u0)), (2, .int (u1))] [] g) : ∀ (n : Nat) (x1 : Int32) (x2 : Int32) (x3 : Int32) (x4 : Int32) (g : Mm), m_X10_which_17 K4 n x1 x2 x3 x4 g = some (r2, g2) → gx_G p l e R s m args below meth c (gx_Q below args s D al cI cJ A (some (.int r2)) g2) D al cI cJ A 5 0 0 17 [(0, .ref (al (40))), (1, .int (x1)), (2, .int (x2)), (3, .int (x3)), (4, .int (x4))] [] g := by
  intro n
  induction n with
  | zero => intro x1 x2 x3 x4 g h; cases h
  | succ n ih =>
    intro x1 x2 x3 x4 g h
    rw [m_X10_which_17] at h
    refine gx_iload X 4 rfl dX10_which_17 ?_
    refine gx_aload_n X 0 rfl dX10_which_19 ?_
    refine gx_getf X (40) lf_X10_266 (by decide) (cl_40 _ _) (v := .int ((rdI g 40 33))) rfl dX10_which_20 ?_
    refine gx_icmp_ge X 74 dX10_which_23 (by decide) (fun q1 => ?_) (fun q1 => ?_)
    · replace h := (if_pos q1).symm.trans h
      refine gx_iload_n X 1 rfl dX10_which_74 ?_
      refine gx_iload_n X 3 rfl dX10_which_75 ?_
      refine gx_if_eq X 83 dX10_which_76 (by decide) (fun q2 => ?_) (fun q2 => ?_)
      · replace h := (if_pos q2).symm.trans h
        refine gx_iconst X (v := (0 : Int32)) dX10_which_83 (by decide) ?_
        refine gx_iload_n X 2 rfl dX10_which_84 ?_
        refine gx_ishl X dX10_which_85 ?_
        refine gx_ior X dX10_which_86 ?_
        refine gx_istore_n X [(1, .int ((x1 ||| (shlI (0 : Int32) x2)))), (0, .ref (al (40))), (2, .int (x2)), (3, .int (x3)), (4, .int (x4))] dX10_which_87 (by decide) rfl ?_
        refine gx_iinc X [(2, .int ((x2 + (1 : Int32)))), (1, .int ((x1 ||| (shlI (0 : Int32) x2)))), (0, .ref (al (40))), (3, .int (x3)), (4, .int (x4))] 2 dX10_which_88 rfl rfl (by decide) rfl ?_
        refine gx_goto X 4 dX10_which_91 (by decide) ?_
        exact gx_sub [2, 1, 0] rfl (hK4 (x1 ||| (shlI (0 : Int32) x2)) (x2 + (1 : Int32)) g h)
      · replace h := (if_neg q2).symm.trans h
        refine gx_iconst X (v := (1 : Int32)) dX10_which_79 (by decide) ?_
        refine gx_goto X 84 dX10_which_80 (by decide) ?_
        refine gx_iload_n X 2 rfl dX10_which_84 ?_
        refine gx_ishl X dX10_which_85 ?_
        refine gx_ior X dX10_which_86 ?_
        refine gx_istore_n X [(1, .int ((x1 ||| (shlI (1 : Int32) x2)))), (0, .ref (al (40))), (2, .int (x2)), (3, .int (x3)), (4, .int (x4))] dX10_which_87 (by decide) rfl ?_
        refine gx_iinc X [(2, .int ((x2 + (1 : Int32)))), (1, .int ((x1 ||| (shlI (1 : Int32) x2)))), (0, .ref (al (40))), (3, .int (x3)), (4, .int (x4))] 2 dX10_which_88 rfl rfl (by decide) rfl ?_
        refine gx_goto X 4 dX10_which_91 (by decide) ?_
        exact gx_sub [2, 1, 0] rfl (hK4 (x1 ||| (shlI (1 : Int32) x2)) (x2 + (1 : Int32)) g h)
    · replace h := (if_neg q1).symm.trans h
      refine gx_iload_n X 3 rfl dX10_which_26 ?_
      refine gx_if_eq X 66 dX10_which_27 (by decide) (fun q3 => ?_) (fun q3 => ?_)
      · replace h := (if_pos q3).symm.trans h
        refine gx_iconst X (v := (0 : Int32)) dX10_which_66 (by decide) ?_
        refine gx_istore_n X [(3, .int ((0 : Int32))), (0, .ref (al (40))), (1, .int (x1)), (2, .int (x2)), (4, .int (x4))] dX10_which_67 (by decide) rfl ?_
        refine gx_iinc X [(4, .int ((x4 + (1 : Int32)))), (3, .int ((0 : Int32))), (0, .ref (al (40))), (1, .int (x1)), (2, .int (x2))] 4 dX10_which_68 rfl rfl (by decide) rfl ?_
        refine gx_goto X 17 dX10_which_71 (by decide) ?_
        exact gx_sub [2, 3, 4, 1, 0] rfl (ih x1 x2 (0 : Int32) (x4 + (1 : Int32)) g h)
      · replace h := (if_neg q3).symm.trans h
        refine gx_aload_n X 0 rfl dX10_which_30 ?_
        refine gx_getf X (40) lf_X10_49 (by decide) (cl_40 _ _) (v := .ref (al (51))) rfl dX10_which_31 ?_
        refine gx_iload X 4 rfl dX10_which_34 ?_
        obtain ⟨q4, h⟩ := gdd_eq h
        refine gx_iald X (51) 6 (by decide) (cl_51 _ _) q4 dX10_which_36 ?_
        refine gx_if_lt X 62 dX10_which_37 (by decide) (fun q5 => ?_) (fun q5 => ?_)
        · replace h := (if_pos q5).symm.trans h
          refine gx_iconst X (v := (1 : Int32)) dX10_which_62 (by decide) ?_
          refine gx_goto X 67 dX10_which_63 (by decide) ?_
          refine gx_istore_n X [(3, .int ((1 : Int32))), (0, .ref (al (40))), (1, .int (x1)), (2, .int (x2)), (4, .int (x4))] dX10_which_67 (by decide) rfl ?_
          refine gx_iinc X [(4, .int ((x4 + (1 : Int32)))), (3, .int ((1 : Int32))), (0, .ref (al (40))), (1, .int (x1)), (2, .int (x2))] 4 dX10_which_68 rfl rfl (by decide) rfl ?_
          refine gx_goto X 17 dX10_which_71 (by decide) ?_
          exact gx_sub [2, 3, 4, 1, 0] rfl (ih x1 x2 (1 : Int32) (x4 + (1 : Int32)) g h)
        · replace h := (if_neg q5).symm.trans h
          refine gx_aload_n X 0 rfl dX10_which_40 ?_
          refine gx_getf X (40) lf_X10_49 (by decide) (cl_40 _ _) (v := .ref (al (51))) rfl dX10_which_41 ?_
          refine gx_iload X 4 rfl dX10_which_44 ?_
          obtain ⟨q6, h⟩ := gdd_eq h
          refine gx_iald X (51) 6 (by decide) (cl_51 _ _) q6 dX10_which_46 ?_
          refine gx_aload_n X 0 rfl dX10_which_47 ?_
          refine gx_getf X (40) lf_X10_28 (by decide) (cl_40 _ _) (v := .ref (al (44))) rfl dX10_which_48 ?_
          refine gx_bipush X (v := (6 : Int32)) dX10_which_51 (by decide) ?_
          refine gx_iload_n X 2 rfl dX10_which_53 ?_
          refine gx_imul X dX10_which_54 ?_
          refine gx_iload X 4 rfl dX10_which_55 ?_
          refine gx_iadd X dX10_which_57 ?_
          obtain ⟨q7, h⟩ := gdd_eq h
          refine gx_iald X (44) 144 (by decide) (cl_44 _ _) q7 dX10_which_58 ?_
          refine gx_icmp_ne X 66 dX10_which_59 (by decide) (fun q8 => ?_) (fun q8 => ?_)
          · replace h := (if_neg q8).symm.trans h
            refine gx_iconst X (v := (0 : Int32)) dX10_which_66 (by decide) ?_
            refine gx_istore_n X [(3, .int ((0 : Int32))), (0, .ref (al (40))), (1, .int (x1)), (2, .int (x2)), (4, .int (x4))] dX10_which_67 (by decide) rfl ?_
            refine gx_iinc X [(4, .int ((x4 + (1 : Int32)))), (3, .int ((0 : Int32))), (0, .ref (al (40))), (1, .int (x1)), (2, .int (x2))] 4 dX10_which_68 rfl rfl (by decide) rfl ?_
            refine gx_goto X 17 dX10_which_71 (by decide) ?_
            exact gx_sub [2, 3, 4, 1, 0] rfl (ih x1 x2 (0 : Int32) (x4 + (1 : Int32)) g h)
          · replace h := (if_pos q8).symm.trans h
            refine gx_iconst X (v := (1 : Int32)) dX10_which_62 (by decide) ?_
            refine gx_goto X 67 dX10_which_63 (by decide) ?_
            refine gx_istore_n X [(3, .int ((1 : Int32))), (0, .ref (al (40))), (1, .int (x1)), (2, .int (x2)), (4, .int (x4))] dX10_which_67 (by decide) rfl ?_
            refine gx_iinc X [(4, .int ((x4 + (1 : Int32)))), (3, .int ((1 : Int32))), (0, .ref (al (40))), (1, .int (x1)), (2, .int (x2))] 4 dX10_which_68 rfl rfl (by decide) rfl ?_
            refine gx_goto X 17 dX10_which_71 (by decide) ?_
            exact gx_sub [2, 3, 4, 1, 0] rfl (ih x1 x2 (1 : Int32) (x4 + (1 : Int32)) g h)
def m_X10_which_4 : Nat → Int32 → Int32 → Mm → Option (Int32 × Mm)
  | 0, _, _, _ => none
  | n + 1, x1, x2, g => (if (rdI g 40 5) ≤ x2 then some (x1, (wrI g 40 33 (0 : Int32))) else m_X10_which_17 (m_X10_which_4 n) fuL x1 x2 (1 : Int32) (0 : Int32) g)
set_option maxHeartbeats 2000000 in
theorem t_X10_which_4 {r2 : Int32} {g2 : Mm} (X : gx_X p R s m args meth c D al cI cJ A RX10 cX10_which 5 (some .int) d 0 0) (hd : 1 ≤ d) : ∀ (n : Nat) (x1 : Int32) (x2 : Int32) (g : Mm), m_X10_which_4 n x1 x2 g = some (r2, g2) → gx_G p l e R s m args below meth c (gx_Q below args s D al cI cJ A (some (.int r2)) g2) D al cI cJ A 5 0 0 4 [(0, .ref (al (40))), (1, .int (x1)), (2, .int (x2))] [] g := by
  intro n
  induction n with
  | zero => intro x1 x2 g h; cases h
  | succ n ih =>
    intro x1 x2 g h
    rw [m_X10_which_4] at h
    refine gx_iload_n X 2 rfl dX10_which_4 ?_
    refine gx_aload_n X 0 rfl dX10_which_5 ?_
    refine gx_getf X (40) lf_X10_21 (by decide) (cl_40 _ _) (v := .int ((rdI g 40 5))) rfl dX10_which_6 ?_
    refine gx_icmp_ge X 94 dX10_which_9 (by decide) (fun q1 => ?_) (fun q1 => ?_)
    · replace h := (if_pos q1).symm.trans h
      refine gx_aload_n X 0 rfl dX10_which_94 ?_
      refine gx_iconst X (v := (0 : Int32)) dX10_which_95 (by decide) ?_
      refine gx_putf X (40) (0 : Int32) lf_X10_266 lp_X10_33 (by decide) (cl_40 _ _) (Nat.le_of_ble_eq_true rfl) rfl rfl rfl dX10_which_96 ?_
      refine gx_iload_n X 1 rfl dX10_which_99 ?_
      obtain ⟨rfl, rfl⟩ := ret_eq h
      exact gx_iret X rfl dX10_which_100
    · replace h := (if_neg q1).symm.trans h
      refine gx_iconst X (v := (1 : Int32)) dX10_which_12 (by decide) ?_
      refine gx_istore_n X [(3, .int ((1 : Int32))), (0, .ref (al (40))), (1, .int (x1)), (2, .int (x2))] dX10_which_13 (by decide) rfl ?_
      refine gx_iconst X (v := (0 : Int32)) dX10_which_14 (by decide) ?_
      refine gx_istore X [(4, .int ((0 : Int32))), (3, .int ((1 : Int32))), (0, .ref (al (40))), (1, .int (x1)), (2, .int (x2))] dX10_which_15 (by decide) rfl ?_
      exact gx_sub [2, 3, 4, 1, 0] rfl (t_X10_which_17 X hd (fun u0 u1 g h => ih u0 u1 g h) fuL x1 x2 (1 : Int32) (0 : Int32) g h)
def m_X10_which (g : Mm) : Option (Int32 × Mm) := m_X10_which_4 fuL (0 : Int32) (0 : Int32) g
set_option maxHeartbeats 2000000 in
theorem c_X10_which {r2 : Int32} {g g2 : Mm} (h : m_X10_which g = some (r2, g2)) : gx_M 1 yX10_which cX10_which 5 (some .int) (fun al => [.ref (al (40))]) g (some (.int r2)) g2 := by
  have hd : 1 ≤ 1 := Nat.le_refl _
  refine gx_M.of (by decide +kernel) (fun _ => Nat.le_of_ble_eq_true rfl) ?_
  intro p l e R s m args below meth c D al cI cJ A X
  refine gx_eq (pc' := 0) (ls' := [(0, .ref (al (40)))]) (st' := []) (g' := g) ⟨rfl, rfl, rfl, rfl⟩ ?_
  unfold m_X10_which at h
  refine gx_iconst X (v := (0 : Int32)) dX10_which_0 (by decide) ?_
  refine gx_istore_n X [(1, .int ((0 : Int32))), (0, .ref (al (40)))] dX10_which_1 (by decide) rfl ?_
  refine gx_iconst X (v := (0 : Int32)) dX10_which_2 (by decide) ?_
  refine gx_istore_n X [(2, .int ((0 : Int32))), (1, .int ((0 : Int32))), (0, .ref (al (40)))] dX10_which_3 (by decide) rfl ?_
  exact gx_sub [2, 1, 0] rfl (t_X10_which_4 X hd fuL (0 : Int32) (0 : Int32) g h)
end DC
