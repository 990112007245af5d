section DC
variable {p : Program} {l : Launch} {e : Env} {R : Room} {s : State} {m : MethodId} {args : Array Value} {below : List Frame} {meth : Method} {c : Code} {D : va_G} {al : Nat → Nat} {cI cJ : ClassId} {A : Nat → Prop} {d : Nat}
theorem dX0_add_0 : decode cX0_add 0 = .ok (.aload_n 0, 1) := by decide +kernel
theorem dX0_add_1 : decode cX0_add 1 = .ok (.getfield 16, 3) := by decide +kernel
theorem dX0_add_4 : decode cX0_add 4 = .ok (.bipush 50, 2) := by decide +kernel
theorem dX0_add_6 : decode cX0_add 6 = .ok (.if_icmp .lt 5, 3) := by decide +kernel
theorem dX0_add_9 : decode cX0_add 9 = .ok (.iconst 0, 1) := by decide +kernel
theorem dX0_add_10 : decode cX0_add 10 = .ok (.ireturn, 1) := by decide +kernel
theorem dX0_add_11 : decode cX0_add 11 = .ok (.aload_n 0, 1) := by decide +kernel
theorem dX0_add_12 : decode cX0_add 12 = .ok (.getfield 9, 3) := by decide +kernel
theorem dX0_add_15 : decode cX0_add 15 = .ok (.aload_n 0, 1) := by decide +kernel
theorem dX0_add_16 : decode cX0_add 16 = .ok (.getfield 16, 3) := by decide +kernel
theorem dX0_add_19 : decode cX0_add 19 = .ok (.iload_n 1, 1) := by decide +kernel
theorem dX0_add_20 : decode cX0_add 20 = .ok (.iastore, 1) := by decide +kernel
theorem dX0_add_21 : decode cX0_add 21 = .ok (.aload_n 0, 1) := by decide +kernel
theorem dX0_add_22 : decode cX0_add 22 = .ok (.dup, 1) := by decide +kernel
theorem dX0_add_23 : decode cX0_add 23 = .ok (.getfield 16, 3) := by decide +kernel
theorem dX0_add_26 : decode cX0_add 26 = .ok (.iconst 1, 1) := by decide +kernel
theorem dX0_add_27 : decode cX0_add 27 = .ok (.iadd, 1) := by decide +kernel
theorem dX0_add_28 : decode cX0_add 28 = .ok (.putfield 16, 3) := by decide +kernel
theorem dX0_add_31 : decode cX0_add 31 = .ok (.iconst 1, 1) := by decide +kernel
theorem dX0_add_32 : decode cX0_add 32 = .ok (.ireturn, 1) := by decide +kernel
def m_X0_add (a1 : Int32) (g : Mm) : Option (Int32 × Mm) := (if (rdI g 32 2) < (50 : Int32) then gdd (ixo (rdI g 32 2) 50) (some ((1 : Int32), (wrI (wrI g 33 (rdI g 32 2).toNatClampNeg a1) 32 2 ((rdI (wrI g 33 (rdI g 32 2).toNatClampNeg a1) 32 2) + (1 : Int32))))) else some ((0 : Int32), g))
set_option maxHeartbeats 2000000 in
theorem c_X0_add {r2 : Int32} {g g2 : Mm} {a1 : Int32} (h : m_X0_add a1 g = some (r2, g2)) : gx_M 1 yX0_add cX0_add 2 (some .boolean) (fun al => [.ref (al (32)), .int (a1)]) g (some (.int r2)) g2 := by
  have hd : 1 ≤ 1 := Nat.le_refl _
  refine gx_M.of (by decide +kernel) (fun _ => Nat.le_of_ble_eq_true rfl) ?_
  intro p l e R s m args below meth c D al cI cJ A X
  refine gx_eq (pc' := 0) (ls' := [(0, .ref (al (32))), (1, .int (a1))]) (st' := []) (g' := g) ⟨rfl, rfl, rfl, rfl⟩ ?_
  unfold m_X0_add at h
  refine gx_aload_n X 0 rfl dX0_add_0 ?_
  refine gx_getf X (32) lf_X0_16 (by decide) (cl_32 _ _) (v := .int ((rdI g 32 2))) rfl dX0_add_1 ?_
  refine gx_bipush X (v := (50 : Int32)) dX0_add_4 (by decide) ?_
  refine gx_icmp_lt X 11 dX0_add_6 (by decide) (fun q1 => ?_) (fun q1 => ?_)
  · replace h := (if_pos q1).symm.trans h
    refine gx_aload_n X 0 rfl dX0_add_11 ?_
    refine gx_getf X (32) lf_X0_9 (by decide) (cl_32 _ _) (v := .ref (al (33))) rfl dX0_add_12 ?_
    refine gx_aload_n X 0 rfl dX0_add_15 ?_
    refine gx_getf X (32) lf_X0_16 (by decide) (cl_32 _ _) (v := .int ((rdI g 32 2))) rfl dX0_add_16 ?_
    refine gx_iload_n X 1 rfl dX0_add_19 ?_
    obtain ⟨q2, h⟩ := gdd_eq h
    refine gx_iast X (33) 50 (by decide) (fun r => cl_33 r _) q2 dX0_add_20 ?_
    refine gx_aload_n X 0 rfl dX0_add_21 ?_
    refine gx_dup X dX0_add_22 rfl ?_
    refine gx_getf X (32) lf_X0_16 (by decide) (cl_32 _ _) (v := .int ((rdI (wrI g 33 (rdI g 32 2).toNatClampNeg a1) 32 2))) rfl dX0_add_23 ?_
    refine gx_iconst X (v := (1 : Int32)) dX0_add_26 (by decide) ?_
    refine gx_iadd X dX0_add_27 ?_
    refine gx_putf X (32) ((rdI (wrI g 33 (rdI g 32 2).toNatClampNeg a1) 32 2) + (1 : Int32)) lf_X0_16 lp_X0_2 (by decide) (cl_32 _ _) (Nat.le_of_ble_eq_true rfl) rfl rfl rfl dX0_add_28 ?_
    refine gx_iconst X (v := (1 : Int32)) dX0_add_31 (by decide) ?_
    obtain ⟨rfl, rfl⟩ := ret_eq h
    exact gx_iret X rfl dX0_add_32
  · replace h := (if_neg q1).symm.trans h
    refine gx_iconst X (v := (0 : Int32)) dX0_add_9 (by decide) ?_
    obtain ⟨rfl, rfl⟩ := ret_eq h
    exact gx_iret X rfl dX0_add_10
theorem dX0_asKind_0 : decode cX0_asKind 0 = .ok (.iload 4, 2) := by decide +kernel
theorem dX0_asKind_2 : decode cX0_asKind 2 = .ok (.bipush 40, 2) := by decide +kernel
theorem dX0_asKind_4 : decode cX0_asKind 4 = .ok (.if_icmp .lt 5, 3) := by decide +kernel
theorem dX0_asKind_7 : decode cX0_asKind 7 = .ok (.iconst 0, 1) := by decide +kernel
theorem dX0_asKind_8 : decode cX0_asKind 8 = .ok (.ireturn, 1) := by decide +kernel
theorem dX0_asKind_9 : decode cX0_asKind 9 = .ok (.iload_n 1, 1) := by decide +kernel
theorem dX0_asKind_10 : decode cX0_asKind 10 = .ok (.istore 5, 2) := by decide +kernel
theorem dX0_asKind_12 : decode cX0_asKind 12 = .ok (.iconst 0, 1) := by decide +kernel
theorem dX0_asKind_13 : decode cX0_asKind 13 = .ok (.istore 6, 2) := by decide +kernel
theorem dX0_asKind_15 : decode cX0_asKind 15 = .ok (.iload 6, 2) := by decide +kernel
theorem dX0_asKind_17 : decode cX0_asKind 17 = .ok (.bipush 8, 2) := by decide +kernel
theorem dX0_asKind_19 : decode cX0_asKind 19 = .ok (.if_icmp .ge 30, 3) := by decide +kernel
theorem dX0_asKind_22 : decode cX0_asKind 22 = .ok (.getstatic 39, 3) := by decide +kernel
theorem dX0_asKind_25 : decode cX0_asKind 25 = .ok (.iload 5, 2) := by decide +kernel
theorem dX0_asKind_27 : decode cX0_asKind 27 = .ok (.iconst 4, 1) := by decide +kernel
theorem dX0_asKind_28 : decode cX0_asKind 28 = .ok (.imul, 1) := by decide +kernel
theorem dX0_asKind_29 : decode cX0_asKind 29 = .ok (.iload_n 2, 1) := by decide +kernel
theorem dX0_asKind_30 : decode cX0_asKind 30 = .ok (.iadd, 1) := by decide +kernel
theorem dX0_asKind_31 : decode cX0_asKind 31 = .ok (.iaload, 1) := by decide +kernel
theorem dX0_asKind_32 : decode cX0_asKind 32 = .ok (.ifCond .ne 17, 3) := by decide +kernel
theorem dX0_asKind_35 : decode cX0_asKind 35 = .ok (.getstatic 26, 3) := by decide +kernel
theorem dX0_asKind_38 : decode cX0_asKind 38 = .ok (.iload 5, 2) := by decide +kernel
theorem dX0_asKind_40 : decode cX0_asKind 40 = .ok (.iaload, 1) := by decide +kernel
theorem dX0_asKind_41 : decode cX0_asKind 41 = .ok (.istore 5, 2) := by decide +kernel
theorem dX0_asKind_43 : decode cX0_asKind 43 = .ok (.iinc 6 1, 3) := by decide +kernel
theorem dX0_asKind_46 : decode cX0_asKind 46 = .ok (.goto (-31), 3) := by decide +kernel
theorem dX0_asKind_49 : decode cX0_asKind 49 = .ok (.getstatic 39, 3) := by decide +kernel
theorem dX0_asKind_52 : decode cX0_asKind 52 = .ok (.iload 5, 2) := by decide +kernel
theorem dX0_asKind_54 : decode cX0_asKind 54 = .ok (.iconst 4, 1) := by decide +kernel
theorem dX0_asKind_55 : decode cX0_asKind 55 = .ok (.imul, 1) := by decide +kernel
theorem dX0_asKind_56 : decode cX0_asKind 56 = .ok (.iload_n 2, 1) := by decide +kernel
theorem dX0_asKind_57 : decode cX0_asKind 57 = .ok (.iadd, 1) := by decide +kernel
theorem dX0_asKind_58 : decode cX0_asKind 58 = .ok (.iaload, 1) := by decide +kernel
theorem dX0_asKind_59 : decode cX0_asKind 59 = .ok (.istore 6, 2) := by decide +kernel
theorem dX0_asKind_61 : decode cX0_asKind 61 = .ok (.aload_n 0, 1) := by decide +kernel
theorem dX0_asKind_62 : decode cX0_asKind 62 = .ok (.getfield 20, 3) := by decide +kernel
theorem dX0_asKind_65 : decode cX0_asKind 65 = .ok (.bipush 24, 2) := by decide +kernel
theorem dX0_asKind_67 : decode cX0_asKind 67 = .ok (.if_icmp .ge 14, 3) := by decide +kernel
theorem dX0_asKind_70 : decode cX0_asKind 70 = .ok (.aload_n 0, 1) := by decide +kernel
theorem dX0_asKind_71 : decode cX0_asKind 71 = .ok (.getfield 13, 3) := by decide +kernel
theorem dX0_asKind_74 : decode cX0_asKind 74 = .ok (.aload_n 0, 1) := by decide +kernel
theorem dX0_asKind_75 : decode cX0_asKind 75 = .ok (.getfield 20, 3) := by decide +kernel
theorem dX0_asKind_78 : decode cX0_asKind 78 = .ok (.iload 6, 2) := by decide +kernel
theorem dX0_asKind_80 : decode cX0_asKind 80 = .ok (.iastore, 1) := by decide +kernel
theorem dX0_asKind_81 : decode cX0_asKind 81 = .ok (.aload_n 0, 1) := by decide +kernel
theorem dX0_asKind_82 : decode cX0_asKind 82 = .ok (.dup, 1) := by decide +kernel
theorem dX0_asKind_83 : decode cX0_asKind 83 = .ok (.getfield 20, 3) := by decide +kernel
theorem dX0_asKind_86 : decode cX0_asKind 86 = .ok (.iconst 1, 1) := by decide +kernel
theorem dX0_asKind_87 : decode cX0_asKind 87 = .ok (.iadd, 1) := by decide +kernel
theorem dX0_asKind_88 : decode cX0_asKind 88 = .ok (.putfield 20, 3) := by decide +kernel
theorem dX0_asKind_91 : decode cX0_asKind 91 = .ok (.aload_n 0, 1) := by decide +kernel
theorem dX0_asKind_92 : decode cX0_asKind 92 = .ok (.iload 6, 2) := by decide +kernel
theorem dX0_asKind_94 : decode cX0_asKind 94 = .ok (.getstatic 26, 3) := by decide +kernel
theorem dX0_asKind_97 : decode cX0_asKind 97 = .ok (.iload 5, 2) := by decide +kernel
theorem dX0_asKind_99 : decode cX0_asKind 99 = .ok (.iaload, 1) := by decide +kernel
theorem dX0_asKind_100 : decode cX0_asKind 100 = .ok (.iload_n 3, 1) := by decide +kernel
theorem dX0_asKind_101 : decode cX0_asKind 101 = .ok (.iload 4, 2) := by decide +kernel
theorem dX0_asKind_103 : decode cX0_asKind 103 = .ok (.iconst 1, 1) := by decide +kernel
theorem dX0_asKind_104 : decode cX0_asKind 104 = .ok (.iadd, 1) := by decide +kernel
theorem dX0_asKind_105 : decode cX0_asKind 105 = .ok (.invokevirtual 42, 3) := by decide +kernel
theorem dX0_asKind_108 : decode cX0_asKind 108 = .ok (.ireturn, 1) := by decide +kernel
def m_X0_asKind_81 (C : Nat → Int32 → Int32 → Int32 → Int32 → Mm → Option (Int32 × Mm)) (x3 : Int32) (x4 : Int32) (x5 : Int32) (x6 : Int32) (g : Mm) : Option (Int32 × Mm) := gdd (ixo x5 8) (bdd (C 1 x6 (tbI 100 x5.toNatClampNeg) x3 (x4 + (1 : Int32)) (wrI g 32 3 ((rdI g 32 3) + (1 : Int32)))) (fun ra2 ga3 => some (ra2, ga3)))
set_option maxHeartbeats 2000000 in
theorem t_X0_asKind_81 {r2 : Int32} {g2 : Mm} (X : gx_X p R s m args meth c D al cI cJ A RX0 cX0_asKind 7 (some .int) d 0 0) (hd : 1 ≤ d) {dn : Nat} {C : Nat → Int32 → Int32 → Int32 → Int32 → Mm → Option (Int32 × Mm)} (hdn : dn + 1 ≤ d) (hC0 : ∀ (b0 b1 b2 b3 : Int32) (g : Mm) (rr : Int32) (gg : Mm), C 0 b0 b1 b2 b3 g = some (rr, gg) → gx_M dn yX0_asKind cX0_asKind 7 (some .int) (fun al => [.ref (al (32)), .int (b0), .int (b1), .int (b2), .int (b3)]) g (some (.int rr)) gg) (hC1 : ∀ (b0 b1 b2 b3 : Int32) (g : Mm) (rr : Int32) (gg : Mm), C 1 b0 b1 b2 b3 g = some (rr, gg) → gx_M dn yX0_runBody cX0_runBody 6 (some .int) (fun al => [.ref (al (32)), .int (b0), .int (b1), .int (b2), .int (b3)]) g (some (.int rr)) gg) : ∀ (x3 : Int32) (x4 : Int32) (x5 : Int32) (x6 : Int32) (g : Mm), m_X0_asKind_81 C x3 x4 x5 x6 g = some (r2, g2) → gx_G p l e R s m args below meth c (gx_Q below args s D al cI cJ A (some (.int r2)) g2) D al cI cJ A 7 0 0 81 [(0, .ref (al (32))), (3, .int (x3)), (4, .int (x4)), (5, .int (x5)), (6, .int (x6))] [] g := by
  intro x3 x4 x5 x6 g h
  unfold m_X0_asKind_81 at h
  refine gx_aload_n X 0 rfl dX0_asKind_81 ?_
  refine gx_dup X dX0_asKind_82 rfl ?_
  refine gx_getf X (32) lf_X0_20 (by decide) (cl_32 _ _) (v := .int ((rdI g 32 3))) rfl dX0_asKind_83 ?_
  refine gx_iconst X (v := (1 : Int32)) dX0_asKind_86 (by decide) ?_
  refine gx_iadd X dX0_asKind_87 ?_
  refine gx_putf X (32) ((rdI g 32 3) + (1 : Int32)) lf_X0_20 lp_X0_3 (by decide) (cl_32 _ _) (Nat.le_of_ble_eq_true rfl) rfl rfl rfl dX0_asKind_88 ?_
  refine gx_aload_n X 0 rfl dX0_asKind_91 ?_
  refine gx_iload X 4 rfl dX0_asKind_92 ?_
  refine gx_g_above X lst_X0_26 dX0_asKind_94 ?_
  refine gx_iload X 3 rfl dX0_asKind_97 ?_
  obtain ⟨q1, h⟩ := gdd_eq h
  refine gx_t_above X q1 dX0_asKind_99 ?_
  refine gx_iload_n X 1 rfl dX0_asKind_100 ?_
  refine gx_iload X 2 rfl dX0_asKind_101 ?_
  refine gx_iconst X (v := (1 : Int32)) dX0_asKind_103 (by decide) ?_
  refine gx_iadd X dX0_asKind_104 ?_
  obtain ⟨ra2, ga3, ca4, h⟩ := bdd_eq h
  refine gx_callVi X (32) (hC1 _ _ _ _ _ _ _ ca4) lc_X0_runBody li_X0_runBody lm_X0_42 (by decide) (cl_32 _ _) rfl rfl rfl hdn rfl (Nat.le_of_ble_eq_true rfl) dX0_asKind_105 ?_
  obtain ⟨rfl, rfl⟩ := ret_eq h
  exact gx_iret X rfl dX0_asKind_108
def m_X0_asKind_49 (C : Nat → Int32 → Int32 → Int32 → Int32 → Mm → Option (Int32 × Mm)) (x2 : Int32) (x3 : Int32) (x4 : Int32) (x5 : Int32) (g : Mm) : Option (Int32 × Mm) := gdd (ixo ((x5 * (4 : Int32)) + x2) 32) (lti (tbI 101 ((x5 * (4 : Int32)) + x2).toNatClampNeg) (fun v2 => (if (24 : Int32) ≤ (rdI g 32 3) then m_X0_asKind_81 C x3 x4 x5 v2 g else gdd (ixo (rdI g 32 3) 24) (m_X0_asKind_81 C x3 x4 x5 v2 (wrI g 34 (rdI g 32 3).toNatClampNeg v2)))))
set_option maxHeartbeats 2000000 in
theorem t_X0_asKind_49 {r2 : Int32} {g2 : Mm} (X : gx_X p R s m args meth c D al cI cJ A RX0 cX0_asKind 7 (some .int) d 0 0) (hd : 1 ≤ d) {dn : Nat} {C : Nat → Int32 → Int32 → Int32 → Int32 → Mm → Option (Int32 × Mm)} (hdn : dn + 1 ≤ d) (hC0 : ∀ (b0 b1 b2 b3 : Int32) (g : Mm) (rr : Int32) (gg : Mm), C 0 b0 b1 b2 b3 g = some (rr, gg) → gx_M dn yX0_asKind cX0_asKind 7 (some .int) (fun al => [.ref (al (32)), .int (b0), .int (b1), .int (b2), .int (b3)]) g (some (.int rr)) gg) (hC1 : ∀ (b0 b1 b2 b3 : Int32) (g : Mm) (rr : Int32) (gg : Mm), C 1 b0 b1 b2 b3 g = some (rr, gg) → gx_M dn yX0_runBody cX0_runBody 6 (some .int) (fun al => [.ref (al (32)), .int (b0), .int (b1), .int (b2), .int (b3)]) g (some (.int rr)) gg) : ∀ (x2 : Int32) (x3 : Int32) (x4 : Int32) (x5 : Int32) (g : Mm), m_X0_asKind_49 C x2 x3 x4 x5 g = some (r2, g2) → gx_G p l e R s m args below meth c (gx_Q below args s D al cI cJ A (some (.int r2)) g2) D al cI cJ A 7 0 0 49 [(0, .ref (al (32))), (2, .int (x2)), (3, .int (x3)), (4, .int (x4)), (5, .int (x5))] [] g := by
  intro x2 x3 x4 x5 g h
  unfold m_X0_asKind_49 at h
  refine gx_g_own X lst_X0_39 dX0_asKind_49 ?_
  refine gx_iload X 4 rfl dX0_asKind_52 ?_
  refine gx_iconst X (v := (4 : Int32)) dX0_asKind_54 (by decide) ?_
  refine gx_imul X dX0_asKind_55 ?_
  refine gx_iload_n X 1 rfl dX0_asKind_56 ?_
  refine gx_iadd X dX0_asKind_57 ?_
  obtain ⟨q1, h⟩ := gdd_eq h
  refine gx_t_own X q1 dX0_asKind_58 ?_
  obtain ⟨v2, ev2, h⟩ := lti_eq h
  refine gx_topi ev2 ?_
  refine gx_istore X [(6, .int (v2)), (0, .ref (al (32))), (2, .int (x2)), (3, .int (x3)), (4, .int (x4)), (5, .int (x5))] dX0_asKind_59 (by decide) rfl ?_
  refine gx_aload_n X 1 rfl dX0_asKind_61 ?_
  refine gx_getf X (32) lf_X0_20 (by decide) (cl_32 _ _) (v := .int ((rdI g 32 3))) rfl dX0_asKind_62 ?_
  refine gx_bipush X (v := (24 : Int32)) dX0_asKind_65 (by decide) ?_
  refine gx_icmp_ge X 81 dX0_asKind_67 (by decide) (fun q3 => ?_) (fun q3 => ?_)
  · replace h := (if_pos q3).symm.trans h
    exact gx_sub [1, 3, 4, 5, 0] rfl (t_X0_asKind_81 X hd hdn hC0 hC1 x3 x4 x5 v2 g h)
  · replace h := (if_neg q3).symm.trans h
    refine gx_aload_n X 1 rfl dX0_asKind_70 ?_
    refine gx_getf X (32) lf_X0_13 (by decide) (cl_32 _ _) (v := .ref (al (34))) rfl dX0_asKind_71 ?_
    refine gx_aload_n X 1 rfl dX0_asKind_74 ?_
    refine gx_getf X (32) lf_X0_20 (by decide) (cl_32 _ _) (v := .int ((rdI g 32 3))) rfl dX0_asKind_75 ?_
    refine gx_iload X 0 rfl dX0_asKind_78 ?_
    obtain ⟨q4, h⟩ := gdd_eq h
    refine gx_iast X (34) 24 (by decide) (fun r => cl_34 r _) q4 dX0_asKind_80 ?_
    exact gx_sub [1, 3, 4, 5, 0] rfl (t_X0_asKind_81 X hd hdn hC0 hC1 x3 x4 x5 v2 (wrI g 34 (rdI g 32 3).toNatClampNeg v2) h)
def m_X0_asKind_15 (C : Nat → Int32 → Int32 → Int32 → Int32 → Mm → Option (Int32 × Mm)) : Nat → Int32 → Int32 → Int32 → Int32 → Int32 → Mm → Option (Int32 × Mm)
  | 0, _, _, _, _, _, _ => none
  | n + 1, x2, x3, x4, x5, x6, g => (if (8 : Int32) ≤ x6 then m_X0_asKind_49 C x2 x3 x4 x5 g else gdd (ixo ((x5 * (4 : Int32)) + x2) 32) ((if (tbI 101 ((x5 * (4 : Int32)) + x2).toNatClampNeg) = (0 : Int32) then gdd (ixo x5 8) (m_X0_asKind_15 C n x2 x3 x4 (tbI 100 x5.toNatClampNeg) (x6 + (1 : Int32)) g) else m_X0_asKind_49 C x2 x3 x4 x5 g)))
set_option maxHeartbeats 2000000 in
theorem t_X0_asKind_15 {r2 : Int32} {g2 : Mm} (X : gx_X p R s m args meth c D al cI cJ A RX0 cX0_asKind 7 (some .int) d 0 0) (hd : 1 ≤ d) {dn : Nat} {C : Nat → Int32 → Int32 → Int32 → Int32 → Mm → Option (Int32 × Mm)} (hdn : dn + 1 ≤ d) (hC0 : ∀ (b0 b1 b2 b3 : Int32) (g : Mm) (rr : Int32) (gg : Mm), C 0 b0 b1 b2 b3 g = some (rr, gg) → gx_M dn yX0_asKind cX0_asKind 7 (some .int) (fun al => [.ref (al (32)), .int (b0), .int (b1), .int (b2), .int (b3)]) g (some (.int rr)) gg) (hC1 : ∀ (b0 b1 b2 b3 : Int32) (g : Mm) (rr : Int32) (gg : Mm), C 1 b0 b1 b2 b3 g = some (rr, gg) → gx_M dn yX0_runBody cX0_runBody 6 (some .int) (fun al => [.ref (al (32)), .int (b0), .int (b1), .int (b2), .int (b3)]) g (some (.int rr)) gg) : ∀ (n : Nat) (x2 : Int32) (x3 : Int32) (x4 : Int32) (x5 : Int32) (x6 : Int32) (g : Mm), m_X0_asKind_15 C n x2 x3 x4 x5 x6 g = some (r2, g2) → gx_G p l e R s m args below meth c (gx_Q below args s D al cI cJ A (some (.int r2)) g2) D al cI cJ A 7 0 0 15 [(0, .ref (al (32))), (2, .int (x2)), (3, .int (x3)), (4, .int (x4)), (5, .int (x5)), (6, .int (x6))] [] g := by
  intro n
  induction n with
  | zero => intro x2 x3 x4 x5 x6 g h; cases h
  | succ n ih =>
    intro x2 x3 x4 x5 x6 g h
    rw [m_X0_asKind_15] at h
    refine gx_iload X 5 rfl dX0_asKind_15 ?_
    refine gx_bipush X (v := (8 : Int32)) dX0_asKind_17 (by decide) ?_
    refine gx_icmp_ge X 49 dX0_asKind_19 (by decide) (fun q1 => ?_) (fun q1 => ?_)
    · replace h := (if_pos q1).symm.trans h
      exact gx_sub [0, 1, 2, 3, 4] rfl (t_X0_asKind_49 X hd hdn hC0 hC1 x2 x3 x4 x5 g h)
    · replace h := (if_neg q1).symm.trans h
      refine gx_g_own X lst_X0_39 dX0_asKind_22 ?_
      refine gx_iload X 4 rfl dX0_asKind_25 ?_
      refine gx_iconst X (v := (4 : Int32)) dX0_asKind_27 (by decide) ?_
      refine gx_imul X dX0_asKind_28 ?_
      refine gx_iload_n X 1 rfl dX0_asKind_29 ?_
      refine gx_iadd X dX0_asKind_30 ?_
      obtain ⟨q2, h⟩ := gdd_eq h
      refine gx_t_own X q2 dX0_asKind_31 ?_
      refine gx_if_ne X 49 dX0_asKind_32 (by decide) (fun q3 => ?_) (fun q3 => ?_)
      · replace h := (if_neg q3).symm.trans h
        exact gx_sub [0, 1, 2, 3, 4] rfl (t_X0_asKind_49 X hd hdn hC0 hC1 x2 x3 x4 x5 g h)
      · replace h := (if_pos q3).symm.trans h
        refine gx_g_above X lst_X0_26 dX0_asKind_35 ?_
        refine gx_iload X 4 rfl dX0_asKind_38 ?_
        obtain ⟨q4, h⟩ := gdd_eq h
        refine gx_t_above X q4 dX0_asKind_40 ?_
        refine gx_istore X [(5, .int ((tbI 100 x5.toNatClampNeg))), (0, .ref (al (32))), (2, .int (x2)), (3, .int (x3)), (4, .int (x4)), (6, .int (x6))] dX0_asKind_41 (by decide) rfl ?_
        refine gx_iinc X [(6, .int ((x6 + (1 : Int32)))), (5, .int ((tbI 100 x5.toNatClampNeg))), (0, .ref (al (32))), (2, .int (x2)), (3, .int (x3)), (4, .int (x4))] 5 dX0_asKind_43 rfl rfl (by decide) rfl ?_
        refine gx_goto X 15 dX0_asKind_46 (by decide) ?_
        exact gx_sub [2, 3, 4, 5, 1, 0] rfl (ih x2 x3 x4 (tbI 100 x5.toNatClampNeg) (x6 + (1 : Int32)) g h)
def m_X0_asKind (C : Nat → Int32 → Int32 → Int32 → Int32 → Mm → Option (Int32 × Mm)) (a1 : Int32) (a2 : Int32) (a3 : Int32) (a4 : Int32) (g : Mm) : Option (Int32 × Mm) := (if a4 < (40 : Int32) then m_X0_asKind_15 C fuL a2 a3 a4 a1 (0 : Int32) g else some ((0 : Int32), g))
set_option maxHeartbeats 2000000 in
theorem b_X0_asKind {d : Nat} {r2 : Int32} {g g2 : Mm} (hd : 1 ≤ d) {dn : Nat} {C : Nat → Int32 → Int32 → Int32 → Int32 → Mm → Option (Int32 × Mm)} (hdn : dn + 1 ≤ d) (hC0 : ∀ (b0 b1 b2 b3 : Int32) (g : Mm) (rr : Int32) (gg : Mm), C 0 b0 b1 b2 b3 g = some (rr, gg) → gx_M dn yX0_asKind cX0_asKind 7 (some .int) (fun al => [.ref (al (32)), .int (b0), .int (b1), .int (b2), .int (b3)]) g (some (.int rr)) gg) (hC1 : ∀ (b0 b1 b2 b3 : Int32) (g : Mm) (rr : Int32) (gg : Mm), C 1 b0 b1 b2 b3 g = some (rr, gg) → gx_M dn yX0_runBody cX0_runBody 6 (some .int) (fun al => [.ref (al (32)), .int (b0), .int (b1), .int (b2), .int (b3)]) g (some (.int rr)) gg) {a1 : Int32} {a2 : Int32} {a3 : Int32} {a4 : Int32} (h : m_X0_asKind C a1 a2 a3 a4 g = some (r2, g2)) : gx_M d yX0_asKind cX0_asKind 7 (some .int) (fun al => [.ref (al (32)), .int (a1), .int (a2), .int (a3), .int (a4)]) g (some (.int r2)) g2 := by
  refine gx_M.of (by decide +kernel) (fun _ => Nat.le_of_ble_eq_true rfl) ?_
  intro p l e R s m args below meth c D al cI cJ A X
  refine gx_eq (pc' := 0) (ls' := [(0, .ref (al (32))), (1, .int (a1)), (2, .int (a2)), (3, .int (a3)), (4, .int (a4))]) (st' := []) (g' := g) ⟨rfl, rfl, rfl, rfl⟩ ?_
  unfold m_X0_asKind at h
  refine gx_iload X 4 rfl dX0_asKind_0 ?_
  refine gx_bipush X (v := (40 : Int32)) dX0_asKind_2 (by decide) ?_
  refine gx_icmp_lt X 9 dX0_asKind_4 (by decide) (fun q1 => ?_) (fun q1 => ?_)
  · replace h := (if_pos q1).symm.trans h
    refine gx_iload_n X 1 rfl dX0_asKind_9 ?_
    refine gx_istore X [(5, .int (a1)), (0, .ref (al (32))), (1, .int (a1)), (2, .int (a2)), (3, .int (a3)), (4, .int (a4))] dX0_asKind_10 (by decide) rfl ?_
    refine gx_iconst X (v := (0 : Int32)) dX0_asKind_12 (by decide) ?_
    refine gx_istore X [(6, .int ((0 : Int32))), (5, .int (a1)), (0, .ref (al (32))), (1, .int (a1)), (2, .int (a2)), (3, .int (a3)), (4, .int (a4))] dX0_asKind_13 (by decide) rfl ?_
    exact gx_sub [2, 4, 5, 6, 1, 0] rfl (t_X0_asKind_15 X hd hdn hC0 hC1 fuL a2 a3 a4 a1 (0 : Int32) g h)
  · replace h := (if_neg q1).symm.trans h
    refine gx_iconst X (v := (0 : Int32)) dX0_asKind_7 (by decide) ?_
    obtain ⟨rfl, rfl⟩ := ret_eq h
    exact gx_iret X rfl dX0_asKind_8
theorem dX0_runBody_0 : decode cX0_runBody 0 = .ok (.aload_n 0, 1) := by decide +kernel
theorem dX0_runBody_1 : decode cX0_runBody 1 = .ok (.getfield 9, 3) := by decide +kernel
theorem dX0_runBody_4 : decode cX0_runBody 4 = .ok (.aload_n 0, 1) := by decide +kernel
theorem dX0_runBody_5 : decode cX0_runBody 5 = .ok (.getfield 23, 3) := by decide +kernel
theorem dX0_runBody_8 : decode cX0_runBody 8 = .ok (.iaload, 1) := by decide +kernel
theorem dX0_runBody_9 : decode cX0_runBody 9 = .ok (.istore 5, 2) := by decide +kernel
theorem dX0_runBody_11 : decode cX0_runBody 11 = .ok (.iload_n 1, 1) := by decide +kernel
theorem dX0_runBody_12 : decode cX0_runBody 12 = .ok (.lookupswitch 290 #[(1, 116), (2, 123), (10, 145), (11, 158), (20, 165), (30, 177), (40, 188), (41, 200), (50, 212), (60, 233), (70, 245), (80, 257), (81, 278)], 116) := by decide +kernel
theorem dX0_runBody_128 : decode cX0_runBody 128 = .ok (.iload_n 3, 1) := by decide +kernel
theorem dX0_runBody_129 : decode cX0_runBody 129 = .ok (.aload_n 0, 1) := by decide +kernel
theorem dX0_runBody_130 : decode cX0_runBody 130 = .ok (.getfield 23, 3) := by decide +kernel
theorem dX0_runBody_133 : decode cX0_runBody 133 = .ok (.iadd, 1) := by decide +kernel
theorem dX0_runBody_134 : decode cX0_runBody 134 = .ok (.ireturn, 1) := by decide +kernel
theorem dX0_runBody_135 : decode cX0_runBody 135 = .ok (.aload_n 0, 1) := by decide +kernel
theorem dX0_runBody_136 : decode cX0_runBody 136 = .ok (.iload 5, 2) := by decide +kernel
theorem dX0_runBody_138 : decode cX0_runBody 138 = .ok (.iconst 1, 1) := by decide +kernel
theorem dX0_runBody_139 : decode cX0_runBody 139 = .ok (.iload_n 3, 1) := by decide +kernel
theorem dX0_runBody_140 : decode cX0_runBody 140 = .ok (.iload 4, 2) := by decide +kernel
theorem dX0_runBody_142 : decode cX0_runBody 142 = .ok (.invokevirtual 35, 3) := by decide +kernel
theorem dX0_runBody_145 : decode cX0_runBody 145 = .ok (.aload_n 0, 1) := by decide +kernel
theorem dX0_runBody_146 : decode cX0_runBody 146 = .ok (.iload 5, 2) := by decide +kernel
theorem dX0_runBody_148 : decode cX0_runBody 148 = .ok (.iconst 2, 1) := by decide +kernel
theorem dX0_runBody_149 : decode cX0_runBody 149 = .ok (.iconst 1, 1) := by decide +kernel
theorem dX0_runBody_150 : decode cX0_runBody 150 = .ok (.iload 4, 2) := by decide +kernel
theorem dX0_runBody_152 : decode cX0_runBody 152 = .ok (.invokevirtual 35, 3) := by decide +kernel
theorem dX0_runBody_155 : decode cX0_runBody 155 = .ok (.isub, 1) := by decide +kernel
theorem dX0_runBody_156 : decode cX0_runBody 156 = .ok (.ireturn, 1) := by decide +kernel
theorem dX0_runBody_157 : decode cX0_runBody 157 = .ok (.aload_n 0, 1) := by decide +kernel
theorem dX0_runBody_158 : decode cX0_runBody 158 = .ok (.iload 5, 2) := by decide +kernel
theorem dX0_runBody_160 : decode cX0_runBody 160 = .ok (.iconst 0, 1) := by decide +kernel
theorem dX0_runBody_161 : decode cX0_runBody 161 = .ok (.iload_n 3, 1) := by decide +kernel
theorem dX0_runBody_162 : decode cX0_runBody 162 = .ok (.iload 4, 2) := by decide +kernel
theorem dX0_runBody_164 : decode cX0_runBody 164 = .ok (.invokevirtual 35, 3) := by decide +kernel
theorem dX0_runBody_167 : decode cX0_runBody 167 = .ok (.iconst 2, 1) := by decide +kernel
theorem dX0_runBody_168 : decode cX0_runBody 168 = .ok (.imul, 1) := by decide +kernel
theorem dX0_runBody_169 : decode cX0_runBody 169 = .ok (.ireturn, 1) := by decide +kernel
theorem dX0_runBody_170 : decode cX0_runBody 170 = .ok (.iload_n 3, 1) := by decide +kernel
theorem dX0_runBody_171 : decode cX0_runBody 171 = .ok (.aload_n 0, 1) := by decide +kernel
theorem dX0_runBody_172 : decode cX0_runBody 172 = .ok (.getfield 23, 3) := by decide +kernel
theorem dX0_runBody_175 : decode cX0_runBody 175 = .ok (.ixor, 1) := by decide +kernel
theorem dX0_runBody_176 : decode cX0_runBody 176 = .ok (.ireturn, 1) := by decide +kernel
theorem dX0_runBody_177 : decode cX0_runBody 177 = .ok (.aload_n 0, 1) := by decide +kernel
theorem dX0_runBody_178 : decode cX0_runBody 178 = .ok (.iload_n 2, 1) := by decide +kernel
theorem dX0_runBody_179 : decode cX0_runBody 179 = .ok (.iconst 0, 1) := by decide +kernel
theorem dX0_runBody_180 : decode cX0_runBody 180 = .ok (.iload_n 3, 1) := by decide +kernel
theorem dX0_runBody_181 : decode cX0_runBody 181 = .ok (.iload 4, 2) := by decide +kernel
theorem dX0_runBody_183 : decode cX0_runBody 183 = .ok (.invokevirtual 35, 3) := by decide +kernel
theorem dX0_runBody_186 : decode cX0_runBody 186 = .ok (.iconst 3, 1) := by decide +kernel
theorem dX0_runBody_187 : decode cX0_runBody 187 = .ok (.iadd, 1) := by decide +kernel
theorem dX0_runBody_188 : decode cX0_runBody 188 = .ok (.ireturn, 1) := by decide +kernel
theorem dX0_runBody_189 : decode cX0_runBody 189 = .ok (.aload_n 0, 1) := by decide +kernel
theorem dX0_runBody_190 : decode cX0_runBody 190 = .ok (.iload_n 2, 1) := by decide +kernel
theorem dX0_runBody_191 : decode cX0_runBody 191 = .ok (.iconst 1, 1) := by decide +kernel
theorem dX0_runBody_192 : decode cX0_runBody 192 = .ok (.iload_n 3, 1) := by decide +kernel
theorem dX0_runBody_193 : decode cX0_runBody 193 = .ok (.iload 4, 2) := by decide +kernel
theorem dX0_runBody_195 : decode cX0_runBody 195 = .ok (.invokevirtual 35, 3) := by decide +kernel
theorem dX0_runBody_198 : decode cX0_runBody 198 = .ok (.ineg, 1) := by decide +kernel
theorem dX0_runBody_199 : decode cX0_runBody 199 = .ok (.ireturn, 1) := by decide +kernel
theorem dX0_runBody_200 : decode cX0_runBody 200 = .ok (.aload_n 0, 1) := by decide +kernel
theorem dX0_runBody_201 : decode cX0_runBody 201 = .ok (.iload_n 2, 1) := by decide +kernel
theorem dX0_runBody_202 : decode cX0_runBody 202 = .ok (.iconst 2, 1) := by decide +kernel
theorem dX0_runBody_203 : decode cX0_runBody 203 = .ok (.iload_n 3, 1) := by decide +kernel
theorem dX0_runBody_204 : decode cX0_runBody 204 = .ok (.iload 4, 2) := by decide +kernel
theorem dX0_runBody_206 : decode cX0_runBody 206 = .ok (.invokevirtual 35, 3) := by decide +kernel
theorem dX0_runBody_209 : decode cX0_runBody 209 = .ok (.iconst 3, 1) := by decide +kernel
theorem dX0_runBody_210 : decode cX0_runBody 210 = .ok (.imul, 1) := by decide +kernel
theorem dX0_runBody_211 : decode cX0_runBody 211 = .ok (.ireturn, 1) := by decide +kernel
theorem dX0_runBody_212 : decode cX0_runBody 212 = .ok (.aload_n 0, 1) := by decide +kernel
theorem dX0_runBody_213 : decode cX0_runBody 213 = .ok (.iload_n 2, 1) := by decide +kernel
theorem dX0_runBody_214 : decode cX0_runBody 214 = .ok (.iconst 1, 1) := by decide +kernel
theorem dX0_runBody_215 : decode cX0_runBody 215 = .ok (.iload_n 3, 1) := by decide +kernel
theorem dX0_runBody_216 : decode cX0_runBody 216 = .ok (.iconst 1, 1) := by decide +kernel
theorem dX0_runBody_217 : decode cX0_runBody 217 = .ok (.iadd, 1) := by decide +kernel
theorem dX0_runBody_218 : decode cX0_runBody 218 = .ok (.iload 4, 2) := by decide +kernel
theorem dX0_runBody_220 : decode cX0_runBody 220 = .ok (.invokevirtual 35, 3) := by decide +kernel
theorem dX0_runBody_223 : decode cX0_runBody 223 = .ok (.ireturn, 1) := by decide +kernel
theorem dX0_runBody_224 : decode cX0_runBody 224 = .ok (.aload_n 0, 1) := by decide +kernel
theorem dX0_runBody_225 : decode cX0_runBody 225 = .ok (.iload_n 2, 1) := by decide +kernel
theorem dX0_runBody_226 : decode cX0_runBody 226 = .ok (.iconst 2, 1) := by decide +kernel
theorem dX0_runBody_227 : decode cX0_runBody 227 = .ok (.iload_n 3, 1) := by decide +kernel
theorem dX0_runBody_228 : decode cX0_runBody 228 = .ok (.iload 4, 2) := by decide +kernel
theorem dX0_runBody_230 : decode cX0_runBody 230 = .ok (.invokevirtual 35, 3) := by decide +kernel
theorem dX0_runBody_233 : decode cX0_runBody 233 = .ok (.aload_n 0, 1) := by decide +kernel
theorem dX0_runBody_234 : decode cX0_runBody 234 = .ok (.iload 5, 2) := by decide +kernel
theorem dX0_runBody_236 : decode cX0_runBody 236 = .ok (.iconst 0, 1) := by decide +kernel
theorem dX0_runBody_237 : decode cX0_runBody 237 = .ok (.iconst 2, 1) := by decide +kernel
theorem dX0_runBody_238 : decode cX0_runBody 238 = .ok (.iload 4, 2) := by decide +kernel
theorem dX0_runBody_240 : decode cX0_runBody 240 = .ok (.invokevirtual 35, 3) := by decide +kernel
theorem dX0_runBody_243 : decode cX0_runBody 243 = .ok (.isub, 1) := by decide +kernel
theorem dX0_runBody_244 : decode cX0_runBody 244 = .ok (.ireturn, 1) := by decide +kernel
theorem dX0_runBody_245 : decode cX0_runBody 245 = .ok (.aload_n 0, 1) := by decide +kernel
theorem dX0_runBody_246 : decode cX0_runBody 246 = .ok (.iload_n 2, 1) := by decide +kernel
theorem dX0_runBody_247 : decode cX0_runBody 247 = .ok (.iconst 3, 1) := by decide +kernel
theorem dX0_runBody_248 : decode cX0_runBody 248 = .ok (.iload_n 3, 1) := by decide +kernel
theorem dX0_runBody_249 : decode cX0_runBody 249 = .ok (.iload 4, 2) := by decide +kernel
theorem dX0_runBody_251 : decode cX0_runBody 251 = .ok (.invokevirtual 35, 3) := by decide +kernel
theorem dX0_runBody_254 : decode cX0_runBody 254 = .ok (.iconst 5, 1) := by decide +kernel
theorem dX0_runBody_255 : decode cX0_runBody 255 = .ok (.ixor, 1) := by decide +kernel
theorem dX0_runBody_256 : decode cX0_runBody 256 = .ok (.ireturn, 1) := by decide +kernel
theorem dX0_runBody_257 : decode cX0_runBody 257 = .ok (.aload_n 0, 1) := by decide +kernel
theorem dX0_runBody_258 : decode cX0_runBody 258 = .ok (.iload_n 2, 1) := by decide +kernel
theorem dX0_runBody_259 : decode cX0_runBody 259 = .ok (.iconst 0, 1) := by decide +kernel
theorem dX0_runBody_260 : decode cX0_runBody 260 = .ok (.iload_n 3, 1) := by decide +kernel
theorem dX0_runBody_261 : decode cX0_runBody 261 = .ok (.iload 4, 2) := by decide +kernel
theorem dX0_runBody_263 : decode cX0_runBody 263 = .ok (.invokevirtual 35, 3) := by decide +kernel
theorem dX0_runBody_266 : decode cX0_runBody 266 = .ok (.iconst 2, 1) := by decide +kernel
theorem dX0_runBody_267 : decode cX0_runBody 267 = .ok (.imul, 1) := by decide +kernel
theorem dX0_runBody_268 : decode cX0_runBody 268 = .ok (.ireturn, 1) := by decide +kernel
theorem dX0_runBody_269 : decode cX0_runBody 269 = .ok (.aload_n 0, 1) := by decide +kernel
theorem dX0_runBody_270 : decode cX0_runBody 270 = .ok (.iload_n 2, 1) := by decide +kernel
theorem dX0_runBody_271 : decode cX0_runBody 271 = .ok (.iconst 1, 1) := by decide +kernel
theorem dX0_runBody_272 : decode cX0_runBody 272 = .ok (.iload_n 3, 1) := by decide +kernel
theorem dX0_runBody_273 : decode cX0_runBody 273 = .ok (.iload 4, 2) := by decide +kernel
theorem dX0_runBody_275 : decode cX0_runBody 275 = .ok (.invokevirtual 35, 3) := by decide +kernel
theorem dX0_runBody_278 : decode cX0_runBody 278 = .ok (.aload_n 0, 1) := by decide +kernel
theorem dX0_runBody_279 : decode cX0_runBody 279 = .ok (.iload 5, 2) := by decide +kernel
theorem dX0_runBody_281 : decode cX0_runBody 281 = .ok (.iconst 2, 1) := by decide +kernel
theorem dX0_runBody_282 : decode cX0_runBody 282 = .ok (.iconst 2, 1) := by decide +kernel
theorem dX0_runBody_283 : decode cX0_runBody 283 = .ok (.iload 4, 2) := by decide +kernel
theorem dX0_runBody_285 : decode cX0_runBody 285 = .ok (.invokevirtual 35, 3) := by decide +kernel
theorem dX0_runBody_288 : decode cX0_runBody 288 = .ok (.iadd, 1) := by decide +kernel
theorem dX0_runBody_289 : decode cX0_runBody 289 = .ok (.ireturn, 1) := by decide +kernel
theorem dX0_runBody_290 : decode cX0_runBody 290 = .ok (.aload_n 0, 1) := by decide +kernel
theorem dX0_runBody_291 : decode cX0_runBody 291 = .ok (.iload_n 2, 1) := by decide +kernel
theorem dX0_runBody_292 : decode cX0_runBody 292 = .ok (.iconst 3, 1) := by decide +kernel
theorem dX0_runBody_293 : decode cX0_runBody 293 = .ok (.iload_n 3, 1) := by decide +kernel
theorem dX0_runBody_294 : decode cX0_runBody 294 = .ok (.iload 4, 2) := by decide +kernel
theorem dX0_runBody_296 : decode cX0_runBody 296 = .ok (.invokevirtual 35, 3) := by decide +kernel
theorem dX0_runBody_299 : decode cX0_runBody 299 = .ok (.iconst 1, 1) := by decide +kernel
theorem dX0_runBody_300 : decode cX0_runBody 300 = .ok (.isub, 1) := by decide +kernel
theorem dX0_runBody_301 : decode cX0_runBody 301 = .ok (.ireturn, 1) := by decide +kernel
theorem dX0_runBody_302 : decode cX0_runBody 302 = .ok (.iconst 0, 1) := by decide +kernel
theorem dX0_runBody_303 : decode cX0_runBody 303 = .ok (.ireturn, 1) := by decide +kernel
def m_X0_runBody (C : Nat → Int32 → Int32 → Int32 → Int32 → Mm → Option (Int32 × Mm)) (a1 : Int32) (a2 : Int32) (a3 : Int32) (a4 : Int32) (g : Mm) : Option (Int32 × Mm) := gdd (ixo (rdI g 32 4) 50) ((if a1 = (1 : Int32) then some ((a3 + (rdI g 32 4)), g) else if a1 = (2 : Int32) then bdd (C 0 (rdI g 33 (rdI g 32 4).toNatClampNeg) (1 : Int32) a3 a4 g) (fun ra4 ga5 => bdd (C 0 (rdI g 33 (rdI g 32 4).toNatClampNeg) (2 : Int32) (1 : Int32) a4 ga5) (fun ra7 ga8 => some ((ra4 - ra7), ga8))) else if a1 = (10 : Int32) then bdd (C 0 (rdI g 33 (rdI g 32 4).toNatClampNeg) (0 : Int32) a3 a4 g) (fun ra11 ga12 => some ((ra11 * (2 : Int32)), ga12)) else if a1 = (11 : Int32) then some ((a3 ^^^ (rdI g 32 4)), g) else if a1 = (20 : Int32) then bdd (C 0 a2 (0 : Int32) a3 a4 g) (fun ra16 ga17 => some ((ra16 + (3 : Int32)), ga17)) else if a1 = (30 : Int32) then bdd (C 0 a2 (1 : Int32) a3 a4 g) (fun ra20 ga21 => some ((-ra20), ga21)) else if a1 = (40 : Int32) then bdd (C 0 a2 (2 : Int32) a3 a4 g) (fun ra24 ga25 => some ((ra24 * (3 : Int32)), ga25)) else if a1 = (41 : Int32) then bdd (C 0 a2 (1 : Int32) (a3 + (1 : Int32)) a4 g) (fun ra28 ga29 => some (ra28, ga29)) else if a1 = (50 : Int32) then bdd (C 0 a2 (2 : Int32) a3 a4 g) (fun ra32 ga33 => bdd (C 0 (rdI g 33 (rdI g 32 4).toNatClampNeg) (0 : Int32) (2 : Int32) a4 ga33) (fun ra35 ga36 => some ((ra32 - ra35), ga36))) else if a1 = (60 : Int32) then bdd (C 0 a2 (3 : Int32) a3 a4 g) (fun ra39 ga40 => some ((ra39 ^^^ (5 : Int32)), ga40)) else if a1 = (70 : Int32) then bdd (C 0 a2 (0 : Int32) a3 a4 g) (fun ra43 ga44 => some ((ra43 * (2 : Int32)), ga44)) else if a1 = (80 : Int32) then bdd (C 0 a2 (1 : Int32) a3 a4 g) (fun ra47 ga48 => bdd (C 0 (rdI g 33 (rdI g 32 4).toNatClampNeg) (2 : Int32) (2 : Int32) a4 ga48) (fun ra50 ga51 => some ((ra47 + ra50), ga51))) else if a1 = (81 : Int32) then bdd (C 0 a2 (3 : Int32) a3 a4 g) (fun ra54 ga55 => some ((ra54 - (1 : Int32)), ga55)) else some ((0 : Int32), g)))
set_option maxHeartbeats 2000000 in
theorem b_X0_runBody {d : Nat} {r2 : Int32} {g g2 : Mm} (hd : 1 ≤ d) {dn : Nat} {C : Nat → Int32 → Int32 → Int32 → Int32 → Mm → Option (Int32 × Mm)} (hdn : dn + 1 ≤ d) (hC0 : ∀ (b0 b1 b2 b3 : Int32) (g : Mm) (rr : Int32) (gg : Mm), C 0 b0 b1 b2 b3 g = some (rr, gg) → gx_M dn yX0_asKind cX0_asKind 7 (some .int) (fun al => [.ref (al (32)), .int (b0), .int (b1), .int (b2), .int (b3)]) g (some (.int rr)) gg) (hC1 : ∀ (b0 b1 b2 b3 : Int32) (g : Mm) (rr : Int32) (gg : Mm), C 1 b0 b1 b2 b3 g = some (rr, gg) → gx_M dn yX0_runBody cX0_runBody 6 (some .int) (fun al => [.ref (al (32)), .int (b0), .int (b1), .int (b2), .int (b3)]) g (some (.int rr)) gg) {a1 : Int32} {a2 : Int32} {a3 : Int32} {a4 : Int32} (h : m_X0_runBody C a1 a2 a3 a4 g = some (r2, g2)) : gx_M d yX0_runBody cX0_runBody 6 (some .int) (fun al => [.ref (al (32)), .int (a1), .int (a2), .int (a3), .int (a4)]) g (some (.int r2)) g2 := by
  refine gx_M.of (by decide +kernel) (fun _ => Nat.le_of_ble_eq_true rfl) ?_
  intro p l e R s m args below meth c D al cI cJ A X
  refine gx_eq (pc' := 0) (ls' := [(0, .ref (al (32))), (1, .int (a1)), (2, .int (a2)), (3, .int (a3)), (4, .int (a4))]) (st' := []) (g' := g) ⟨rfl, rfl, rfl, rfl⟩ ?_
  unfold m_X0_runBody at h
  refine gx_aload_n X 0 rfl dX0_runBody_0 ?_
  refine gx_getf X (32) lf_X0_9 (by decide) (cl_32 _ _) (v := .ref (al (33))) rfl dX0_runBody_1 ?_
  refine gx_aload_n X 0 rfl dX0_runBody_4 ?_
  refine gx_getf X (32) lf_X0_23 (by decide) (cl_32 _ _) (v := .int ((rdI g 32 4))) rfl dX0_runBody_5 ?_
  obtain ⟨q1, h⟩ := gdd_eq h
  refine gx_iald X (33) 50 (by decide) (cl_33 _ _) q1 dX0_runBody_8 ?_
  refine gx_istore X [(5, .int ((rdI g 33 (rdI g 32 4).toNatClampNeg))), (0, .ref (al (32))), (1, .int (a1)), (2, .int (a2)), (3, .int (a3)), (4, .int (a4))] dX0_runBody_9 (by decide) rfl ?_
  refine gx_iload_n X 2 rfl dX0_runBody_11 ?_
  by_cases q2 : a1 = (1 : Int32)
  · replace h := (if_pos q2).symm.trans h
    refine gx_look (off := 116) 128 X dX0_runBody_12 (by decide) (by rw [q2] <;> rfl) (by decide) ?_
    refine gx_iload_n X 4 rfl dX0_runBody_128 ?_
    refine gx_aload_n X 1 rfl dX0_runBody_129 ?_
    refine gx_getf X (32) lf_X0_23 (by decide) (cl_32 _ _) (v := .int ((rdI g 32 4))) rfl dX0_runBody_130 ?_
    refine gx_iadd X dX0_runBody_133 ?_
    obtain ⟨rfl, rfl⟩ := ret_eq h
    exact gx_iret X rfl dX0_runBody_134
  · replace h := (if_neg q2).symm.trans h
    by_cases q3 : a1 = (2 : Int32)
    · replace h := (if_pos q3).symm.trans h
      refine gx_look (off := 123) 135 X dX0_runBody_12 (by decide) ((lv_osw q2 (by decide)).trans (by rw [q3] <;> rfl)) (by decide) ?_
      refine gx_aload_n X 1 rfl dX0_runBody_135 ?_
      refine gx_iload X 0 rfl dX0_runBody_136 ?_
      refine gx_iconst X (v := (1 : Int32)) dX0_runBody_138 (by decide) ?_
      refine gx_iload_n X 4 rfl dX0_runBody_139 ?_
      refine gx_iload X 5 rfl dX0_runBody_140 ?_
      obtain ⟨ra4, ga5, ca6, h⟩ := bdd_eq h
      refine gx_callVi X (32) (hC0 _ _ _ _ _ _ _ ca6) lc_X0_asKind li_X0_asKind lm_X0_35 (by decide) (cl_32 _ _) rfl rfl rfl hdn rfl (Nat.le_of_ble_eq_true rfl) dX0_runBody_142 ?_
      refine gx_aload_n X 1 rfl dX0_runBody_145 ?_
      refine gx_iload X 0 rfl dX0_runBody_146 ?_
      refine gx_iconst X (v := (2 : Int32)) dX0_runBody_148 (by decide) ?_
      refine gx_iconst X (v := (1 : Int32)) dX0_runBody_149 (by decide) ?_
      refine gx_iload X 5 rfl dX0_runBody_150 ?_
      obtain ⟨ra7, ga8, ca9, h⟩ := bdd_eq h
      refine gx_callVi X (32) (hC0 _ _ _ _ _ _ _ ca9) lc_X0_asKind li_X0_asKind lm_X0_35 (by decide) (cl_32 _ _) rfl rfl rfl hdn rfl (Nat.le_of_ble_eq_true rfl) dX0_runBody_152 ?_
      refine gx_isub X dX0_runBody_155 ?_
      obtain ⟨rfl, rfl⟩ := ret_eq h
      exact gx_iret X rfl dX0_runBody_156
    · replace h := (if_neg q3).symm.trans h
      by_cases q10 : a1 = (10 : Int32)
      · replace h := (if_pos q10).symm.trans h
        refine gx_look (off := 145) 157 X dX0_runBody_12 (by decide) ((lv_osw q2 (by decide)).trans ((lv_osw q3 (by decide)).trans (by rw [q10] <;> rfl))) (by decide) ?_
        refine gx_aload_n X 1 rfl dX0_runBody_157 ?_
        refine gx_iload X 0 rfl dX0_runBody_158 ?_
        refine gx_iconst X (v := (0 : Int32)) dX0_runBody_160 (by decide) ?_
        refine gx_iload_n X 4 rfl dX0_runBody_161 ?_
        refine gx_iload X 5 rfl dX0_runBody_162 ?_
        obtain ⟨ra11, ga12, ca13, h⟩ := bdd_eq h
        refine gx_callVi X (32) (hC0 _ _ _ _ _ _ _ ca13) lc_X0_asKind li_X0_asKind lm_X0_35 (by decide) (cl_32 _ _) rfl rfl rfl hdn rfl (Nat.le_of_ble_eq_true rfl) dX0_runBody_164 ?_
        refine gx_iconst X (v := (2 : Int32)) dX0_runBody_167 (by decide) ?_
        refine gx_imul X dX0_runBody_168 ?_
        obtain ⟨rfl, rfl⟩ := ret_eq h
        exact gx_iret X rfl dX0_runBody_169
      · replace h := (if_neg q10).symm.trans h
        by_cases q14 : a1 = (11 : Int32)
        · replace h := (if_pos q14).symm.trans h
          refine gx_look (off := 158) 170 X dX0_runBody_12 (by decide) ((lv_osw q2 (by decide)).trans ((lv_osw q3 (by decide)).trans ((lv_osw q10 (by decide)).trans (by rw [q14] <;> rfl)))) (by decide) ?_
          refine gx_iload_n X 4 rfl dX0_runBody_170 ?_
          refine gx_aload_n X 1 rfl dX0_runBody_171 ?_
          refine gx_getf X (32) lf_X0_23 (by decide) (cl_32 _ _) (v := .int ((rdI g 32 4))) rfl dX0_runBody_172 ?_
          refine gx_ixor X dX0_runBody_175 ?_
          obtain ⟨rfl, rfl⟩ := ret_eq h
          exact gx_iret X rfl dX0_runBody_176
        · replace h := (if_neg q14).symm.trans h
          by_cases q15 : a1 = (20 : Int32)
          · replace h := (if_pos q15).symm.trans h
            refine gx_look (off := 165) 177 X dX0_runBody_12 (by decide) ((lv_osw q2 (by decide)).trans ((lv_osw q3 (by decide)).trans ((lv_osw q10 (by decide)).trans ((lv_osw q14 (by decide)).trans (by rw [q15] <;> rfl))))) (by decide) ?_
            refine gx_aload_n X 1 rfl dX0_runBody_177 ?_
            refine gx_iload_n X 3 rfl dX0_runBody_178 ?_
            refine gx_iconst X (v := (0 : Int32)) dX0_runBody_179 (by decide) ?_
            refine gx_iload_n X 4 rfl dX0_runBody_180 ?_
            refine gx_iload X 5 rfl dX0_runBody_181 ?_
            obtain ⟨ra16, ga17, ca18, h⟩ := bdd_eq h
            refine gx_callVi X (32) (hC0 _ _ _ _ _ _ _ ca18) lc_X0_asKind li_X0_asKind lm_X0_35 (by decide) (cl_32 _ _) rfl rfl rfl hdn rfl (Nat.le_of_ble_eq_true rfl) dX0_runBody_183 ?_
            refine gx_iconst X (v := (3 : Int32)) dX0_runBody_186 (by decide) ?_
            refine gx_iadd X dX0_runBody_187 ?_
            obtain ⟨rfl, rfl⟩ := ret_eq h
            exact gx_iret X rfl dX0_runBody_188
          · replace h := (if_neg q15).symm.trans h
            by_cases q19 : a1 = (30 : Int32)
            · replace h := (if_pos q19).symm.trans h
              refine gx_look (off := 177) 189 X dX0_runBody_12 (by decide) ((lv_osw q2 (by decide)).trans ((lv_osw q3 (by decide)).trans ((lv_osw q10 (by decide)).trans ((lv_osw q14 (by decide)).trans ((lv_osw q15 (by decide)).trans (by rw [q19] <;> rfl)))))) (by decide) ?_
              refine gx_aload_n X 1 rfl dX0_runBody_189 ?_
              refine gx_iload_n X 3 rfl dX0_runBody_190 ?_
              refine gx_iconst X (v := (1 : Int32)) dX0_runBody_191 (by decide) ?_
              refine gx_iload_n X 4 rfl dX0_runBody_192 ?_
              refine gx_iload X 5 rfl dX0_runBody_193 ?_
              obtain ⟨ra20, ga21, ca22, h⟩ := bdd_eq h
              refine gx_callVi X (32) (hC0 _ _ _ _ _ _ _ ca22) lc_X0_asKind li_X0_asKind lm_X0_35 (by decide) (cl_32 _ _) rfl rfl rfl hdn rfl (Nat.le_of_ble_eq_true rfl) dX0_runBody_195 ?_
              refine gx_ineg X dX0_runBody_198 ?_
              obtain ⟨rfl, rfl⟩ := ret_eq h
              exact gx_iret X rfl dX0_runBody_199
            · replace h := (if_neg q19).symm.trans h
              by_cases q23 : a1 = (40 : Int32)
              · replace h := (if_pos q23).symm.trans h
                refine gx_look (off := 188) 200 X dX0_runBody_12 (by decide) ((lv_osw q2 (by decide)).trans ((lv_osw q3 (by decide)).trans ((lv_osw q10 (by decide)).trans ((lv_osw q14 (by decide)).trans ((lv_osw q15 (by decide)).trans ((lv_osw q19 (by decide)).trans (by rw [q23] <;> rfl))))))) (by decide) ?_
                refine gx_aload_n X 1 rfl dX0_runBody_200 ?_
                refine gx_iload_n X 3 rfl dX0_runBody_201 ?_
                refine gx_iconst X (v := (2 : Int32)) dX0_runBody_202 (by decide) ?_
                refine gx_iload_n X 4 rfl dX0_runBody_203 ?_
                refine gx_iload X 5 rfl dX0_runBody_204 ?_
                obtain ⟨ra24, ga25, ca26, h⟩ := bdd_eq h
                refine gx_callVi X (32) (hC0 _ _ _ _ _ _ _ ca26) lc_X0_asKind li_X0_asKind lm_X0_35 (by decide) (cl_32 _ _) rfl rfl rfl hdn rfl (Nat.le_of_ble_eq_true rfl) dX0_runBody_206 ?_
                refine gx_iconst X (v := (3 : Int32)) dX0_runBody_209 (by decide) ?_
                refine gx_imul X dX0_runBody_210 ?_
                obtain ⟨rfl, rfl⟩ := ret_eq h
                exact gx_iret X rfl dX0_runBody_211
              · replace h := (if_neg q23).symm.trans h
                by_cases q27 : a1 = (41 : Int32)
                · replace h := (if_pos q27).symm.trans h
                  refine gx_look (off := 200) 212 X dX0_runBody_12 (by decide) ((lv_osw q2 (by decide)).trans ((lv_osw q3 (by decide)).trans ((lv_osw q10 (by decide)).trans ((lv_osw q14 (by decide)).trans ((lv_osw q15 (by decide)).trans ((lv_osw q19 (by decide)).trans ((lv_osw q23 (by decide)).trans (by rw [q27] <;> rfl)))))))) (by decide) ?_
                  refine gx_aload_n X 1 rfl dX0_runBody_212 ?_
                  refine gx_iload_n X 3 rfl dX0_runBody_213 ?_
                  refine gx_iconst X (v := (1 : Int32)) dX0_runBody_214 (by decide) ?_
                  refine gx_iload_n X 4 rfl dX0_runBody_215 ?_
                  refine gx_iconst X (v := (1 : Int32)) dX0_runBody_216 (by decide) ?_
                  refine gx_iadd X dX0_runBody_217 ?_
                  refine gx_iload X 5 rfl dX0_runBody_218 ?_
                  obtain ⟨ra28, ga29, ca30, h⟩ := bdd_eq h
                  refine gx_callVi X (32) (hC0 _ _ _ _ _ _ _ ca30) lc_X0_asKind li_X0_asKind lm_X0_35 (by decide) (cl_32 _ _) rfl rfl rfl hdn rfl (Nat.le_of_ble_eq_true rfl) dX0_runBody_220 ?_
                  obtain ⟨rfl, rfl⟩ := ret_eq h
                  exact gx_iret X rfl dX0_runBody_223
                · replace h := (if_neg q27).symm.trans h
                  by_cases q31 : a1 = (50 : Int32)
                  · replace h := (if_pos q31).symm.trans h
                    refine gx_look (off := 212) 224 X dX0_runBody_12 (by decide) ((lv_osw q2 (by decide)).trans ((lv_osw q3 (by decide)).trans ((lv_osw q10 (by decide)).trans ((lv_osw q14 (by decide)).trans ((lv_osw q15 (by decide)).trans ((lv_osw q19 (by decide)).trans ((lv_osw q23 (by decide)).trans ((lv_osw q27 (by decide)).trans (by rw [q31] <;> rfl))))))))) (by decide) ?_
                    refine gx_aload_n X 1 rfl dX0_runBody_224 ?_
                    refine gx_iload_n X 3 rfl dX0_runBody_225 ?_
                    refine gx_iconst X (v := (2 : Int32)) dX0_runBody_226 (by decide) ?_
                    refine gx_iload_n X 4 rfl dX0_runBody_227 ?_
                    refine gx_iload X 5 rfl dX0_runBody_228 ?_
                    obtain ⟨ra32, ga33, ca34, h⟩ := bdd_eq h
                    refine gx_callVi X (32) (hC0 _ _ _ _ _ _ _ ca34) lc_X0_asKind li_X0_asKind lm_X0_35 (by decide) (cl_32 _ _) rfl rfl rfl hdn rfl (Nat.le_of_ble_eq_true rfl) dX0_runBody_230 ?_
                    refine gx_aload_n X 1 rfl dX0_runBody_233 ?_
                    refine gx_iload X 0 rfl dX0_runBody_234 ?_
                    refine gx_iconst X (v := (0 : Int32)) dX0_runBody_236 (by decide) ?_
                    refine gx_iconst X (v := (2 : Int32)) dX0_runBody_237 (by decide) ?_
                    refine gx_iload X 5 rfl dX0_runBody_238 ?_
                    obtain ⟨ra35, ga36, ca37, h⟩ := bdd_eq h
                    refine gx_callVi X (32) (hC0 _ _ _ _ _ _ _ ca37) lc_X0_asKind li_X0_asKind lm_X0_35 (by decide) (cl_32 _ _) rfl rfl rfl hdn rfl (Nat.le_of_ble_eq_true rfl) dX0_runBody_240 ?_
                    refine gx_isub X dX0_runBody_243 ?_
                    obtain ⟨rfl, rfl⟩ := ret_eq h
                    exact gx_iret X rfl dX0_runBody_244
                  · replace h := (if_neg q31).symm.trans h
                    by_cases q38 : a1 = (60 : Int32)
                    · replace h := (if_pos q38).symm.trans h
                      refine gx_look (off := 233) 245 X dX0_runBody_12 (by decide) ((lv_osw q2 (by decide)).trans ((lv_osw q3 (by decide)).trans ((lv_osw q10 (by decide)).trans ((lv_osw q14 (by decide)).trans ((lv_osw q15 (by decide)).trans ((lv_osw q19 (by decide)).trans ((lv_osw q23 (by decide)).trans ((lv_osw q27 (by decide)).trans ((lv_osw q31 (by decide)).trans (by rw [q38] <;> rfl)))))))))) (by decide) ?_
                      refine gx_aload_n X 1 rfl dX0_runBody_245 ?_
                      refine gx_iload_n X 3 rfl dX0_runBody_246 ?_
                      refine gx_iconst X (v := (3 : Int32)) dX0_runBody_247 (by decide) ?_
                      refine gx_iload_n X 4 rfl dX0_runBody_248 ?_
                      refine gx_iload X 5 rfl dX0_runBody_249 ?_
                      obtain ⟨ra39, ga40, ca41, h⟩ := bdd_eq h
                      refine gx_callVi X (32) (hC0 _ _ _ _ _ _ _ ca41) lc_X0_asKind li_X0_asKind lm_X0_35 (by decide) (cl_32 _ _) rfl rfl rfl hdn rfl (Nat.le_of_ble_eq_true rfl) dX0_runBody_251 ?_
                      refine gx_iconst X (v := (5 : Int32)) dX0_runBody_254 (by decide) ?_
                      refine gx_ixor X dX0_runBody_255 ?_
                      obtain ⟨rfl, rfl⟩ := ret_eq h
                      exact gx_iret X rfl dX0_runBody_256
                    · replace h := (if_neg q38).symm.trans h
                      by_cases q42 : a1 = (70 : Int32)
                      · replace h := (if_pos q42).symm.trans h
                        refine gx_look (off := 245) 257 X dX0_runBody_12 (by decide) ((lv_osw q2 (by decide)).trans ((lv_osw q3 (by decide)).trans ((lv_osw q10 (by decide)).trans ((lv_osw q14 (by decide)).trans ((lv_osw q15 (by decide)).trans ((lv_osw q19 (by decide)).trans ((lv_osw q23 (by decide)).trans ((lv_osw q27 (by decide)).trans ((lv_osw q31 (by decide)).trans ((lv_osw q38 (by decide)).trans (by rw [q42] <;> rfl))))))))))) (by decide) ?_
                        refine gx_aload_n X 1 rfl dX0_runBody_257 ?_
                        refine gx_iload_n X 3 rfl dX0_runBody_258 ?_
                        refine gx_iconst X (v := (0 : Int32)) dX0_runBody_259 (by decide) ?_
                        refine gx_iload_n X 4 rfl dX0_runBody_260 ?_
                        refine gx_iload X 5 rfl dX0_runBody_261 ?_
                        obtain ⟨ra43, ga44, ca45, h⟩ := bdd_eq h
                        refine gx_callVi X (32) (hC0 _ _ _ _ _ _ _ ca45) lc_X0_asKind li_X0_asKind lm_X0_35 (by decide) (cl_32 _ _) rfl rfl rfl hdn rfl (Nat.le_of_ble_eq_true rfl) dX0_runBody_263 ?_
                        refine gx_iconst X (v := (2 : Int32)) dX0_runBody_266 (by decide) ?_
                        refine gx_imul X dX0_runBody_267 ?_
                        obtain ⟨rfl, rfl⟩ := ret_eq h
                        exact gx_iret X rfl dX0_runBody_268
                      · replace h := (if_neg q42).symm.trans h
                        by_cases q46 : a1 = (80 : Int32)
                        · replace h := (if_pos q46).symm.trans h
                          refine gx_look (off := 257) 269 X dX0_runBody_12 (by decide) ((lv_osw q2 (by decide)).trans ((lv_osw q3 (by decide)).trans ((lv_osw q10 (by decide)).trans ((lv_osw q14 (by decide)).trans ((lv_osw q15 (by decide)).trans ((lv_osw q19 (by decide)).trans ((lv_osw q23 (by decide)).trans ((lv_osw q27 (by decide)).trans ((lv_osw q31 (by decide)).trans ((lv_osw q38 (by decide)).trans ((lv_osw q42 (by decide)).trans (by rw [q46] <;> rfl)))))))))))) (by decide) ?_
                          refine gx_aload_n X 1 rfl dX0_runBody_269 ?_
                          refine gx_iload_n X 3 rfl dX0_runBody_270 ?_
                          refine gx_iconst X (v := (1 : Int32)) dX0_runBody_271 (by decide) ?_
                          refine gx_iload_n X 4 rfl dX0_runBody_272 ?_
                          refine gx_iload X 5 rfl dX0_runBody_273 ?_
                          obtain ⟨ra47, ga48, ca49, h⟩ := bdd_eq h
                          refine gx_callVi X (32) (hC0 _ _ _ _ _ _ _ ca49) lc_X0_asKind li_X0_asKind lm_X0_35 (by decide) (cl_32 _ _) rfl rfl rfl hdn rfl (Nat.le_of_ble_eq_true rfl) dX0_runBody_275 ?_
                          refine gx_aload_n X 1 rfl dX0_runBody_278 ?_
                          refine gx_iload X 0 rfl dX0_runBody_279 ?_
                          refine gx_iconst X (v := (2 : Int32)) dX0_runBody_281 (by decide) ?_
                          refine gx_iconst X (v := (2 : Int32)) dX0_runBody_282 (by decide) ?_
                          refine gx_iload X 5 rfl dX0_runBody_283 ?_
                          obtain ⟨ra50, ga51, ca52, h⟩ := bdd_eq h
                          refine gx_callVi X (32) (hC0 _ _ _ _ _ _ _ ca52) lc_X0_asKind li_X0_asKind lm_X0_35 (by decide) (cl_32 _ _) rfl rfl rfl hdn rfl (Nat.le_of_ble_eq_true rfl) dX0_runBody_285 ?_
                          refine gx_iadd X dX0_runBody_288 ?_
                          obtain ⟨rfl, rfl⟩ := ret_eq h
                          exact gx_iret X rfl dX0_runBody_289
                        · replace h := (if_neg q46).symm.trans h
                          by_cases q53 : a1 = (81 : Int32)
                          · replace h := (if_pos q53).symm.trans h
                            refine gx_look (off := 278) 290 X dX0_runBody_12 (by decide) ((lv_osw q2 (by decide)).trans ((lv_osw q3 (by decide)).trans ((lv_osw q10 (by decide)).trans ((lv_osw q14 (by decide)).trans ((lv_osw q15 (by decide)).trans ((lv_osw q19 (by decide)).trans ((lv_osw q23 (by decide)).trans ((lv_osw q27 (by decide)).trans ((lv_osw q31 (by decide)).trans ((lv_osw q38 (by decide)).trans ((lv_osw q42 (by decide)).trans ((lv_osw q46 (by decide)).trans (by rw [q53] <;> rfl))))))))))))) (by decide) ?_
                            refine gx_aload_n X 1 rfl dX0_runBody_290 ?_
                            refine gx_iload_n X 3 rfl dX0_runBody_291 ?_
                            refine gx_iconst X (v := (3 : Int32)) dX0_runBody_292 (by decide) ?_
                            refine gx_iload_n X 4 rfl dX0_runBody_293 ?_
                            refine gx_iload X 5 rfl dX0_runBody_294 ?_
                            obtain ⟨ra54, ga55, ca56, h⟩ := bdd_eq h
                            refine gx_callVi X (32) (hC0 _ _ _ _ _ _ _ ca56) lc_X0_asKind li_X0_asKind lm_X0_35 (by decide) (cl_32 _ _) rfl rfl rfl hdn rfl (Nat.le_of_ble_eq_true rfl) dX0_runBody_296 ?_
                            refine gx_iconst X (v := (1 : Int32)) dX0_runBody_299 (by decide) ?_
                            refine gx_isub X dX0_runBody_300 ?_
                            obtain ⟨rfl, rfl⟩ := ret_eq h
                            exact gx_iret X rfl dX0_runBody_301
                          · replace h := (if_neg q53).symm.trans h
                            refine gx_look (off := 290) 302 X dX0_runBody_12 (by decide) ((lv_osw q2 (by decide)).trans ((lv_osw q3 (by decide)).trans ((lv_osw q10 (by decide)).trans ((lv_osw q14 (by decide)).trans ((lv_osw q15 (by decide)).trans ((lv_osw q19 (by decide)).trans ((lv_osw q23 (by decide)).trans ((lv_osw q27 (by decide)).trans ((lv_osw q31 (by decide)).trans ((lv_osw q38 (by decide)).trans ((lv_osw q42 (by decide)).trans ((lv_osw q46 (by decide)).trans ((lv_osw q53 (by decide)).trans (rfl)))))))))))))) (by decide) ?_
                            refine gx_iconst X (v := (0 : Int32)) dX0_runBody_302 (by decide) ?_
                            obtain ⟨rfl, rfl⟩ := ret_eq h
                            exact gx_iret X rfl dX0_runBody_303
def ga_ : Nat → Nat → Int32 → Int32 → Int32 → Int32 → Mm → Option (Int32 × Mm)
  | 0, _, _, _, _, _, _ => none
  | n + 1, t, b0, b1, b2, b3, g => if t = 0 then m_X0_asKind (ga_ n) b0 b1 b2 b3 g else if t = 1 then m_X0_runBody (ga_ n) b0 b1 b2 b3 g else none
set_option maxHeartbeats 2000000 in
theorem ga_all : ∀ n : Nat, (∀ (b0 b1 b2 b3 : Int32) (g : Mm) (rr : Int32) (gg : Mm), ga_ n 0 b0 b1 b2 b3 g = some (rr, gg) → gx_M (1 + n) yX0_asKind cX0_asKind 7 (some .int) (fun al => [.ref (al (32)), .int (b0), .int (b1), .int (b2), .int (b3)]) g (some (.int rr)) gg) ∧ (∀ (b0 b1 b2 b3 : Int32) (g : Mm) (rr : Int32) (gg : Mm), ga_ n 1 b0 b1 b2 b3 g = some (rr, gg) → gx_M (1 + n) yX0_runBody cX0_runBody 6 (some .int) (fun al => [.ref (al (32)), .int (b0), .int (b1), .int (b2), .int (b3)]) g (some (.int rr)) gg) := by
  intro n
  induction n with
  | zero => exact ⟨fun b0 b1 b2 b3 g rr gg h => (by cases h), fun b0 b1 b2 b3 g rr gg h => (by cases h)⟩
  | succ n ih =>
    obtain ⟨i0, i1⟩ := ih
    have hd : 1 ≤ 1 + (n + 1) := Nat.le_add_right _ _
    have hdn : (1 + n) + 1 ≤ 1 + (n + 1) := Nat.le_refl _
    exact ⟨fun b0 b1 b2 b3 g rr gg h => b_X0_asKind hd hdn i0 i1 h, fun b0 b1 b2 b3 g rr gg h => b_X0_runBody hd hdn i0 i1 h⟩
theorem c_X0_asKind {b0 b1 b2 b3 : Int32} {g : Mm} {rr : Int32} {gg : Mm} (h : ga_ 60 0 b0 b1 b2 b3 g = some (rr, gg)) : gx_M 61 yX0_asKind cX0_asKind 7 (some .int) (fun al => [.ref (al (32)), .int (b0), .int (b1), .int (b2), .int (b3)]) g (some (.int rr)) gg := (ga_all 60).1 _ _ _ _ _ _ _ h
theorem c_X0_runBody {b0 b1 b2 b3 : Int32} {g : Mm} {rr : Int32} {gg : Mm} (h : ga_ 60 1 b0 b1 b2 b3 g = some (rr, gg)) : gx_M 61 yX0_runBody cX0_runBody 6 (some .int) (fun al => [.ref (al (32)), .int (b0), .int (b1), .int (b2), .int (b3)]) g (some (.int rr)) gg := (ga_all 60).2 _ _ _ _ _ _ _ h
theorem dX0_isUnder_0 : decode cX0_isUnder 0 = .ok (.iload_n 1, 1) := by decide +kernel
theorem dX0_isUnder_1 : decode cX0_isUnder 1 = .ok (.istore_n 3, 1) := by decide +kernel
theorem dX0_isUnder_2 : decode cX0_isUnder 2 = .ok (.iconst 0, 1) := by decide +kernel
theorem dX0_isUnder_3 : decode cX0_isUnder 3 = .ok (.istore 4, 2) := by decide +kernel
theorem dX0_isUnder_5 : decode cX0_isUnder 5 = .ok (.iload 4, 2) := by decide +kernel
theorem dX0_isUnder_7 : decode cX0_isUnder 7 = .ok (.bipush 8, 2) := by decide +kernel
theorem dX0_isUnder_9 : decode cX0_isUnder 9 = .ok (.if_icmp .ge 22, 3) := by decide +kernel
theorem dX0_isUnder_12 : decode cX0_isUnder 12 = .ok (.iload_n 3, 1) := by decide +kernel
theorem dX0_isUnder_13 : decode cX0_isUnder 13 = .ok (.iload_n 2, 1) := by decide +kernel
theorem dX0_isUnder_14 : decode cX0_isUnder 14 = .ok (.if_icmp .ne 5, 3) := by decide +kernel
theorem dX0_isUnder_17 : decode cX0_isUnder 17 = .ok (.iconst 1, 1) := by decide +kernel
theorem dX0_isUnder_18 : decode cX0_isUnder 18 = .ok (.ireturn, 1) := by decide +kernel
theorem dX0_isUnder_19 : decode cX0_isUnder 19 = .ok (.getstatic 26, 3) := by decide +kernel
theorem dX0_isUnder_22 : decode cX0_isUnder 22 = .ok (.iload_n 3, 1) := by decide +kernel
theorem dX0_isUnder_23 : decode cX0_isUnder 23 = .ok (.iaload, 1) := by decide +kernel
theorem dX0_isUnder_24 : decode cX0_isUnder 24 = .ok (.istore_n 3, 1) := by decide +kernel
theorem dX0_isUnder_25 : decode cX0_isUnder 25 = .ok (.iinc 4 1, 3) := by decide +kernel
theorem dX0_isUnder_28 : decode cX0_isUnder 28 = .ok (.goto (-23), 3) := by decide +kernel
theorem dX0_isUnder_31 : decode cX0_isUnder 31 = .ok (.iconst 0, 1) := by decide +kernel
theorem dX0_isUnder_32 : decode cX0_isUnder 32 = .ok (.ireturn, 1) := by decide +kernel
def m_X0_isUnder_5 : Nat → Int32 → Int32 → Int32 → Mm → Option (Int32 × Mm)
  | 0, _, _, _, _ => none
  | n + 1, x2, x3, x4, g => (if (8 : Int32) ≤ x4 then some ((0 : Int32), g) else (if x3 = x2 then some ((1 : Int32), g) else gdd (ixo x3 8) (m_X0_isUnder_5 n x2 (tbI 100 x3.toNatClampNeg) (x4 + (1 : Int32)) g)))
set_option maxHeartbeats 2000000 in
theorem t_X0_isUnder_5 {r2 : Int32} {g2 : Mm} (X : gx_X p R s m args meth c D al cI cJ A RX0 cX0_isUnder 5 (some .boolean) d 0 0) (hd : 1 ≤ d) : ∀ (n : Nat) (x2 : Int32) (x3 : Int32) (x4 : Int32) (g : Mm), m_X0_isUnder_5 n x2 x3 x4 g = some (r2, g2) → gx_G p l e R s m args below meth c (gx_Q below args s D al cI cJ A (some (.int r2)) g2) D al cI cJ A 5 0 0 5 [(2, .int (x2)), (3, .int (x3)), (4, .int (x4))] [] g := by
  intro n
  induction n with
  | zero => intro x2 x3 x4 g h; cases h
  | succ n ih =>
    intro x2 x3 x4 g h
    rw [m_X0_isUnder_5] at h
    refine gx_iload X 2 rfl dX0_isUnder_5 ?_
    refine gx_bipush X (v := (8 : Int32)) dX0_isUnder_7 (by decide) ?_
    refine gx_icmp_ge X 31 dX0_isUnder_9 (by decide) (fun q1 => ?_) (fun q1 => ?_)
    · replace h := (if_pos q1).symm.trans h
      refine gx_iconst X (v := (0 : Int32)) dX0_isUnder_31 (by decide) ?_
      obtain ⟨rfl, rfl⟩ := ret_eq h
      exact gx_iret X rfl dX0_isUnder_32
    · replace h := (if_neg q1).symm.trans h
      refine gx_iload_n X 1 rfl dX0_isUnder_12 ?_
      refine gx_iload_n X 0 rfl dX0_isUnder_13 ?_
      refine gx_icmp_ne X 19 dX0_isUnder_14 (by decide) (fun q2 => ?_) (fun q2 => ?_)
      · replace h := (if_neg q2).symm.trans h
        refine gx_g_above X lst_X0_26 dX0_isUnder_19 ?_
        refine gx_iload_n X 1 rfl dX0_isUnder_22 ?_
        obtain ⟨q3, h⟩ := gdd_eq h
        refine gx_t_above X q3 dX0_isUnder_23 ?_
        refine gx_istore_n X [(3, .int ((tbI 100 x3.toNatClampNeg))), (2, .int (x2)), (4, .int (x4))] dX0_isUnder_24 (by decide) rfl ?_
        refine gx_iinc X [(4, .int ((x4 + (1 : Int32)))), (3, .int ((tbI 100 x3.toNatClampNeg))), (2, .int (x2))] 2 dX0_isUnder_25 rfl rfl (by decide) rfl ?_
        refine gx_goto X 5 dX0_isUnder_28 (by decide) ?_
        exact gx_sub [2, 1, 0] rfl (ih x2 (tbI 100 x3.toNatClampNeg) (x4 + (1 : Int32)) g h)
      · replace h := (if_pos q2).symm.trans h
        refine gx_iconst X (v := (1 : Int32)) dX0_isUnder_17 (by decide) ?_
        obtain ⟨rfl, rfl⟩ := ret_eq h
        exact gx_iret X rfl dX0_isUnder_18
def m_X0_isUnder (a1 : Int32) (a2 : Int32) (g : Mm) : Option (Int32 × Mm) := m_X0_isUnder_5 fuL a2 a1 (0 : Int32) g
set_option maxHeartbeats 2000000 in
theorem c_X0_isUnder {r2 : Int32} {g g2 : Mm} {a1 : Int32} {a2 : Int32} (h : m_X0_isUnder a1 a2 g = some (r2, g2)) : gx_M 1 yX0_isUnder cX0_isUnder 5 (some .boolean) (fun al => [.ref (al (32)), .int (a1), .int (a2)]) g (some (.int r2)) g2 := by
  have hd : 1 ≤ 1 := Nat.le_refl _
  refine gx_M.of (by decide +kernel) (fun _ => Nat.le_of_ble_eq_true rfl) ?_
  intro p l e R s m args below meth c D al cI cJ A X
  refine gx_eq (pc' := 0) (ls' := [(0, .ref (al (32))), (1, .int (a1)), (2, .int (a2))]) (st' := []) (g' := g) ⟨rfl, rfl, rfl, rfl⟩ ?_
  unfold m_X0_isUnder at h
  refine gx_iload_n X 1 rfl dX0_isUnder_0 ?_
  refine gx_istore_n X [(3, .int (a1)), (0, .ref (al (32))), (1, .int (a1)), (2, .int (a2))] dX0_isUnder_1 (by decide) rfl ?_
  refine gx_iconst X (v := (0 : Int32)) dX0_isUnder_2 (by decide) ?_
  refine gx_istore X [(4, .int ((0 : Int32))), (3, .int (a1)), (0, .ref (al (32))), (1, .int (a1)), (2, .int (a2))] dX0_isUnder_3 (by decide) rfl ?_
  exact gx_sub [4, 1, 0] rfl (t_X0_isUnder_5 X hd fuL a2 a1 (0 : Int32) g h)
theorem dX0_kindOf_0 : decode cX0_kindOf 0 = .ok (.iload_n 1, 1) := by decide +kernel
theorem dX0_kindOf_1 : decode cX0_kindOf 1 = .ok (.ifCond .lt 20, 3) := by decide +kernel
theorem dX0_kindOf_4 : decode cX0_kindOf 4 = .ok (.iload_n 1, 1) := by decide +kernel
theorem dX0_kindOf_5 : decode cX0_kindOf 5 = .ok (.aload_n 0, 1) := by decide +kernel
theorem dX0_kindOf_6 : decode cX0_kindOf 6 = .ok (.getfield 16, 3) := by decide +kernel
theorem dX0_kindOf_9 : decode cX0_kindOf 9 = .ok (.if_icmp .ge 12, 3) := by decide +kernel
theorem dX0_kindOf_12 : decode cX0_kindOf 12 = .ok (.aload_n 0, 1) := by decide +kernel
theorem dX0_kindOf_13 : decode cX0_kindOf 13 = .ok (.getfield 9, 3) := by decide +kernel
theorem dX0_kindOf_16 : decode cX0_kindOf 16 = .ok (.iload_n 1, 1) := by decide +kernel
theorem dX0_kindOf_17 : decode cX0_kindOf 17 = .ok (.iaload, 1) := by decide +kernel
theorem dX0_kindOf_18 : decode cX0_kindOf 18 = .ok (.goto 4, 3) := by decide +kernel
theorem dX0_kindOf_21 : decode cX0_kindOf 21 = .ok (.iconst 0, 1) := by decide +kernel
theorem dX0_kindOf_22 : decode cX0_kindOf 22 = .ok (.ireturn, 1) := by decide +kernel
def m_X0_kindOf (a1 : Int32) (g : Mm) : Option (Int32 × Mm) := (if a1 < (0 : Int32) then some ((0 : Int32), g) else (if (rdI g 32 2) ≤ a1 then some ((0 : Int32), g) else gdd (ixo a1 50) (some ((rdI g 33 a1.toNatClampNeg), g))))
set_option maxHeartbeats 2000000 in
theorem c_X0_kindOf {r2 : Int32} {g g2 : Mm} {a1 : Int32} (h : m_X0_kindOf a1 g = some (r2, g2)) : gx_M 1 yX0_kindOf cX0_kindOf 2 (some .int) (fun al => [.ref (al (32)), .int (a1)]) g (some (.int r2)) g2 := by
  have hd : 1 ≤ 1 := Nat.le_refl _
  refine gx_M.of (by decide +kernel) (fun _ => Nat.le_of_ble_eq_true rfl) ?_
  intro p l e R s m args below meth c D al cI cJ A X
  refine gx_eq (pc' := 0) (ls' := [(0, .ref (al (32))), (1, .int (a1))]) (st' := []) (g' := g) ⟨rfl, rfl, rfl, rfl⟩ ?_
  unfold m_X0_kindOf at h
  refine gx_iload_n X 1 rfl dX0_kindOf_0 ?_
  refine gx_if_lt X 21 dX0_kindOf_1 (by decide) (fun q1 => ?_) (fun q1 => ?_)
  · replace h := (if_pos q1).symm.trans h
    refine gx_iconst X (v := (0 : Int32)) dX0_kindOf_21 (by decide) ?_
    obtain ⟨rfl, rfl⟩ := ret_eq h
    exact gx_iret X rfl dX0_kindOf_22
  · replace h := (if_neg q1).symm.trans h
    refine gx_iload_n X 1 rfl dX0_kindOf_4 ?_
    refine gx_aload_n X 0 rfl dX0_kindOf_5 ?_
    refine gx_getf X (32) lf_X0_16 (by decide) (cl_32 _ _) (v := .int ((rdI g 32 2))) rfl dX0_kindOf_6 ?_
    refine gx_icmp_ge X 21 dX0_kindOf_9 (by decide) (fun q2 => ?_) (fun q2 => ?_)
    · replace h := (if_pos q2).symm.trans h
      refine gx_iconst X (v := (0 : Int32)) dX0_kindOf_21 (by decide) ?_
      obtain ⟨rfl, rfl⟩ := ret_eq h
      exact gx_iret X rfl dX0_kindOf_22
    · replace h := (if_neg q2).symm.trans h
      refine gx_aload_n X 0 rfl dX0_kindOf_12 ?_
      refine gx_getf X (32) lf_X0_9 (by decide) (cl_32 _ _) (v := .ref (al (33))) rfl dX0_kindOf_13 ?_
      refine gx_iload_n X 1 rfl dX0_kindOf_16 ?_
      obtain ⟨q3, h⟩ := gdd_eq h
      refine gx_iald X (33) 50 (by decide) (cl_33 _ _) q3 dX0_kindOf_17 ?_
      refine gx_goto X 22 dX0_kindOf_18 (by decide) ?_
      obtain ⟨rfl, rfl⟩ := ret_eq h
      exact gx_iret X rfl dX0_kindOf_22
theorem dX0_perform_0 : decode cX0_perform 0 = .ok (.aload_n 0, 1) := by decide +kernel
theorem dX0_perform_1 : decode cX0_perform 1 = .ok (.iconst 0, 1) := by decide +kernel
theorem dX0_perform_2 : decode cX0_perform 2 = .ok (.putfield 20, 3) := by decide +kernel
theorem dX0_perform_5 : decode cX0_perform 5 = .ok (.iload_n 1, 1) := by decide +kernel
theorem dX0_perform_6 : decode cX0_perform 6 = .ok (.ifCond .lt 20, 3) := by decide +kernel
theorem dX0_perform_9 : decode cX0_perform 9 = .ok (.iload_n 1, 1) := by decide +kernel
theorem dX0_perform_10 : decode cX0_perform 10 = .ok (.aload_n 0, 1) := by decide +kernel
theorem dX0_perform_11 : decode cX0_perform 11 = .ok (.getfield 16, 3) := by decide +kernel
theorem dX0_perform_14 : decode cX0_perform 14 = .ok (.if_icmp .ge 12, 3) := by decide +kernel
theorem dX0_perform_17 : decode cX0_perform 17 = .ok (.iload_n 2, 1) := by decide +kernel
theorem dX0_perform_18 : decode cX0_perform 18 = .ok (.ifCond .lt 8, 3) := by decide +kernel
theorem dX0_perform_21 : decode cX0_perform 21 = .ok (.iload_n 2, 1) := by decide +kernel
theorem dX0_perform_22 : decode cX0_perform 22 = .ok (.iconst 4, 1) := by decide +kernel
theorem dX0_perform_23 : decode cX0_perform 23 = .ok (.if_icmp .lt 5, 3) := by decide +kernel
theorem dX0_perform_26 : decode cX0_perform 26 = .ok (.iconst 0, 1) := by decide +kernel
theorem dX0_perform_27 : decode cX0_perform 27 = .ok (.ireturn, 1) := by decide +kernel
theorem dX0_perform_28 : decode cX0_perform 28 = .ok (.aload_n 0, 1) := by decide +kernel
theorem dX0_perform_29 : decode cX0_perform 29 = .ok (.iload_n 1, 1) := by decide +kernel
theorem dX0_perform_30 : decode cX0_perform 30 = .ok (.putfield 23, 3) := by decide +kernel
theorem dX0_perform_33 : decode cX0_perform 33 = .ok (.aload_n 0, 1) := by decide +kernel
theorem dX0_perform_34 : decode cX0_perform 34 = .ok (.aload_n 0, 1) := by decide +kernel
theorem dX0_perform_35 : decode cX0_perform 35 = .ok (.getfield 9, 3) := by decide +kernel
theorem dX0_perform_38 : decode cX0_perform 38 = .ok (.iload_n 1, 1) := by decide +kernel
theorem dX0_perform_39 : decode cX0_perform 39 = .ok (.iaload, 1) := by decide +kernel
theorem dX0_perform_40 : decode cX0_perform 40 = .ok (.iload_n 2, 1) := by decide +kernel
theorem dX0_perform_41 : decode cX0_perform 41 = .ok (.iload_n 3, 1) := by decide +kernel
theorem dX0_perform_42 : decode cX0_perform 42 = .ok (.iconst 0, 1) := by decide +kernel
theorem dX0_perform_43 : decode cX0_perform 43 = .ok (.invokevirtual 35, 3) := by decide +kernel
theorem dX0_perform_46 : decode cX0_perform 46 = .ok (.ireturn, 1) := by decide +kernel
def m_X0_perform (a1 : Int32) (a2 : Int32) (a3 : Int32) (g : Mm) : Option (Int32 × Mm) := (if a1 < (0 : Int32) then some ((0 : Int32), (wrI g 32 3 (0 : Int32))) else (if (rdI (wrI g 32 3 (0 : Int32)) 32 2) ≤ a1 then some ((0 : Int32), (wrI g 32 3 (0 : Int32))) else (if a2 < (0 : Int32) then some ((0 : Int32), (wrI g 32 3 (0 : Int32))) else (if a2 < (4 : Int32) then gdd (ixo a1 50) (bdd (ga_ 60 0 (rdI (wrI (wrI g 32 3 (0 : Int32)) 32 4 a1) 33 a1.toNatClampNeg) a2 a3 (0 : Int32) (wrI (wrI g 32 3 (0 : Int32)) 32 4 a1)) (fun ra6 ga7 => some (ra6, ga7))) else some ((0 : Int32), (wrI g 32 3 (0 : Int32)))))))
set_option maxHeartbeats 2000000 in
theorem c_X0_perform {r2 : Int32} {g g2 : Mm} {a1 : Int32} {a2 : Int32} {a3 : Int32} (h : m_X0_perform a1 a2 a3 g = some (r2, g2)) : gx_M 62 yX0_perform cX0_perform 4 (some .int) (fun al => [.ref (al (32)), .int (a1), .int (a2), .int (a3)]) g (some (.int r2)) g2 := by
  have hd : 62 ≤ 62 := Nat.le_refl _
  refine gx_M.of (by decide +kernel) (fun _ => Nat.le_of_ble_eq_true rfl) ?_
  intro p l e R s m args below meth c D al cI cJ A X
  refine gx_eq (pc' := 0) (ls' := [(0, .ref (al (32))), (1, .int (a1)), (2, .int (a2)), (3, .int (a3))]) (st' := []) (g' := g) ⟨rfl, rfl, rfl, rfl⟩ ?_
  unfold m_X0_perform at h
  refine gx_aload_n X 0 rfl dX0_perform_0 ?_
  refine gx_iconst X (v := (0 : Int32)) dX0_perform_1 (by decide) ?_
  refine gx_putf X (32) (0 : Int32) lf_X0_20 lp_X0_3 (by decide) (cl_32 _ _) (Nat.le_of_ble_eq_true rfl) rfl rfl rfl dX0_perform_2 ?_
  refine gx_iload_n X 1 rfl dX0_perform_5 ?_
  refine gx_if_lt X 26 dX0_perform_6 (by decide) (fun q1 => ?_) (fun q1 => ?_)
  · replace h := (if_pos q1).symm.trans h
    refine gx_iconst X (v := (0 : Int32)) dX0_perform_26 (by decide) ?_
    obtain ⟨rfl, rfl⟩ := ret_eq h
    exact gx_iret X rfl dX0_perform_27
  · replace h := (if_neg q1).symm.trans h
    refine gx_iload_n X 1 rfl dX0_perform_9 ?_
    refine gx_aload_n X 0 rfl dX0_perform_10 ?_
    refine gx_getf X (32) lf_X0_16 (by decide) (cl_32 _ _) (v := .int ((rdI (wrI g 32 3 (0 : Int32)) 32 2))) rfl dX0_perform_11 ?_
    refine gx_icmp_ge X 26 dX0_perform_14 (by decide) (fun q2 => ?_) (fun q2 => ?_)
    · replace h := (if_pos q2).symm.trans h
      refine gx_iconst X (v := (0 : Int32)) dX0_perform_26 (by decide) ?_
      obtain ⟨rfl, rfl⟩ := ret_eq h
      exact gx_iret X rfl dX0_perform_27
    · replace h := (if_neg q2).symm.trans h
      refine gx_iload_n X 2 rfl dX0_perform_17 ?_
      refine gx_if_lt X 26 dX0_perform_18 (by decide) (fun q3 => ?_) (fun q3 => ?_)
      · replace h := (if_pos q3).symm.trans h
        refine gx_iconst X (v := (0 : Int32)) dX0_perform_26 (by decide) ?_
        obtain ⟨rfl, rfl⟩ := ret_eq h
        exact gx_iret X rfl dX0_perform_27
      · replace h := (if_neg q3).symm.trans h
        refine gx_iload_n X 2 rfl dX0_perform_21 ?_
        refine gx_iconst X (v := (4 : Int32)) dX0_perform_22 (by decide) ?_
        refine gx_icmp_lt X 28 dX0_perform_23 (by decide) (fun q4 => ?_) (fun q4 => ?_)
        · replace h := (if_pos q4).symm.trans h
          refine gx_aload_n X 0 rfl dX0_perform_28 ?_
          refine gx_iload_n X 1 rfl dX0_perform_29 ?_
          refine gx_putf X (32) a1 lf_X0_23 lp_X0_4 (by decide) (cl_32 _ _) (Nat.le_of_ble_eq_true rfl) rfl rfl rfl dX0_perform_30 ?_
          refine gx_aload_n X 0 rfl dX0_perform_33 ?_
          refine gx_aload_n X 0 rfl dX0_perform_34 ?_
          refine gx_getf X (32) lf_X0_9 (by decide) (cl_32 _ _) (v := .ref (al (33))) rfl dX0_perform_35 ?_
          refine gx_iload_n X 1 rfl dX0_perform_38 ?_
          obtain ⟨q5, h⟩ := gdd_eq h
          refine gx_iald X (33) 50 (by decide) (cl_33 _ _) q5 dX0_perform_39 ?_
          refine gx_iload_n X 2 rfl dX0_perform_40 ?_
          refine gx_iload_n X 3 rfl dX0_perform_41 ?_
          refine gx_iconst X (v := (0 : Int32)) dX0_perform_42 (by decide) ?_
          obtain ⟨ra6, ga7, ca8, h⟩ := bdd_eq h
          refine gx_callVi X (32) (c_X0_asKind ca8) lc_X0_asKind li_X0_asKind lm_X0_35 (by decide) (cl_32 _ _) rfl rfl rfl (Nat.le_trans (by decide) hd) rfl (Nat.le_of_ble_eq_true rfl) dX0_perform_43 ?_
          obtain ⟨rfl, rfl⟩ := ret_eq h
          exact gx_iret X rfl dX0_perform_46
        · replace h := (if_neg q4).symm.trans h
          refine gx_iconst X (v := (0 : Int32)) dX0_perform_26 (by decide) ?_
          obtain ⟨rfl, rfl⟩ := ret_eq h
          exact gx_iret X rfl dX0_perform_27
theorem dX0_tracesKept_0 : decode cX0_tracesKept 0 = .ok (.aload_n 0, 1) := by decide +kernel
theorem dX0_tracesKept_1 : decode cX0_tracesKept 1 = .ok (.getfield 20, 3) := by decide +kernel
theorem dX0_tracesKept_4 : decode cX0_tracesKept 4 = .ok (.bipush 24, 2) := by decide +kernel
theorem dX0_tracesKept_6 : decode cX0_tracesKept 6 = .ok (.invokestatic 29, 3) := by decide +kernel
theorem dX0_tracesKept_9 : decode cX0_tracesKept 9 = .ok (.ireturn, 1) := by decide +kernel
def m_X0_tracesKept (g : Mm) : Option (Int32 × Mm) := bdd (m_J9_min_7cf53 (rdI g 32 3) (24 : Int32) g) (fun ra1 ga2 => some (ra1, ga2))
set_option maxHeartbeats 2000000 in
theorem c_X0_tracesKept {r2 : Int32} {g g2 : Mm} (h : m_X0_tracesKept g = some (r2, g2)) : gx_M 2 yX0_tracesKept cX0_tracesKept 1 (some .int) (fun al => [.ref (al (32))]) g (some (.int r2)) g2 := by
  have hd : 2 ≤ 2 := Nat.le_refl _
  refine gx_M.of (by decide +kernel) (fun _ => Nat.le_of_ble_eq_true rfl) ?_
  intro p l e R s m args below meth c D al cI cJ A X
  refine gx_eq (pc' := 0) (ls' := [(0, .ref (al (32)))]) (st' := []) (g' := g) ⟨rfl, rfl, rfl, rfl⟩ ?_
  unfold m_X0_tracesKept at h
  refine gx_aload_n X 0 rfl dX0_tracesKept_0 ?_
  refine gx_getf X (32) lf_X0_20 (by decide) (cl_32 _ _) (v := .int ((rdI g 32 3))) rfl dX0_tracesKept_1 ?_
  refine gx_bipush X (v := (24 : Int32)) dX0_tracesKept_4 (by decide) ?_
  obtain ⟨ra1, ga2, ca3, h⟩ := bdd_eq h
  refine gx_callSi X (c_J9_min_7cf53 ca3) lc_J9_min_7cf53 li_J9_min_7cf53 lm_X0_29 rfl rfl (Nat.le_trans (by decide) hd) rfl (Nat.le_of_ble_eq_true rfl) dX0_tracesKept_6 ?_
  obtain ⟨rfl, rfl⟩ := ret_eq h
  exact gx_iret X rfl dX0_tracesKept_9
end DC
