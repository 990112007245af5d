section DC
variable {p : Program} {l : Launch} {e : Env} {R : Room} {s : State} {m : MethodId} {args : Array Value} {below : List Frame} {meth : Method} {c : Code} {D : va_G} {al : Nat → Nat} {cI cJ : ClassId} {A : Nat → Prop} {d : Nat}
theorem dX10_forgets_0 : decode cX10_forgets 0 = .ok (.aload_n 0, 1) := by decide +kernel
theorem dX10_forgets_1 : decode cX10_forgets 1 = .ok (.iconst 0, 1) := by decide +kernel
theorem dX10_forgets_2 : decode cX10_forgets 2 = .ok (.putfield 117, 3) := by decide +kernel
theorem dX10_forgets_5 : decode cX10_forgets 5 = .ok (.aload_n 0, 1) := by decide +kernel
theorem dX10_forgets_6 : decode cX10_forgets 6 = .ok (.iconst 0, 1) := by decide +kernel
theorem dX10_forgets_7 : decode cX10_forgets 7 = .ok (.putfield 114, 3) := by decide +kernel
theorem dX10_forgets_10 : decode cX10_forgets 10 = .ok (.return_, 1) := by decide +kernel
def m_X10_forgets (g : Mm) : Option (Int32 × Mm) := some ((0 : Int32), (wrI (wrI g 40 12 (0 : Int32)) 40 13 (0 : Int32)))
set_option maxHeartbeats 2000000 in
theorem c_X10_forgets {r2 : Int32} {g g2 : Mm} (h : m_X10_forgets g = some (r2, g2)) : gx_M 1 yX10_forgets cX10_forgets 1 none (fun al => [.ref (al (40))]) g none g2 := by
  have hd : 1 ≤ 1 := Nat.le_refl _
  refine gx_M.of (by decide +kernel) (fun _ => Nat.le_of_ble_eq_true rfl) ?_
  intro p l e R s m args below meth c D al cI cJ A X
  refine gx_eq (pc' := 0) (ls' := [(0, .ref (al (40)))]) (st' := []) (g' := g) ⟨rfl, rfl, rfl, rfl⟩ ?_
  unfold m_X10_forgets at h
  refine gx_aload_n X 0 rfl dX10_forgets_0 ?_
  refine gx_iconst X (v := (0 : Int32)) dX10_forgets_1 (by decide) ?_
  refine gx_putf X (40) (0 : Int32) lf_X10_117 lp_X10_12 (by decide) (cl_40 _ _) (Nat.le_of_ble_eq_true rfl) rfl rfl rfl dX10_forgets_2 ?_
  refine gx_aload_n X 0 rfl dX10_forgets_5 ?_
  refine gx_iconst X (v := (0 : Int32)) dX10_forgets_6 (by decide) ?_
  refine gx_putf X (40) (0 : Int32) lf_X10_114 lp_X10_13 (by decide) (cl_40 _ _) (Nat.le_of_ble_eq_true rfl) rfl rfl rfl dX10_forgets_7 ?_
  obtain ⟨rfl, rfl⟩ := ret_eq h
  exact gx_vret X dX10_forgets_10
theorem dX10_gap_0 : decode cX10_gap 0 = .ok (.iload_n 1, 1) := by decide +kernel
theorem dX10_gap_1 : decode cX10_gap 1 = .ok (.i2l, 1) := by decide +kernel
theorem dX10_gap_2 : decode cX10_gap 2 = .ok (.lconst 0, 1) := by decide +kernel
theorem dX10_gap_3 : decode cX10_gap 3 = .ok (.lconst 1, 1) := by decide +kernel
theorem dX10_gap_4 : decode cX10_gap 4 = .ok (.invokestatic 92, 3) := by decide +kernel
theorem dX10_gap_7 : decode cX10_gap 7 = .ok (.ifCond .ne 5, 3) := by decide +kernel
theorem dX10_gap_10 : decode cX10_gap 10 = .ok (.iconst (-1), 1) := by decide +kernel
theorem dX10_gap_11 : decode cX10_gap 11 = .ok (.ireturn, 1) := by decide +kernel
theorem dX10_gap_12 : decode cX10_gap 12 = .ok (.aload_n 0, 1) := by decide +kernel
theorem dX10_gap_13 : decode cX10_gap 13 = .ok (.getfield 89, 3) := by decide +kernel
theorem dX10_gap_16 : decode cX10_gap 16 = .ok (.ifCond .ne 6, 3) := by decide +kernel
theorem dX10_gap_19 : decode cX10_gap 19 = .ok (.bipush (-5), 2) := by decide +kernel
theorem dX10_gap_21 : decode cX10_gap 21 = .ok (.ireturn, 1) := by decide +kernel
theorem dX10_gap_22 : decode cX10_gap 22 = .ok (.bipush (-2), 2) := by decide +kernel
theorem dX10_gap_24 : decode cX10_gap 24 = .ok (.istore_n 2, 1) := by decide +kernel
theorem dX10_gap_25 : decode cX10_gap 25 = .ok (.iconst 0, 1) := by decide +kernel
theorem dX10_gap_26 : decode cX10_gap 26 = .ok (.istore_n 3, 1) := by decide +kernel
theorem dX10_gap_27 : decode cX10_gap 27 = .ok (.iload_n 3, 1) := by decide +kernel
theorem dX10_gap_28 : decode cX10_gap 28 = .ok (.aload_n 0, 1) := by decide +kernel
theorem dX10_gap_29 : decode cX10_gap 29 = .ok (.getfield 21, 3) := by decide +kernel
theorem dX10_gap_32 : decode cX10_gap 32 = .ok (.if_icmp .ge 66, 3) := by decide +kernel
theorem dX10_gap_35 : decode cX10_gap 35 = .ok (.iload_n 3, 1) := by decide +kernel
theorem dX10_gap_36 : decode cX10_gap 36 = .ok (.iconst 1, 1) := by decide +kernel
theorem dX10_gap_37 : decode cX10_gap 37 = .ok (.iadd, 1) := by decide +kernel
theorem dX10_gap_38 : decode cX10_gap 38 = .ok (.istore 4, 2) := by decide +kernel
theorem dX10_gap_40 : decode cX10_gap 40 = .ok (.iload 4, 2) := by decide +kernel
theorem dX10_gap_42 : decode cX10_gap 42 = .ok (.aload_n 0, 1) := by decide +kernel
theorem dX10_gap_43 : decode cX10_gap 43 = .ok (.getfield 21, 3) := by decide +kernel
theorem dX10_gap_46 : decode cX10_gap 46 = .ok (.if_icmp .ge 46, 3) := by decide +kernel
theorem dX10_gap_49 : decode cX10_gap 49 = .ok (.aload_n 0, 1) := by decide +kernel
theorem dX10_gap_50 : decode cX10_gap 50 = .ok (.iload_n 3, 1) := by decide +kernel
theorem dX10_gap_51 : decode cX10_gap 51 = .ok (.iload 4, 2) := by decide +kernel
theorem dX10_gap_53 : decode cX10_gap 53 = .ok (.invokevirtual 236, 3) := by decide +kernel
theorem dX10_gap_56 : decode cX10_gap 56 = .ok (.invokestatic 229, 3) := by decide +kernel
theorem dX10_gap_59 : decode cX10_gap 59 = .ok (.istore 5, 2) := by decide +kernel
theorem dX10_gap_61 : decode cX10_gap 61 = .ok (.aload_n 0, 1) := by decide +kernel
theorem dX10_gap_62 : decode cX10_gap 62 = .ok (.iload_n 3, 1) := by decide +kernel
theorem dX10_gap_63 : decode cX10_gap 63 = .ok (.iload 4, 2) := by decide +kernel
theorem dX10_gap_65 : decode cX10_gap 65 = .ok (.invokevirtual 232, 3) := by decide +kernel
theorem dX10_gap_68 : decode cX10_gap 68 = .ok (.ifCond .ne 18, 3) := by decide +kernel
theorem dX10_gap_71 : decode cX10_gap 71 = .ok (.iload_n 2, 1) := by decide +kernel
theorem dX10_gap_72 : decode cX10_gap 72 = .ok (.bipush (-2), 2) := by decide +kernel
theorem dX10_gap_74 : decode cX10_gap 74 = .ok (.if_icmp .eq 9, 3) := by decide +kernel
theorem dX10_gap_77 : decode cX10_gap 77 = .ok (.iload 5, 2) := by decide +kernel
theorem dX10_gap_79 : decode cX10_gap 79 = .ok (.iload_n 2, 1) := by decide +kernel
theorem dX10_gap_80 : decode cX10_gap 80 = .ok (.if_icmp .ge 6, 3) := by decide +kernel
theorem dX10_gap_83 : decode cX10_gap 83 = .ok (.iload 5, 2) := by decide +kernel
theorem dX10_gap_85 : decode cX10_gap 85 = .ok (.istore_n 2, 1) := by decide +kernel
theorem dX10_gap_86 : decode cX10_gap 86 = .ok (.iinc 4 1, 3) := by decide +kernel
theorem dX10_gap_89 : decode cX10_gap 89 = .ok (.goto (-49), 3) := by decide +kernel
theorem dX10_gap_92 : decode cX10_gap 92 = .ok (.iinc 3 1, 3) := by decide +kernel
theorem dX10_gap_95 : decode cX10_gap 95 = .ok (.goto (-68), 3) := by decide +kernel
theorem dX10_gap_98 : decode cX10_gap 98 = .ok (.iload_n 2, 1) := by decide +kernel
theorem dX10_gap_99 : decode cX10_gap 99 = .ok (.bipush (-2), 2) := by decide +kernel
theorem dX10_gap_101 : decode cX10_gap 101 = .ok (.if_icmp .eq 7, 3) := by decide +kernel
theorem dX10_gap_104 : decode cX10_gap 104 = .ok (.iload_n 1, 1) := by decide +kernel
theorem dX10_gap_105 : decode cX10_gap 105 = .ok (.ifCond .ne 7, 3) := by decide +kernel
theorem dX10_gap_108 : decode cX10_gap 108 = .ok (.iload_n 2, 1) := by decide +kernel
theorem dX10_gap_109 : decode cX10_gap 109 = .ok (.goto 20, 3) := by decide +kernel
theorem dX10_gap_112 : decode cX10_gap 112 = .ok (.iload_n 2, 1) := by decide +kernel
theorem dX10_gap_113 : decode cX10_gap 113 = .ok (.ifCond .ne 8, 3) := by decide +kernel
theorem dX10_gap_116 : decode cX10_gap 116 = .ok (.bipush (-2), 2) := by decide +kernel
theorem dX10_gap_118 : decode cX10_gap 118 = .ok (.goto 11, 3) := by decide +kernel
theorem dX10_gap_121 : decode cX10_gap 121 = .ok (.aload_n 0, 1) := by decide +kernel
theorem dX10_gap_122 : decode cX10_gap 122 = .ok (.getfield 89, 3) := by decide +kernel
theorem dX10_gap_125 : decode cX10_gap 125 = .ok (.iload_n 2, 1) := by decide +kernel
theorem dX10_gap_126 : decode cX10_gap 126 = .ok (.isub, 1) := by decide +kernel
theorem dX10_gap_127 : decode cX10_gap 127 = .ok (.iconst 1, 1) := by decide +kernel
theorem dX10_gap_128 : decode cX10_gap 128 = .ok (.iadd, 1) := by decide +kernel
theorem dX10_gap_129 : decode cX10_gap 129 = .ok (.ireturn, 1) := by decide +kernel
def m_X10_gap_40 (K27 : Int32 → Int32 → Int32 → Mm → Option (Int32 × Mm)) : Nat → Int32 → Int32 → Int32 → Int32 → Mm → Option (Int32 × Mm)
  | 0, _, _, _, _, _ => none
  | n + 1, x1, x2, x3, x4, g => (if (rdI g 40 5) ≤ x4 then K27 x1 x2 (x3 + (1 : Int32)) g else bdd (m_X10_differ x3 x4 g) (fun ra2 ga3 => bdd (m_X10_bitsOf ra2 ga3) (fun ra5 ga6 => bdd (m_X10_areMixed x3 x4 ga6) (fun ra8 ga9 => (if ra8 = (0 : Int32) then (if x2 = (-2 : Int32) then m_X10_gap_40 K27 n x1 ra5 x3 (x4 + (1 : Int32)) ga9 else (if x2 ≤ ra5 then m_X10_gap_40 K27 n x1 x2 x3 (x4 + (1 : Int32)) ga9 else m_X10_gap_40 K27 n x1 ra5 x3 (x4 + (1 : Int32)) ga9)) else m_X10_gap_40 K27 n x1 x2 x3 (x4 + (1 : Int32)) ga9)))))
set_option maxHeartbeats 2000000 in
theorem t_X10_gap_40 {r2 : Int32} {g2 : Mm} (X : gx_X p R s m args meth c D al cI cJ A RX10 cX10_gap 6 (some .int) d 0 0) (hd : 2 ≤ d) {K27 : Int32 → Int32 → Int32 → Mm → Option (Int32 × Mm)} (hK27 : ∀ (u0 : Int32) (u1 : Int32) (u2 : Int32) (g : Mm), K27 u0 u1 u2 g = some (r2, g2) → gx_G p l e R s m args below meth c (gx_Q below args s D al cI cJ A (some (.int r2)) g2) D al cI cJ A 6 0 0 27 [(0, .ref (al (40))), (1, .int (u0)), (2, .int (u1)), (3, .int (u2))] [] g) : ∀ (n : Nat) (x1 : Int32) (x2 : Int32) (x3 : Int32) (x4 : Int32) (g : Mm), m_X10_gap_40 K27 n x1 x2 x3 x4 g = some (r2, g2) → gx_G p l e R s m args below meth c (gx_Q below args s D al cI cJ A (some (.int r2)) g2) D al cI cJ A 6 0 0 40 [(0, .ref (al (40))), (1, .int (x1)), (2, .int (x2)), (3, .int (x3)), (4, .int (x4))] [] g := by
  intro n
  induction n with
  | zero => intro x1 x2 x3 x4 g h; cases h
  | succ n ih =>
    intro x1 x2 x3 x4 g h
    rw [m_X10_gap_40] at h
    refine gx_iload X 4 rfl dX10_gap_40 ?_
    refine gx_aload_n X 0 rfl dX10_gap_42 ?_
    refine gx_getf X (40) lf_X10_21 (by decide) (cl_40 _ _) (v := .int ((rdI g 40 5))) rfl dX10_gap_43 ?_
    refine gx_icmp_ge X 92 dX10_gap_46 (by decide) (fun q1 => ?_) (fun q1 => ?_)
    · replace h := (if_pos q1).symm.trans h
      refine gx_iinc X [(3, .int ((x3 + (1 : Int32)))), (0, .ref (al (40))), (1, .int (x1)), (2, .int (x2)), (4, .int (x4))] 3 dX10_gap_92 rfl rfl (by decide) rfl ?_
      refine gx_goto X 27 dX10_gap_95 (by decide) ?_
      exact gx_sub [1, 2, 3, 0] rfl (hK27 x1 x2 (x3 + (1 : Int32)) g h)
    · replace h := (if_neg q1).symm.trans h
      refine gx_aload_n X 0 rfl dX10_gap_49 ?_
      refine gx_iload_n X 3 rfl dX10_gap_50 ?_
      refine gx_iload X 4 rfl dX10_gap_51 ?_
      obtain ⟨ra2, ga3, ca4, h⟩ := bdd_eq h
      refine gx_callVi X (40) (c_X10_differ ca4) lc_X10_differ li_X10_differ lm_X10_236 (by decide) (cl_40 _ _) rfl rfl rfl (Nat.le_trans (by decide) hd) rfl (Nat.le_of_ble_eq_true rfl) dX10_gap_53 ?_
      obtain ⟨ra5, ga6, ca7, h⟩ := bdd_eq h
      refine gx_callSi X (c_X10_bitsOf ca7) lc_X10_bitsOf li_X10_bitsOf lm_X10_229 rfl rfl (Nat.le_trans (by decide) hd) rfl (Nat.le_of_ble_eq_true rfl) dX10_gap_56 ?_
      refine gx_istore X [(5, .int (ra5)), (0, .ref (al (40))), (1, .int (x1)), (2, .int (x2)), (3, .int (x3)), (4, .int (x4))] dX10_gap_59 (by decide) rfl ?_
      refine gx_aload_n X 1 rfl dX10_gap_61 ?_
      refine gx_iload_n X 4 rfl dX10_gap_62 ?_
      refine gx_iload X 5 rfl dX10_gap_63 ?_
      obtain ⟨ra8, ga9, ca10, h⟩ := bdd_eq h
      refine gx_callVi X (40) (c_X10_areMixed ca10) lc_X10_areMixed li_X10_areMixed lm_X10_232 (by decide) (cl_40 _ _) rfl rfl rfl (Nat.le_trans (by decide) hd) rfl (Nat.le_of_ble_eq_true rfl) dX10_gap_65 ?_
      refine gx_if_ne X 86 dX10_gap_68 (by decide) (fun q11 => ?_) (fun q11 => ?_)
      · replace h := (if_neg q11).symm.trans h
        refine gx_iinc X [(4, .int ((x4 + (1 : Int32)))), (5, .int (ra5)), (0, .ref (al (40))), (1, .int (x1)), (2, .int (x2)), (3, .int (x3))] 5 dX10_gap_86 rfl rfl (by decide) rfl ?_
        refine gx_goto X 40 dX10_gap_89 (by decide) ?_
        exact gx_sub [2, 3, 4, 5, 0] rfl (ih x1 x2 x3 (x4 + (1 : Int32)) ga9 h)
      · replace h := (if_pos q11).symm.trans h
        refine gx_iload_n X 3 rfl dX10_gap_71 ?_
        refine gx_bipush X (v := (-2 : Int32)) dX10_gap_72 (by decide) ?_
        refine gx_icmp_eq X 83 dX10_gap_74 (by decide) (fun q12 => ?_) (fun q12 => ?_)
        · replace h := (if_pos q12).symm.trans h
          refine gx_iload X 0 rfl dX10_gap_83 ?_
          refine gx_istore_n X [(2, .int (ra5)), (5, .int (ra5)), (0, .ref (al (40))), (1, .int (x1)), (3, .int (x3)), (4, .int (x4))] dX10_gap_85 (by decide) rfl ?_
          refine gx_iinc X [(4, .int ((x4 + (1 : Int32)))), (2, .int (ra5)), (5, .int (ra5)), (0, .ref (al (40))), (1, .int (x1)), (3, .int (x3))] 5 dX10_gap_86 rfl rfl (by decide) rfl ?_
          refine gx_goto X 40 dX10_gap_89 (by decide) ?_
          exact gx_sub [3, 4, 1, 5, 0] rfl (ih x1 ra5 x3 (x4 + (1 : Int32)) ga9 h)
        · replace h := (if_neg q12).symm.trans h
          refine gx_iload X 0 rfl dX10_gap_77 ?_
          refine gx_iload_n X 3 rfl dX10_gap_79 ?_
          refine gx_icmp_ge X 86 dX10_gap_80 (by decide) (fun q13 => ?_) (fun q13 => ?_)
          · replace h := (if_pos q13).symm.trans h
            refine gx_iinc X [(4, .int ((x4 + (1 : Int32)))), (5, .int (ra5)), (0, .ref (al (40))), (1, .int (x1)), (2, .int (x2)), (3, .int (x3))] 5 dX10_gap_86 rfl rfl (by decide) rfl ?_
            refine gx_goto X 40 dX10_gap_89 (by decide) ?_
            exact gx_sub [2, 3, 4, 5, 0] rfl (ih x1 x2 x3 (x4 + (1 : Int32)) ga9 h)
          · replace h := (if_neg q13).symm.trans h
            refine gx_iload X 0 rfl dX10_gap_83 ?_
            refine gx_istore_n X [(2, .int (ra5)), (5, .int (ra5)), (0, .ref (al (40))), (1, .int (x1)), (3, .int (x3)), (4, .int (x4))] dX10_gap_85 (by decide) rfl ?_
            refine gx_iinc X [(4, .int ((x4 + (1 : Int32)))), (2, .int (ra5)), (5, .int (ra5)), (0, .ref (al (40))), (1, .int (x1)), (3, .int (x3))] 5 dX10_gap_86 rfl rfl (by decide) rfl ?_
            refine gx_goto X 40 dX10_gap_89 (by decide) ?_
            exact gx_sub [3, 4, 1, 5, 0] rfl (ih x1 ra5 x3 (x4 + (1 : Int32)) ga9 h)
def m_X10_gap_27 : Nat → Int32 → Int32 → Int32 → Mm → Option (Int32 × Mm)
  | 0, _, _, _, _ => none
  | n + 1, x1, x2, x3, g => (if (rdI g 40 5) ≤ x3 then (if x2 = (-2 : Int32) then some (x2, g) else (if x1 = (0 : Int32) then some (x2, g) else (if x2 = (0 : Int32) then some ((-2 : Int32), g) else some ((((rdI g 40 4) - x2) + (1 : Int32)), g)))) else m_X10_gap_40 (m_X10_gap_27 n) fuL x1 x2 x3 (x3 + (1 : Int32)) g)
set_option maxHeartbeats 2000000 in
theorem t_X10_gap_27 {r2 : Int32} {g2 : Mm} (X : gx_X p R s m args meth c D al cI cJ A RX10 cX10_gap 6 (some .int) d 0 0) (hd : 2 ≤ d) : ∀ (n : Nat) (x1 : Int32) (x2 : Int32) (x3 : Int32) (g : Mm), m_X10_gap_27 n x1 x2 x3 g = some (r2, g2) → gx_G p l e R s m args below meth c (gx_Q below args s D al cI cJ A (some (.int r2)) g2) D al cI cJ A 6 0 0 27 [(0, .ref (al (40))), (1, .int (x1)), (2, .int (x2)), (3, .int (x3))] [] g := by
  intro n
  induction n with
  | zero => intro x1 x2 x3 g h; cases h
  | succ n ih =>
    intro x1 x2 x3 g h
    rw [m_X10_gap_27] at h
    refine gx_iload_n X 3 rfl dX10_gap_27 ?_
    refine gx_aload_n X 0 rfl dX10_gap_28 ?_
    refine gx_getf X (40) lf_X10_21 (by decide) (cl_40 _ _) (v := .int ((rdI g 40 5))) rfl dX10_gap_29 ?_
    refine gx_icmp_ge X 98 dX10_gap_32 (by decide) (fun q1 => ?_) (fun q1 => ?_)
    · replace h := (if_pos q1).symm.trans h
      refine gx_iload_n X 2 rfl dX10_gap_98 ?_
      refine gx_bipush X (v := (-2 : Int32)) dX10_gap_99 (by decide) ?_
      refine gx_icmp_eq X 108 dX10_gap_101 (by decide) (fun q2 => ?_) (fun q2 => ?_)
      · replace h := (if_pos q2).symm.trans h
        refine gx_iload_n X 2 rfl dX10_gap_108 ?_
        refine gx_goto X 129 dX10_gap_109 (by decide) ?_
        obtain ⟨rfl, rfl⟩ := ret_eq h
        exact gx_iret X rfl dX10_gap_129
      · replace h := (if_neg q2).symm.trans h
        refine gx_iload_n X 1 rfl dX10_gap_104 ?_
        refine gx_if_ne X 112 dX10_gap_105 (by decide) (fun q3 => ?_) (fun q3 => ?_)
        · replace h := (if_neg q3).symm.trans h
          refine gx_iload_n X 2 rfl dX10_gap_112 ?_
          refine gx_if_ne X 121 dX10_gap_113 (by decide) (fun q4 => ?_) (fun q4 => ?_)
          · replace h := (if_neg q4).symm.trans h
            refine gx_aload_n X 0 rfl dX10_gap_121 ?_
            refine gx_getf X (40) lf_X10_89 (by decide) (cl_40 _ _) (v := .int ((rdI g 40 4))) rfl dX10_gap_122 ?_
            refine gx_iload_n X 2 rfl dX10_gap_125 ?_
            refine gx_isub X dX10_gap_126 ?_
            refine gx_iconst X (v := (1 : Int32)) dX10_gap_127 (by decide) ?_
            refine gx_iadd X dX10_gap_128 ?_
            obtain ⟨rfl, rfl⟩ := ret_eq h
            exact gx_iret X rfl dX10_gap_129
          · replace h := (if_pos q4).symm.trans h
            refine gx_bipush X (v := (-2 : Int32)) dX10_gap_116 (by decide) ?_
            refine gx_goto X 129 dX10_gap_118 (by decide) ?_
            obtain ⟨rfl, rfl⟩ := ret_eq h
            exact gx_iret X rfl dX10_gap_129
        · replace h := (if_pos q3).symm.trans h
          refine gx_iload_n X 2 rfl dX10_gap_108 ?_
          refine gx_goto X 129 dX10_gap_109 (by decide) ?_
          obtain ⟨rfl, rfl⟩ := ret_eq h
          exact gx_iret X rfl dX10_gap_129
    · replace h := (if_neg q1).symm.trans h
      refine gx_iload_n X 3 rfl dX10_gap_35 ?_
      refine gx_iconst X (v := (1 : Int32)) dX10_gap_36 (by decide) ?_
      refine gx_iadd X dX10_gap_37 ?_
      refine gx_istore X [(4, .int ((x3 + (1 : Int32)))), (0, .ref (al (40))), (1, .int (x1)), (2, .int (x2)), (3, .int (x3))] dX10_gap_38 (by decide) rfl ?_
      exact gx_sub [1, 2, 3, 4, 0] rfl (t_X10_gap_40 X hd (fun u0 u1 u2 g h => ih u0 u1 u2 g h) fuL x1 x2 x3 (x3 + (1 : Int32)) g h)
def m_X10_gap (a1 : Int32) (g : Mm) : Option (Int32 × Mm) := bdd (m_X10_in (a1.toInt64) (0 : Int64) (1 : Int64) g) (fun ra1 ga2 => (if ra1 = (0 : Int32) then some ((-1 : Int32), ga2) else (if (rdI ga2 40 4) = (0 : Int32) then some ((-5 : Int32), ga2) else m_X10_gap_27 fuL a1 (-2 : Int32) (0 : Int32) ga2)))
set_option maxHeartbeats 2000000 in
theorem c_X10_gap {r2 : Int32} {g g2 : Mm} {a1 : Int32} (h : m_X10_gap a1 g = some (r2, g2)) : gx_M 2 yX10_gap cX10_gap 6 (some .int) (fun al => [.ref (al (40)), .int (a1)]) g (some (.int r2)) g2 := by
  have hd : 2 ≤ 2 := Nat.le_refl _
  refine gx_M.of (by decide +kernel) (fun _ => Nat.le_of_ble_eq_true rfl) ?_
  intro p l e R s m args below meth c D al cI cJ A X
  refine gx_eq (pc' := 0) (ls' := [(0, .ref (al (40))), (1, .int (a1))]) (st' := []) (g' := g) ⟨rfl, rfl, rfl, rfl⟩ ?_
  unfold m_X10_gap at h
  refine gx_iload_n X 1 rfl dX10_gap_0 ?_
  refine gx_i2l X dX10_gap_1 ?_
  refine gx_lconst X (v := (0 : Int64)) dX10_gap_2 (by decide) ?_
  refine gx_lconst X (v := (1 : Int64)) dX10_gap_3 (by decide) ?_
  obtain ⟨ra1, ga2, ca3, h⟩ := bdd_eq h
  refine gx_callSi X (c_X10_in ca3) lc_X10_in li_X10_in lm_X10_92 rfl rfl (Nat.le_trans (by decide) hd) rfl (Nat.le_of_ble_eq_true rfl) dX10_gap_4 ?_
  refine gx_if_ne X 12 dX10_gap_7 (by decide) (fun q4 => ?_) (fun q4 => ?_)
  · replace h := (if_neg q4).symm.trans h
    refine gx_aload_n X 0 rfl dX10_gap_12 ?_
    refine gx_getf X (40) lf_X10_89 (by decide) (cl_40 _ _) (v := .int ((rdI ga2 40 4))) rfl dX10_gap_13 ?_
    refine gx_if_ne X 22 dX10_gap_16 (by decide) (fun q5 => ?_) (fun q5 => ?_)
    · replace h := (if_neg q5).symm.trans h
      refine gx_bipush X (v := (-2 : Int32)) dX10_gap_22 (by decide) ?_
      refine gx_istore_n X [(2, .int ((-2 : Int32))), (0, .ref (al (40))), (1, .int (a1))] dX10_gap_24 (by decide) rfl ?_
      refine gx_iconst X (v := (0 : Int32)) dX10_gap_25 (by decide) ?_
      refine gx_istore_n X [(3, .int ((0 : Int32))), (2, .int ((-2 : Int32))), (0, .ref (al (40))), (1, .int (a1))] dX10_gap_26 (by decide) rfl ?_
      exact gx_sub [2, 3, 1, 0] rfl (t_X10_gap_27 X hd fuL a1 (-2 : Int32) (0 : Int32) ga2 h)
    · replace h := (if_pos q5).symm.trans h
      refine gx_bipush X (v := (-5 : Int32)) dX10_gap_19 (by decide) ?_
      obtain ⟨rfl, rfl⟩ := ret_eq h
      exact gx_iret X rfl dX10_gap_21
  · replace h := (if_pos q4).symm.trans h
    refine gx_iconst X (v := (-1 : Int32)) dX10_gap_10 (by decide) ?_
    obtain ⟨rfl, rfl⟩ := ret_eq h
    exact gx_iret X rfl dX10_gap_11
theorem dX10_isHour_0 : decode cX10_isHour 0 = .ok (.iload_n 1, 1) := by decide +kernel
theorem dX10_isHour_1 : decode cX10_isHour 1 = .ok (.i2l, 1) := by decide +kernel
theorem dX10_isHour_2 : decode cX10_isHour 2 = .ok (.lconst 0, 1) := by decide +kernel
theorem dX10_isHour_3 : decode cX10_isHour 3 = .ok (.aload_n 0, 1) := by decide +kernel
theorem dX10_isHour_4 : decode cX10_isHour 4 = .ok (.getfield 21, 3) := by decide +kernel
theorem dX10_isHour_7 : decode cX10_isHour 7 = .ok (.iconst 1, 1) := by decide +kernel
theorem dX10_isHour_8 : decode cX10_isHour 8 = .ok (.isub, 1) := by decide +kernel
theorem dX10_isHour_9 : decode cX10_isHour 9 = .ok (.i2l, 1) := by decide +kernel
theorem dX10_isHour_10 : decode cX10_isHour 10 = .ok (.invokestatic 92, 3) := by decide +kernel
theorem dX10_isHour_13 : decode cX10_isHour 13 = .ok (.ireturn, 1) := by decide +kernel
def m_X10_isHour (a1 : Int32) (g : Mm) : Option (Int32 × Mm) := bdd (m_X10_in (a1.toInt64) (0 : Int64) (((rdI g 40 5) - (1 : Int32)).toInt64) g) (fun ra1 ga2 => gdd (zbI ra1) (some (ra1, ga2)))
set_option maxHeartbeats 2000000 in
theorem c_X10_isHour {r2 : Int32} {g g2 : Mm} {a1 : Int32} (h : m_X10_isHour a1 g = some (r2, g2)) : gx_M 2 yX10_isHour cX10_isHour 2 (some .boolean) (fun al => [.ref (al (40)), .int (a1)]) g (some (.int r2)) g2 := by
  have hd : 2 ≤ 2 := Nat.le_refl _
  refine gx_M.of (by decide +kernel) (fun _ => Nat.le_of_ble_eq_true rfl) ?_
  intro p l e R s m args below meth c D al cI cJ A X
  refine gx_eq (pc' := 0) (ls' := [(0, .ref (al (40))), (1, .int (a1))]) (st' := []) (g' := g) ⟨rfl, rfl, rfl, rfl⟩ ?_
  unfold m_X10_isHour at h
  refine gx_iload_n X 1 rfl dX10_isHour_0 ?_
  refine gx_i2l X dX10_isHour_1 ?_
  refine gx_lconst X (v := (0 : Int64)) dX10_isHour_2 (by decide) ?_
  refine gx_aload_n X 0 rfl dX10_isHour_3 ?_
  refine gx_getf X (40) lf_X10_21 (by decide) (cl_40 _ _) (v := .int ((rdI g 40 5))) rfl dX10_isHour_4 ?_
  refine gx_iconst X (v := (1 : Int32)) dX10_isHour_7 (by decide) ?_
  refine gx_isub X dX10_isHour_8 ?_
  refine gx_i2l X dX10_isHour_9 ?_
  obtain ⟨ra1, ga2, ca3, h⟩ := bdd_eq h
  refine gx_callSi X (c_X10_in ca3) lc_X10_in li_X10_in lm_X10_92 rfl rfl (Nat.le_trans (by decide) hd) rfl (Nat.le_of_ble_eq_true rfl) dX10_isHour_10 ?_
  obtain ⟨q4, h⟩ := gdd_eq h
  obtain ⟨rfl, rfl⟩ := ret_eq h
  exact gx_iret X (zbI_n q4) dX10_isHour_13
theorem dX10_isCell_0 : decode cX10_isCell 0 = .ok (.iload_n 1, 1) := by decide +kernel
theorem dX10_isCell_1 : decode cX10_isCell 1 = .ok (.ifCond .lt 29, 3) := by decide +kernel
theorem dX10_isCell_4 : decode cX10_isCell 4 = .ok (.aload_n 0, 1) := by decide +kernel
theorem dX10_isCell_5 : decode cX10_isCell 5 = .ok (.iload_n 1, 1) := by decide +kernel
theorem dX10_isCell_6 : decode cX10_isCell 6 = .ok (.bipush 10, 2) := by decide +kernel
theorem dX10_isCell_8 : decode cX10_isCell 8 = .ok (.idiv, 1) := by decide +kernel
theorem dX10_isCell_9 : decode cX10_isCell 9 = .ok (.invokevirtual 96, 3) := by decide +kernel
theorem dX10_isCell_12 : decode cX10_isCell 12 = .ok (.ifCond .eq 18, 3) := by decide +kernel
theorem dX10_isCell_15 : decode cX10_isCell 15 = .ok (.aload_n 0, 1) := by decide +kernel
theorem dX10_isCell_16 : decode cX10_isCell 16 = .ok (.iload_n 1, 1) := by decide +kernel
theorem dX10_isCell_17 : decode cX10_isCell 17 = .ok (.bipush 10, 2) := by decide +kernel
theorem dX10_isCell_19 : decode cX10_isCell 19 = .ok (.irem, 1) := by decide +kernel
theorem dX10_isCell_20 : decode cX10_isCell 20 = .ok (.invokevirtual 100, 3) := by decide +kernel
theorem dX10_isCell_23 : decode cX10_isCell 23 = .ok (.ifCond .eq 7, 3) := by decide +kernel
theorem dX10_isCell_26 : decode cX10_isCell 26 = .ok (.iconst 1, 1) := by decide +kernel
theorem dX10_isCell_27 : decode cX10_isCell 27 = .ok (.goto 4, 3) := by decide +kernel
theorem dX10_isCell_30 : decode cX10_isCell 30 = .ok (.iconst 0, 1) := by decide +kernel
theorem dX10_isCell_31 : decode cX10_isCell 31 = .ok (.ireturn, 1) := by decide +kernel
def m_X10_isCell (a1 : Int32) (g : Mm) : Option (Int32 × Mm) := (if a1 < (0 : Int32) then some ((0 : Int32), g) else bdd (m_X10_isHour (a1 / (10 : Int32)) g) (fun ra2 ga3 => (if ra2 = (0 : Int32) then some ((0 : Int32), ga3) else bdd (m_X10_isBell (rmI a1 (10 : Int32)) ga3) (fun ra6 ga7 => (if ra6 = (0 : Int32) then some ((0 : Int32), ga7) else some ((1 : Int32), ga7))))))
set_option maxHeartbeats 2000000 in
theorem c_X10_isCell {r2 : Int32} {g g2 : Mm} {a1 : Int32} (h : m_X10_isCell a1 g = some (r2, g2)) : gx_M 3 yX10_isCell cX10_isCell 2 (some .boolean) (fun al => [.ref (al (40)), .int (a1)]) g (some (.int r2)) g2 := by
  have hd : 3 ≤ 3 := Nat.le_refl _
  refine gx_M.of (by decide +kernel) (fun _ => Nat.le_of_ble_eq_true rfl) ?_
  intro p l e R s m args below meth c D al cI cJ A X
  refine gx_eq (pc' := 0) (ls' := [(0, .ref (al (40))), (1, .int (a1))]) (st' := []) (g' := g) ⟨rfl, rfl, rfl, rfl⟩ ?_
  unfold m_X10_isCell at h
  refine gx_iload_n X 1 rfl dX10_isCell_0 ?_
  refine gx_if_lt X 30 dX10_isCell_1 (by decide) (fun q1 => ?_) (fun q1 => ?_)
  · replace h := (if_pos q1).symm.trans h
    refine gx_iconst X (v := (0 : Int32)) dX10_isCell_30 (by decide) ?_
    obtain ⟨rfl, rfl⟩ := ret_eq h
    exact gx_iret X rfl dX10_isCell_31
  · replace h := (if_neg q1).symm.trans h
    refine gx_aload_n X 0 rfl dX10_isCell_4 ?_
    refine gx_iload_n X 1 rfl dX10_isCell_5 ?_
    refine gx_bipush X (v := (10 : Int32)) dX10_isCell_6 (by decide) ?_
    refine gx_idiv X dX10_isCell_8 (by decide) ?_
    obtain ⟨ra2, ga3, ca4, h⟩ := bdd_eq h
    refine gx_callVi X (40) (c_X10_isHour ca4) lc_X10_isHour li_X10_isHour lm_X10_96 (by decide) (cl_40 _ _) rfl rfl rfl (Nat.le_trans (by decide) hd) rfl (Nat.le_of_ble_eq_true rfl) dX10_isCell_9 ?_
    refine gx_if_eq X 30 dX10_isCell_12 (by decide) (fun q5 => ?_) (fun q5 => ?_)
    · replace h := (if_pos q5).symm.trans h
      refine gx_iconst X (v := (0 : Int32)) dX10_isCell_30 (by decide) ?_
      obtain ⟨rfl, rfl⟩ := ret_eq h
      exact gx_iret X rfl dX10_isCell_31
    · replace h := (if_neg q5).symm.trans h
      refine gx_aload_n X 0 rfl dX10_isCell_15 ?_
      refine gx_iload_n X 1 rfl dX10_isCell_16 ?_
      refine gx_bipush X (v := (10 : Int32)) dX10_isCell_17 (by decide) ?_
      refine gx_irem X dX10_isCell_19 (by decide) ?_
      obtain ⟨ra6, ga7, ca8, h⟩ := bdd_eq h
      refine gx_callVi X (40) (c_X10_isBell ca8) lc_X10_isBell li_X10_isBell lm_X10_100 (by decide) (cl_40 _ _) rfl rfl rfl (Nat.le_trans (by decide) hd) rfl (Nat.le_of_ble_eq_true rfl) dX10_isCell_20 ?_
      refine gx_if_eq X 30 dX10_isCell_23 (by decide) (fun q9 => ?_) (fun q9 => ?_)
      · replace h := (if_pos q9).symm.trans h
        refine gx_iconst X (v := (0 : Int32)) dX10_isCell_30 (by decide) ?_
        obtain ⟨rfl, rfl⟩ := ret_eq h
        exact gx_iret X rfl dX10_isCell_31
      · replace h := (if_neg q9).symm.trans h
        refine gx_iconst X (v := (1 : Int32)) dX10_isCell_26 (by decide) ?_
        refine gx_goto X 31 dX10_isCell_27 (by decide) ?_
        obtain ⟨rfl, rfl⟩ := ret_eq h
        exact gx_iret X rfl dX10_isCell_31
theorem dX10_laysAside_0 : decode cX10_laysAside 0 = .ok (.iconst 0, 1) := by decide +kernel
theorem dX10_laysAside_1 : decode cX10_laysAside 1 = .ok (.istore_n 1, 1) := by decide +kernel
theorem dX10_laysAside_2 : decode cX10_laysAside 2 = .ok (.iload_n 1, 1) := by decide +kernel
theorem dX10_laysAside_3 : decode cX10_laysAside 3 = .ok (.sipush 144, 3) := by decide +kernel
theorem dX10_laysAside_6 : decode cX10_laysAside 6 = .ok (.if_icmp .ge 21, 3) := by decide +kernel
theorem dX10_laysAside_9 : decode cX10_laysAside 9 = .ok (.aload_n 0, 1) := by decide +kernel
theorem dX10_laysAside_10 : decode cX10_laysAside 10 = .ok (.getfield 52, 3) := by decide +kernel
theorem dX10_laysAside_13 : decode cX10_laysAside 13 = .ok (.iload_n 1, 1) := by decide +kernel
theorem dX10_laysAside_14 : decode cX10_laysAside 14 = .ok (.aload_n 0, 1) := by decide +kernel
theorem dX10_laysAside_15 : decode cX10_laysAside 15 = .ok (.getfield 28, 3) := by decide +kernel
theorem dX10_laysAside_18 : decode cX10_laysAside 18 = .ok (.iload_n 1, 1) := by decide +kernel
theorem dX10_laysAside_19 : decode cX10_laysAside 19 = .ok (.iaload, 1) := by decide +kernel
theorem dX10_laysAside_20 : decode cX10_laysAside 20 = .ok (.iastore, 1) := by decide +kernel
theorem dX10_laysAside_21 : decode cX10_laysAside 21 = .ok (.iinc 1 1, 3) := by decide +kernel
theorem dX10_laysAside_24 : decode cX10_laysAside 24 = .ok (.goto (-22), 3) := by decide +kernel
theorem dX10_laysAside_27 : decode cX10_laysAside 27 = .ok (.return_, 1) := by decide +kernel
def m_X10_laysAside_2 : Nat → Int32 → Mm → Option (Int32 × Mm)
  | 0, _, _ => none
  | n + 1, x1, g => (if (144 : Int32) ≤ x1 then some ((0 : Int32), g) else gdd (ixo x1 144) (gdd (ixo x1 144) (m_X10_laysAside_2 n (x1 + (1 : Int32)) (wrI g 52 x1.toNatClampNeg (rdI g 44 x1.toNatClampNeg)))))
set_option maxHeartbeats 2000000 in
theorem t_X10_laysAside_2 {r2 : Int32} {g2 : Mm} (X : gx_X p R s m args meth c D al cI cJ A RX10 cX10_laysAside 2 none d 0 0) (hd : 1 ≤ d) : ∀ (n : Nat) (x1 : Int32) (g : Mm), m_X10_laysAside_2 n x1 g = some (r2, g2) → gx_G p l e R s m args below meth c (gx_Q below args s D al cI cJ A none g2) D al cI cJ A 2 0 0 2 [(0, .ref (al (40))), (1, .int (x1))] [] g := by
  intro n
  induction n with
  | zero => intro x1 g h; cases h
  | succ n ih =>
    intro x1 g h
    rw [m_X10_laysAside_2] at h
    refine gx_iload_n X 1 rfl dX10_laysAside_2 ?_
    refine gx_sipush X (v := (144 : Int32)) dX10_laysAside_3 (by decide) ?_
    refine gx_icmp_ge X 27 dX10_laysAside_6 (by decide) (fun q1 => ?_) (fun q1 => ?_)
    · replace h := (if_pos q1).symm.trans h
      obtain ⟨rfl, rfl⟩ := ret_eq h
      exact gx_vret X dX10_laysAside_27
    · replace h := (if_neg q1).symm.trans h
      refine gx_aload_n X 0 rfl dX10_laysAside_9 ?_
      refine gx_getf X (40) lf_X10_52 (by decide) (cl_40 _ _) (v := .ref (al (52))) rfl dX10_laysAside_10 ?_
      refine gx_iload_n X 1 rfl dX10_laysAside_13 ?_
      refine gx_aload_n X 0 rfl dX10_laysAside_14 ?_
      refine gx_getf X (40) lf_X10_28 (by decide) (cl_40 _ _) (v := .ref (al (44))) rfl dX10_laysAside_15 ?_
      refine gx_iload_n X 1 rfl dX10_laysAside_18 ?_
      obtain ⟨q2, h⟩ := gdd_eq h
      refine gx_iald X (44) 144 (by decide) (cl_44 _ _) q2 dX10_laysAside_19 ?_
      obtain ⟨q3, h⟩ := gdd_eq h
      refine gx_iast X (52) 144 (by decide) (fun r => cl_52 r _) q3 dX10_laysAside_20 ?_
      refine gx_iinc X [(1, .int ((x1 + (1 : Int32)))), (0, .ref (al (40)))] 1 dX10_laysAside_21 rfl rfl (by decide) rfl ?_
      refine gx_goto X 2 dX10_laysAside_24 (by decide) ?_
      exact gx_sub [1, 0] rfl (ih (x1 + (1 : Int32)) (wrI g 52 x1.toNatClampNeg (rdI g 44 x1.toNatClampNeg)) h)
def m_X10_laysAside (g : Mm) : Option (Int32 × Mm) := m_X10_laysAside_2 fuL (0 : Int32) g
set_option maxHeartbeats 2000000 in
theorem c_X10_laysAside {r2 : Int32} {g g2 : Mm} (h : m_X10_laysAside g = some (r2, g2)) : gx_M 1 yX10_laysAside cX10_laysAside 2 none (fun al => [.ref (al (40))]) g none g2 := by
  have hd : 1 ≤ 1 := Nat.le_refl _
  refine gx_M.of (by decide +kernel) (fun _ => Nat.le_of_ble_eq_true rfl) ?_
  intro p l e R s m args below meth c D al cI cJ A X
  refine gx_eq (pc' := 0) (ls' := [(0, .ref (al (40)))]) (st' := []) (g' := g) ⟨rfl, rfl, rfl, rfl⟩ ?_
  unfold m_X10_laysAside at h
  refine gx_iconst X (v := (0 : Int32)) dX10_laysAside_0 (by decide) ?_
  refine gx_istore_n X [(1, .int ((0 : Int32))), (0, .ref (al (40)))] dX10_laysAside_1 (by decide) rfl ?_
  exact gx_sub [1, 0] rfl (t_X10_laysAside_2 X hd fuL (0 : Int32) g h)
theorem dX10_laysBack_0 : decode cX10_laysBack 0 = .ok (.iconst 0, 1) := by decide +kernel
theorem dX10_laysBack_1 : decode cX10_laysBack 1 = .ok (.istore_n 1, 1) := by decide +kernel
theorem dX10_laysBack_2 : decode cX10_laysBack 2 = .ok (.iload_n 1, 1) := by decide +kernel
theorem dX10_laysBack_3 : decode cX10_laysBack 3 = .ok (.sipush 144, 3) := by decide +kernel
theorem dX10_laysBack_6 : decode cX10_laysBack 6 = .ok (.if_icmp .ge 21, 3) := by decide +kernel
theorem dX10_laysBack_9 : decode cX10_laysBack 9 = .ok (.aload_n 0, 1) := by decide +kernel
theorem dX10_laysBack_10 : decode cX10_laysBack 10 = .ok (.getfield 28, 3) := by decide +kernel
theorem dX10_laysBack_13 : decode cX10_laysBack 13 = .ok (.iload_n 1, 1) := by decide +kernel
theorem dX10_laysBack_14 : decode cX10_laysBack 14 = .ok (.aload_n 0, 1) := by decide +kernel
theorem dX10_laysBack_15 : decode cX10_laysBack 15 = .ok (.getfield 52, 3) := by decide +kernel
theorem dX10_laysBack_18 : decode cX10_laysBack 18 = .ok (.iload_n 1, 1) := by decide +kernel
theorem dX10_laysBack_19 : decode cX10_laysBack 19 = .ok (.iaload, 1) := by decide +kernel
theorem dX10_laysBack_20 : decode cX10_laysBack 20 = .ok (.iastore, 1) := by decide +kernel
theorem dX10_laysBack_21 : decode cX10_laysBack 21 = .ok (.iinc 1 1, 3) := by decide +kernel
theorem dX10_laysBack_24 : decode cX10_laysBack 24 = .ok (.goto (-22), 3) := by decide +kernel
theorem dX10_laysBack_27 : decode cX10_laysBack 27 = .ok (.return_, 1) := by decide +kernel
def m_X10_laysBack_2 : Nat → Int32 → Mm → Option (Int32 × Mm)
  | 0, _, _ => none
  | n + 1, x1, g => (if (144 : Int32) ≤ x1 then some ((0 : Int32), g) else gdd (ixo x1 144) (gdd (ixo x1 144) (m_X10_laysBack_2 n (x1 + (1 : Int32)) (wrI g 44 x1.toNatClampNeg (rdI g 52 x1.toNatClampNeg)))))
set_option maxHeartbeats 2000000 in
theorem t_X10_laysBack_2 {r2 : Int32} {g2 : Mm} (X : gx_X p R s m args meth c D al cI cJ A RX10 cX10_laysBack 2 none d 0 0) (hd : 1 ≤ d) : ∀ (n : Nat) (x1 : Int32) (g : Mm), m_X10_laysBack_2 n x1 g = some (r2, g2) → gx_G p l e R s m args below meth c (gx_Q below args s D al cI cJ A none g2) D al cI cJ A 2 0 0 2 [(0, .ref (al (40))), (1, .int (x1))] [] g := by
  intro n
  induction n with
  | zero => intro x1 g h; cases h
  | succ n ih =>
    intro x1 g h
    rw [m_X10_laysBack_2] at h
    refine gx_iload_n X 1 rfl dX10_laysBack_2 ?_
    refine gx_sipush X (v := (144 : Int32)) dX10_laysBack_3 (by decide) ?_
    refine gx_icmp_ge X 27 dX10_laysBack_6 (by decide) (fun q1 => ?_) (fun q1 => ?_)
    · replace h := (if_pos q1).symm.trans h
      obtain ⟨rfl, rfl⟩ := ret_eq h
      exact gx_vret X dX10_laysBack_27
    · replace h := (if_neg q1).symm.trans h
      refine gx_aload_n X 0 rfl dX10_laysBack_9 ?_
      refine gx_getf X (40) lf_X10_28 (by decide) (cl_40 _ _) (v := .ref (al (44))) rfl dX10_laysBack_10 ?_
      refine gx_iload_n X 1 rfl dX10_laysBack_13 ?_
      refine gx_aload_n X 0 rfl dX10_laysBack_14 ?_
      refine gx_getf X (40) lf_X10_52 (by decide) (cl_40 _ _) (v := .ref (al (52))) rfl dX10_laysBack_15 ?_
      refine gx_iload_n X 1 rfl dX10_laysBack_18 ?_
      obtain ⟨q2, h⟩ := gdd_eq h
      refine gx_iald X (52) 144 (by decide) (cl_52 _ _) q2 dX10_laysBack_19 ?_
      obtain ⟨q3, h⟩ := gdd_eq h
      refine gx_iast X (44) 144 (by decide) (fun r => cl_44 r _) q3 dX10_laysBack_20 ?_
      refine gx_iinc X [(1, .int ((x1 + (1 : Int32)))), (0, .ref (al (40)))] 1 dX10_laysBack_21 rfl rfl (by decide) rfl ?_
      refine gx_goto X 2 dX10_laysBack_24 (by decide) ?_
      exact gx_sub [1, 0] rfl (ih (x1 + (1 : Int32)) (wrI g 44 x1.toNatClampNeg (rdI g 52 x1.toNatClampNeg)) h)
def m_X10_laysBack (g : Mm) : Option (Int32 × Mm) := m_X10_laysBack_2 fuL (0 : Int32) g
set_option maxHeartbeats 2000000 in
theorem c_X10_laysBack {r2 : Int32} {g g2 : Mm} (h : m_X10_laysBack g = some (r2, g2)) : gx_M 1 yX10_laysBack cX10_laysBack 2 none (fun al => [.ref (al (40))]) g none g2 := by
  have hd : 1 ≤ 1 := Nat.le_refl _
  refine gx_M.of (by decide +kernel) (fun _ => Nat.le_of_ble_eq_true rfl) ?_
  intro p l e R s m args below meth c D al cI cJ A X
  refine gx_eq (pc' := 0) (ls' := [(0, .ref (al (40)))]) (st' := []) (g' := g) ⟨rfl, rfl, rfl, rfl⟩ ?_
  unfold m_X10_laysBack at h
  refine gx_iconst X (v := (0 : Int32)) dX10_laysBack_0 (by decide) ?_
  refine gx_istore_n X [(1, .int ((0 : Int32))), (0, .ref (al (40)))] dX10_laysBack_1 (by decide) rfl ?_
  exact gx_sub [1, 0] rfl (t_X10_laysBack_2 X hd fuL (0 : Int32) g h)
theorem dX10_greedy_0 : decode cX10_greedy 0 = .ok (.iload_n 1, 1) := by decide +kernel
theorem dX10_greedy_1 : decode cX10_greedy 1 = .ok (.iconst (-1), 1) := by decide +kernel
theorem dX10_greedy_2 : decode cX10_greedy 2 = .ok (.if_icmp .eq 13, 3) := by decide +kernel
theorem dX10_greedy_5 : decode cX10_greedy 5 = .ok (.aload_n 0, 1) := by decide +kernel
theorem dX10_greedy_6 : decode cX10_greedy 6 = .ok (.iload_n 1, 1) := by decide +kernel
theorem dX10_greedy_7 : decode cX10_greedy 7 = .ok (.invokevirtual 124, 3) := by decide +kernel
theorem dX10_greedy_10 : decode cX10_greedy 10 = .ok (.ifCond .ne 5, 3) := by decide +kernel
theorem dX10_greedy_13 : decode cX10_greedy 13 = .ok (.iconst (-1), 1) := by decide +kernel
theorem dX10_greedy_14 : decode cX10_greedy 14 = .ok (.ireturn, 1) := by decide +kernel
theorem dX10_greedy_15 : decode cX10_greedy 15 = .ok (.aload_n 0, 1) := by decide +kernel
theorem dX10_greedy_16 : decode cX10_greedy 16 = .ok (.getfield 89, 3) := by decide +kernel
theorem dX10_greedy_19 : decode cX10_greedy 19 = .ok (.ifCond .eq 11, 3) := by decide +kernel
theorem dX10_greedy_22 : decode cX10_greedy 22 = .ok (.aload_n 0, 1) := by decide +kernel
theorem dX10_greedy_23 : decode cX10_greedy 23 = .ok (.getfield 89, 3) := by decide +kernel
theorem dX10_greedy_26 : decode cX10_greedy 26 = .ok (.iconst 3, 1) := by decide +kernel
theorem dX10_greedy_27 : decode cX10_greedy 27 = .ok (.if_icmp .le 6, 3) := by decide +kernel
theorem dX10_greedy_30 : decode cX10_greedy 30 = .ok (.bipush (-5), 2) := by decide +kernel
theorem dX10_greedy_32 : decode cX10_greedy 32 = .ok (.ireturn, 1) := by decide +kernel
theorem dX10_greedy_33 : decode cX10_greedy 33 = .ok (.aload_n 0, 1) := by decide +kernel
theorem dX10_greedy_34 : decode cX10_greedy 34 = .ok (.invokevirtual 301, 3) := by decide +kernel
theorem dX10_greedy_37 : decode cX10_greedy 37 = .ok (.iconst 1, 1) := by decide +kernel
theorem dX10_greedy_38 : decode cX10_greedy 38 = .ok (.istore_n 2, 1) := by decide +kernel
theorem dX10_greedy_39 : decode cX10_greedy 39 = .ok (.iconst 0, 1) := by decide +kernel
theorem dX10_greedy_40 : decode cX10_greedy 40 = .ok (.istore_n 3, 1) := by decide +kernel
theorem dX10_greedy_41 : decode cX10_greedy 41 = .ok (.iconst 0, 1) := by decide +kernel
theorem dX10_greedy_42 : decode cX10_greedy 42 = .ok (.istore 4, 2) := by decide +kernel
theorem dX10_greedy_44 : decode cX10_greedy 44 = .ok (.iload 4, 2) := by decide +kernel
theorem dX10_greedy_46 : decode cX10_greedy 46 = .ok (.aload_n 0, 1) := by decide +kernel
theorem dX10_greedy_47 : decode cX10_greedy 47 = .ok (.getfield 21, 3) := by decide +kernel
theorem dX10_greedy_50 : decode cX10_greedy 50 = .ok (.if_icmp .ge 62, 3) := by decide +kernel
theorem dX10_greedy_53 : decode cX10_greedy 53 = .ok (.iload_n 2, 1) := by decide +kernel
theorem dX10_greedy_54 : decode cX10_greedy 54 = .ok (.ifCond .eq 58, 3) := by decide +kernel
theorem dX10_greedy_57 : decode cX10_greedy 57 = .ok (.iconst 0, 1) := by decide +kernel
theorem dX10_greedy_58 : decode cX10_greedy 58 = .ok (.istore_n 2, 1) := by decide +kernel
theorem dX10_greedy_59 : decode cX10_greedy 59 = .ok (.iconst 0, 1) := by decide +kernel
theorem dX10_greedy_60 : decode cX10_greedy 60 = .ok (.istore 5, 2) := by decide +kernel
theorem dX10_greedy_62 : decode cX10_greedy 62 = .ok (.iload 5, 2) := by decide +kernel
theorem dX10_greedy_64 : decode cX10_greedy 64 = .ok (.aload_n 0, 1) := by decide +kernel
theorem dX10_greedy_65 : decode cX10_greedy 65 = .ok (.invokevirtual 313, 3) := by decide +kernel
theorem dX10_greedy_68 : decode cX10_greedy 68 = .ok (.if_icmp .gt 38, 3) := by decide +kernel
theorem dX10_greedy_71 : decode cX10_greedy 71 = .ok (.iload_n 2, 1) := by decide +kernel
theorem dX10_greedy_72 : decode cX10_greedy 72 = .ok (.ifCond .ne 34, 3) := by decide +kernel
theorem dX10_greedy_75 : decode cX10_greedy 75 = .ok (.aload_n 0, 1) := by decide +kernel
theorem dX10_greedy_76 : decode cX10_greedy 76 = .ok (.iload 4, 2) := by decide +kernel
theorem dX10_greedy_78 : decode cX10_greedy 78 = .ok (.iload 5, 2) := by decide +kernel
theorem dX10_greedy_80 : decode cX10_greedy 80 = .ok (.iload 4, 2) := by decide +kernel
theorem dX10_greedy_82 : decode cX10_greedy 82 = .ok (.iconst 0, 1) := by decide +kernel
theorem dX10_greedy_83 : decode cX10_greedy 83 = .ok (.invokevirtual 316, 3) := by decide +kernel
theorem dX10_greedy_86 : decode cX10_greedy 86 = .ok (.istore_n 2, 1) := by decide +kernel
theorem dX10_greedy_87 : decode cX10_greedy 87 = .ok (.iload_n 3, 1) := by decide +kernel
theorem dX10_greedy_88 : decode cX10_greedy 88 = .ok (.iload_n 2, 1) := by decide +kernel
theorem dX10_greedy_89 : decode cX10_greedy 89 = .ok (.ifCond .eq 8, 3) := by decide +kernel
theorem dX10_greedy_92 : decode cX10_greedy 92 = .ok (.iload 5, 2) := by decide +kernel
theorem dX10_greedy_94 : decode cX10_greedy 94 = .ok (.goto 4, 3) := by decide +kernel
theorem dX10_greedy_97 : decode cX10_greedy 97 = .ok (.iconst 0, 1) := by decide +kernel
theorem dX10_greedy_98 : decode cX10_greedy 98 = .ok (.iadd, 1) := by decide +kernel
theorem dX10_greedy_99 : decode cX10_greedy 99 = .ok (.istore_n 3, 1) := by decide +kernel
theorem dX10_greedy_100 : decode cX10_greedy 100 = .ok (.iinc 5 1, 3) := by decide +kernel
theorem dX10_greedy_103 : decode cX10_greedy 103 = .ok (.goto (-41), 3) := by decide +kernel
theorem dX10_greedy_106 : decode cX10_greedy 106 = .ok (.iinc 4 1, 3) := by decide +kernel
theorem dX10_greedy_109 : decode cX10_greedy 109 = .ok (.goto (-65), 3) := by decide +kernel
theorem dX10_greedy_112 : decode cX10_greedy 112 = .ok (.iload_n 2, 1) := by decide +kernel
theorem dX10_greedy_113 : decode cX10_greedy 113 = .ok (.ifCond .ne 8, 3) := by decide +kernel
theorem dX10_greedy_116 : decode cX10_greedy 116 = .ok (.bipush (-2), 2) := by decide +kernel
theorem dX10_greedy_118 : decode cX10_greedy 118 = .ok (.goto 29, 3) := by decide +kernel
theorem dX10_greedy_121 : decode cX10_greedy 121 = .ok (.iload_n 1, 1) := by decide +kernel
theorem dX10_greedy_122 : decode cX10_greedy 122 = .ok (.iconst (-1), 1) := by decide +kernel
theorem dX10_greedy_123 : decode cX10_greedy 123 = .ok (.if_icmp .ne 7, 3) := by decide +kernel
theorem dX10_greedy_126 : decode cX10_greedy 126 = .ok (.iload_n 3, 1) := by decide +kernel
theorem dX10_greedy_127 : decode cX10_greedy 127 = .ok (.goto 20, 3) := by decide +kernel
theorem dX10_greedy_130 : decode cX10_greedy 130 = .ok (.aload_n 0, 1) := by decide +kernel
theorem dX10_greedy_131 : decode cX10_greedy 131 = .ok (.getfield 28, 3) := by decide +kernel
theorem dX10_greedy_134 : decode cX10_greedy 134 = .ok (.bipush 6, 2) := by decide +kernel
theorem dX10_greedy_136 : decode cX10_greedy 136 = .ok (.iload_n 1, 1) := by decide +kernel
theorem dX10_greedy_137 : decode cX10_greedy 137 = .ok (.bipush 10, 2) := by decide +kernel
theorem dX10_greedy_139 : decode cX10_greedy 139 = .ok (.idiv, 1) := by decide +kernel
theorem dX10_greedy_140 : decode cX10_greedy 140 = .ok (.imul, 1) := by decide +kernel
theorem dX10_greedy_141 : decode cX10_greedy 141 = .ok (.iload_n 1, 1) := by decide +kernel
theorem dX10_greedy_142 : decode cX10_greedy 142 = .ok (.bipush 10, 2) := by decide +kernel
theorem dX10_greedy_144 : decode cX10_greedy 144 = .ok (.irem, 1) := by decide +kernel
theorem dX10_greedy_145 : decode cX10_greedy 145 = .ok (.iadd, 1) := by decide +kernel
theorem dX10_greedy_146 : decode cX10_greedy 146 = .ok (.iaload, 1) := by decide +kernel
theorem dX10_greedy_147 : decode cX10_greedy 147 = .ok (.istore 4, 2) := by decide +kernel
theorem dX10_greedy_149 : decode cX10_greedy 149 = .ok (.aload_n 0, 1) := by decide +kernel
theorem dX10_greedy_150 : decode cX10_greedy 150 = .ok (.invokevirtual 310, 3) := by decide +kernel
theorem dX10_greedy_153 : decode cX10_greedy 153 = .ok (.iload 4, 2) := by decide +kernel
theorem dX10_greedy_155 : decode cX10_greedy 155 = .ok (.ireturn, 1) := by decide +kernel
def m_X10_greedy_62 (K44 : Int32 → Int32 → Int32 → Int32 → Mm → Option (Int32 × Mm)) : Nat → Int32 → Int32 → Int32 → Int32 → Int32 → Mm → Option (Int32 × Mm)
  | 0, _, _, _, _, _, _ => none
  | n + 1, x1, x2, x3, x4, x5, g => bdd (m_X10_mostStrokes  g) (fun ra1 ga2 => (if ra1 < x5 then K44 x1 x2 x3 (x4 + (1 : Int32)) ga2 else (if x2 = (0 : Int32) then bdd (m_X10_finds x4 x5 x4 (0 : Int32) ga2) (fun ra6 ga7 => (if ra6 = (0 : Int32) then m_X10_greedy_62 K44 n x1 ra6 (x3 + (0 : Int32)) x4 (x5 + (1 : Int32)) ga7 else m_X10_greedy_62 K44 n x1 ra6 (x3 + x5) x4 (x5 + (1 : Int32)) ga7)) else K44 x1 x2 x3 (x4 + (1 : Int32)) ga2)))
set_option maxHeartbeats 2000000 in
theorem t_X10_greedy_62 {r2 : Int32} {g2 : Mm} (X : gx_X p R s m args meth c D al cI cJ A RX10 cX10_greedy 6 (some .int) d 0 0) (hd : 4 ≤ d) {K44 : Int32 → Int32 → Int32 → Int32 → Mm → Option (Int32 × Mm)} (hK44 : ∀ (u0 : Int32) (u1 : Int32) (u2 : Int32) (u3 : Int32) (g : Mm), K44 u0 u1 u2 u3 g = some (r2, g2) → gx_G p l e R s m args below meth c (gx_Q below args s D al cI cJ A (some (.int r2)) g2) D al cI cJ A 6 0 0 44 [(0, .ref (al (40))), (1, .int (u0)), (2, .int (u1)), (3, .int (u2)), (4, .int (u3))] [] g) : ∀ (n : Nat) (x1 : Int32) (x2 : Int32) (x3 : Int32) (x4 : Int32) (x5 : Int32) (g : Mm), m_X10_greedy_62 K44 n x1 x2 x3 x4 x5 g = some (r2, g2) → gx_G p l e R s m args below meth c (gx_Q below args s D al cI cJ A (some (.int r2)) g2) D al cI cJ A 6 0 0 62 [(0, .ref (al (40))), (1, .int (x1)), (2, .int (x2)), (3, .int (x3)), (4, .int (x4)), (5, .int (x5))] [] g := by
  intro n
  induction n with
  | zero => intro x1 x2 x3 x4 x5 g h; cases h
  | succ n ih =>
    intro x1 x2 x3 x4 x5 g h
    rw [m_X10_greedy_62] at h
    refine gx_iload X 5 rfl dX10_greedy_62 ?_
    refine gx_aload_n X 0 rfl dX10_greedy_64 ?_
    obtain ⟨ra1, ga2, ca3, h⟩ := bdd_eq h
    refine gx_callVi X (40) (c_X10_mostStrokes ca3) lc_X10_mostStrokes li_X10_mostStrokes lm_X10_313 (by decide) (cl_40 _ _) rfl rfl rfl (Nat.le_trans (by decide) hd) rfl (Nat.le_of_ble_eq_true rfl) dX10_greedy_65 ?_
    refine gx_icmp_gt X 106 dX10_greedy_68 (by decide) (fun q4 => ?_) (fun q4 => ?_)
    · replace h := (if_pos q4).symm.trans h
      refine gx_iinc X [(4, .int ((x4 + (1 : Int32)))), (0, .ref (al (40))), (1, .int (x1)), (2, .int (x2)), (3, .int (x3)), (5, .int (x5))] 4 dX10_greedy_106 rfl rfl (by decide) rfl ?_
      refine gx_goto X 44 dX10_greedy_109 (by decide) ?_
      exact gx_sub [1, 2, 3, 4, 0] rfl (hK44 x1 x2 x3 (x4 + (1 : Int32)) ga2 h)
    · replace h := (if_neg q4).symm.trans h
      refine gx_iload_n X 2 rfl dX10_greedy_71 ?_
      refine gx_if_ne X 106 dX10_greedy_72 (by decide) (fun q5 => ?_) (fun q5 => ?_)
      · replace h := (if_neg q5).symm.trans h
        refine gx_iinc X [(4, .int ((x4 + (1 : Int32)))), (0, .ref (al (40))), (1, .int (x1)), (2, .int (x2)), (3, .int (x3)), (5, .int (x5))] 4 dX10_greedy_106 rfl rfl (by decide) rfl ?_
        refine gx_goto X 44 dX10_greedy_109 (by decide) ?_
        exact gx_sub [1, 2, 3, 4, 0] rfl (hK44 x1 x2 x3 (x4 + (1 : Int32)) ga2 h)
      · replace h := (if_pos q5).symm.trans h
        refine gx_aload_n X 0 rfl dX10_greedy_75 ?_
        refine gx_iload X 4 rfl dX10_greedy_76 ?_
        refine gx_iload X 5 rfl dX10_greedy_78 ?_
        refine gx_iload X 4 rfl dX10_greedy_80 ?_
        refine gx_iconst X (v := (0 : Int32)) dX10_greedy_82 (by decide) ?_
        obtain ⟨ra6, ga7, ca8, h⟩ := bdd_eq h
        refine gx_callVi X (40) (c_X10_finds ca8) lc_X10_finds li_X10_finds lm_X10_316 (by decide) (cl_40 _ _) rfl rfl rfl (Nat.le_trans (by decide) hd) rfl (Nat.le_of_ble_eq_true rfl) dX10_greedy_83 ?_
        refine gx_istore_n X [(2, .int (ra6)), (0, .ref (al (40))), (1, .int (x1)), (3, .int (x3)), (4, .int (x4)), (5, .int (x5))] dX10_greedy_86 (by decide) rfl ?_
        refine gx_iload_n X 3 rfl dX10_greedy_87 ?_
        refine gx_iload_n X 0 rfl dX10_greedy_88 ?_
        refine gx_if_eq X 97 dX10_greedy_89 (by decide) (fun q9 => ?_) (fun q9 => ?_)
        · replace h := (if_pos q9).symm.trans h
          refine gx_iconst X (v := (0 : Int32)) dX10_greedy_97 (by decide) ?_
          refine gx_iadd X dX10_greedy_98 ?_
          refine gx_istore_n X [(3, .int ((x3 + (0 : Int32)))), (2, .int (ra6)), (0, .ref (al (40))), (1, .int (x1)), (4, .int (x4)), (5, .int (x5))] dX10_greedy_99 (by decide) rfl ?_
          refine gx_iinc X [(5, .int ((x5 + (1 : Int32)))), (3, .int ((x3 + (0 : Int32)))), (2, .int (ra6)), (0, .ref (al (40))), (1, .int (x1)), (4, .int (x4))] 5 dX10_greedy_100 rfl rfl (by decide) rfl ?_
          refine gx_goto X 62 dX10_greedy_103 (by decide) ?_
          exact gx_sub [3, 4, 2, 1, 5, 0] rfl (ih x1 ra6 (x3 + (0 : Int32)) x4 (x5 + (1 : Int32)) ga7 h)
        · replace h := (if_neg q9).symm.trans h
          refine gx_iload X 5 rfl dX10_greedy_92 ?_
          refine gx_goto X 98 dX10_greedy_94 (by decide) ?_
          refine gx_iadd X dX10_greedy_98 ?_
          refine gx_istore_n X [(3, .int ((x3 + x5))), (2, .int (ra6)), (0, .ref (al (40))), (1, .int (x1)), (4, .int (x4)), (5, .int (x5))] dX10_greedy_99 (by decide) rfl ?_
          refine gx_iinc X [(5, .int ((x5 + (1 : Int32)))), (3, .int ((x3 + x5))), (2, .int (ra6)), (0, .ref (al (40))), (1, .int (x1)), (4, .int (x4))] 5 dX10_greedy_100 rfl rfl (by decide) rfl ?_
          refine gx_goto X 62 dX10_greedy_103 (by decide) ?_
          exact gx_sub [3, 4, 2, 1, 5, 0] rfl (ih x1 ra6 (x3 + x5) x4 (x5 + (1 : Int32)) ga7 h)
def m_X10_greedy_147 (k0 : Int32) (g : Mm) : Option (Int32 × Mm) := bdd (m_X10_laysBack  g) (fun ra1 ga2 => some (k0, ga2))
set_option maxHeartbeats 2000000 in
theorem t_X10_greedy_147 {r2 : Int32} {g2 : Mm} (X : gx_X p R s m args meth c D al cI cJ A RX10 cX10_greedy 6 (some .int) d 0 0) (hd : 4 ≤ d) : ∀ (k0 : Int32) (g : Mm), m_X10_greedy_147 k0 g = some (r2, g2) → gx_G p l e R s m args below meth c (gx_Q below args s D al cI cJ A (some (.int r2)) g2) D al cI cJ A 6 0 0 147 [(0, .ref (al (40)))] [.int (k0)] g := by
  intro k0 g h
  unfold m_X10_greedy_147 at h
  refine gx_istore X [(4, .int (k0)), (0, .ref (al (40)))] dX10_greedy_147 (by decide) rfl ?_
  refine gx_aload_n X 1 rfl dX10_greedy_149 ?_
  obtain ⟨ra1, ga2, ca3, h⟩ := bdd_eq h
  refine gx_callVv X (40) (c_X10_laysBack ca3) lc_X10_laysBack li_X10_laysBack lm_X10_310 (by decide) (cl_40 _ _) rfl rfl rfl (Nat.le_trans (by decide) hd) rfl (Nat.le_of_ble_eq_true rfl) dX10_greedy_150 ?_
  refine gx_iload X 0 rfl dX10_greedy_153 ?_
  obtain ⟨rfl, rfl⟩ := ret_eq h
  exact gx_iret X rfl dX10_greedy_155
def m_X10_greedy_112 (x1 : Int32) (x2 : Int32) (x3 : Int32) (g : Mm) : Option (Int32 × Mm) := (if x2 = (0 : Int32) then m_X10_greedy_147 (-2 : Int32) g else (if x1 = (-1 : Int32) then m_X10_greedy_147 x3 g else gdd (ixo (((6 : Int32) * (x1 / (10 : Int32))) + (rmI x1 (10 : Int32))) 144) (m_X10_greedy_147 (rdI g 44 (((6 : Int32) * (x1 / (10 : Int32))) + (rmI x1 (10 : Int32))).toNatClampNeg) g)))
set_option maxHeartbeats 2000000 in
theorem t_X10_greedy_112 {r2 : Int32} {g2 : Mm} (X : gx_X p R s m args meth c D al cI cJ A RX10 cX10_greedy 6 (some .int) d 0 0) (hd : 4 ≤ d) : ∀ (x1 : Int32) (x2 : Int32) (x3 : Int32) (g : Mm), m_X10_greedy_112 x1 x2 x3 g = some (r2, g2) → gx_G p l e R s m args below meth c (gx_Q below args s D al cI cJ A (some (.int r2)) g2) D al cI cJ A 6 0 0 112 [(0, .ref (al (40))), (1, .int (x1)), (2, .int (x2)), (3, .int (x3))] [] g := by
  intro x1 x2 x3 g h
  unfold m_X10_greedy_112 at h
  refine gx_iload_n X 2 rfl dX10_greedy_112 ?_
  refine gx_if_ne X 121 dX10_greedy_113 (by decide) (fun q1 => ?_) (fun q1 => ?_)
  · replace h := (if_neg q1).symm.trans h
    refine gx_iload_n X 1 rfl dX10_greedy_121 ?_
    refine gx_iconst X (v := (-1 : Int32)) dX10_greedy_122 (by decide) ?_
    refine gx_icmp_ne X 130 dX10_greedy_123 (by decide) (fun q2 => ?_) (fun q2 => ?_)
    · replace h := (if_neg q2).symm.trans h
      refine gx_aload_n X 0 rfl dX10_greedy_130 ?_
      refine gx_getf X (40) lf_X10_28 (by decide) (cl_40 _ _) (v := .ref (al (44))) rfl dX10_greedy_131 ?_
      refine gx_bipush X (v := (6 : Int32)) dX10_greedy_134 (by decide) ?_
      refine gx_iload_n X 1 rfl dX10_greedy_136 ?_
      refine gx_bipush X (v := (10 : Int32)) dX10_greedy_137 (by decide) ?_
      refine gx_idiv X dX10_greedy_139 (by decide) ?_
      refine gx_imul X dX10_greedy_140 ?_
      refine gx_iload_n X 1 rfl dX10_greedy_141 ?_
      refine gx_bipush X (v := (10 : Int32)) dX10_greedy_142 (by decide) ?_
      refine gx_irem X dX10_greedy_144 (by decide) ?_
      refine gx_iadd X dX10_greedy_145 ?_
      obtain ⟨q3, h⟩ := gdd_eq h
      refine gx_iald X (44) 144 (by decide) (cl_44 _ _) q3 dX10_greedy_146 ?_
      exact gx_sub [0] rfl (t_X10_greedy_147 X hd (rdI g 44 (((6 : Int32) * (x1 / (10 : Int32))) + (rmI x1 (10 : Int32))).toNatClampNeg) g h)
    · replace h := (if_pos q2).symm.trans h
      refine gx_iload_n X 3 rfl dX10_greedy_126 ?_
      refine gx_goto X 147 dX10_greedy_127 (by decide) ?_
      exact gx_sub [0] rfl (t_X10_greedy_147 X hd x3 g h)
  · replace h := (if_pos q1).symm.trans h
    refine gx_bipush X (v := (-2 : Int32)) dX10_greedy_116 (by decide) ?_
    refine gx_goto X 147 dX10_greedy_118 (by decide) ?_
    exact gx_sub [0] rfl (t_X10_greedy_147 X hd (-2 : Int32) g h)
def m_X10_greedy_44 : Nat → Int32 → Int32 → Int32 → Int32 → Mm → Option (Int32 × Mm)
  | 0, _, _, _, _, _ => none
  | n + 1, x1, x2, x3, x4, g => (if (rdI g 40 5) ≤ x4 then m_X10_greedy_112 x1 x2 x3 g else (if x2 = (0 : Int32) then m_X10_greedy_112 x1 x2 x3 g else m_X10_greedy_62 (m_X10_greedy_44 n) fuL x1 (0 : Int32) x3 x4 (0 : Int32) g))
set_option maxHeartbeats 2000000 in
theorem t_X10_greedy_44 {r2 : Int32} {g2 : Mm} (X : gx_X p R s m args meth c D al cI cJ A RX10 cX10_greedy 6 (some .int) d 0 0) (hd : 4 ≤ d) : ∀ (n : Nat) (x1 : Int32) (x2 : Int32) (x3 : Int32) (x4 : Int32) (g : Mm), m_X10_greedy_44 n x1 x2 x3 x4 g = some (r2, g2) → gx_G p l e R s m args below meth c (gx_Q below args s D al cI cJ A (some (.int r2)) g2) D al cI cJ A 6 0 0 44 [(0, .ref (al (40))), (1, .int (x1)), (2, .int (x2)), (3, .int (x3)), (4, .int (x4))] [] g := by
  intro n
  induction n with
  | zero => intro x1 x2 x3 x4 g h; cases h
  | succ n ih =>
    intro x1 x2 x3 x4 g h
    rw [m_X10_greedy_44] at h
    refine gx_iload X 4 rfl dX10_greedy_44 ?_
    refine gx_aload_n X 0 rfl dX10_greedy_46 ?_
    refine gx_getf X (40) lf_X10_21 (by decide) (cl_40 _ _) (v := .int ((rdI g 40 5))) rfl dX10_greedy_47 ?_
    refine gx_icmp_ge X 112 dX10_greedy_50 (by decide) (fun q1 => ?_) (fun q1 => ?_)
    · replace h := (if_pos q1).symm.trans h
      exact gx_sub [0, 1, 2, 3] rfl (t_X10_greedy_112 X hd x1 x2 x3 g h)
    · replace h := (if_neg q1).symm.trans h
      refine gx_iload_n X 2 rfl dX10_greedy_53 ?_
      refine gx_if_eq X 112 dX10_greedy_54 (by decide) (fun q2 => ?_) (fun q2 => ?_)
      · replace h := (if_pos q2).symm.trans h
        exact gx_sub [0, 1, 2, 3] rfl (t_X10_greedy_112 X hd x1 x2 x3 g h)
      · replace h := (if_neg q2).symm.trans h
        refine gx_iconst X (v := (0 : Int32)) dX10_greedy_57 (by decide) ?_
        refine gx_istore_n X [(2, .int ((0 : Int32))), (0, .ref (al (40))), (1, .int (x1)), (3, .int (x3)), (4, .int (x4))] dX10_greedy_58 (by decide) rfl ?_
        refine gx_iconst X (v := (0 : Int32)) dX10_greedy_59 (by decide) ?_
        refine gx_istore X [(5, .int ((0 : Int32))), (2, .int ((0 : Int32))), (0, .ref (al (40))), (1, .int (x1)), (3, .int (x3)), (4, .int (x4))] dX10_greedy_60 (by decide) rfl ?_
        exact gx_sub [2, 3, 1, 4, 5, 0] rfl (t_X10_greedy_62 X hd (fun u0 u1 u2 u3 g h => ih u0 u1 u2 u3 g h) fuL x1 (0 : Int32) x3 x4 (0 : Int32) g h)
def m_X10_greedy_15 (x1 : Int32) (g : Mm) : Option (Int32 × Mm) := (if (rdI g 40 4) = (0 : Int32) then some ((-5 : Int32), g) else (if (rdI g 40 4) ≤ (3 : Int32) then bdd (m_X10_laysAside  g) (fun ra3 ga4 => m_X10_greedy_44 fuL x1 (1 : Int32) (0 : Int32) (0 : Int32) ga4) else some ((-5 : Int32), g)))
set_option maxHeartbeats 2000000 in
theorem t_X10_greedy_15 {r2 : Int32} {g2 : Mm} (X : gx_X p R s m args meth c D al cI cJ A RX10 cX10_greedy 6 (some .int) d 0 0) (hd : 4 ≤ d) : ∀ (x1 : Int32) (g : Mm), m_X10_greedy_15 x1 g = some (r2, g2) → gx_G p l e R s m args below meth c (gx_Q below args s D al cI cJ A (some (.int r2)) g2) D al cI cJ A 6 0 0 15 [(0, .ref (al (40))), (1, .int (x1))] [] g := by
  intro x1 g h
  unfold m_X10_greedy_15 at h
  refine gx_aload_n X 0 rfl dX10_greedy_15 ?_
  refine gx_getf X (40) lf_X10_89 (by decide) (cl_40 _ _) (v := .int ((rdI g 40 4))) rfl dX10_greedy_16 ?_
  refine gx_if_eq X 30 dX10_greedy_19 (by decide) (fun q1 => ?_) (fun q1 => ?_)
  · replace h := (if_pos q1).symm.trans h
    refine gx_bipush X (v := (-5 : Int32)) dX10_greedy_30 (by decide) ?_
    obtain ⟨rfl, rfl⟩ := ret_eq h
    exact gx_iret X rfl dX10_greedy_32
  · replace h := (if_neg q1).symm.trans h
    refine gx_aload_n X 0 rfl dX10_greedy_22 ?_
    refine gx_getf X (40) lf_X10_89 (by decide) (cl_40 _ _) (v := .int ((rdI g 40 4))) rfl dX10_greedy_23 ?_
    refine gx_iconst X (v := (3 : Int32)) dX10_greedy_26 (by decide) ?_
    refine gx_icmp_le X 33 dX10_greedy_27 (by decide) (fun q2 => ?_) (fun q2 => ?_)
    · replace h := (if_pos q2).symm.trans h
      refine gx_aload_n X 0 rfl dX10_greedy_33 ?_
      obtain ⟨ra3, ga4, ca5, h⟩ := bdd_eq h
      refine gx_callVv X (40) (c_X10_laysAside ca5) lc_X10_laysAside li_X10_laysAside lm_X10_301 (by decide) (cl_40 _ _) rfl rfl rfl (Nat.le_trans (by decide) hd) rfl (Nat.le_of_ble_eq_true rfl) dX10_greedy_34 ?_
      refine gx_iconst X (v := (1 : Int32)) dX10_greedy_37 (by decide) ?_
      refine gx_istore_n X [(2, .int ((1 : Int32))), (0, .ref (al (40))), (1, .int (x1))] dX10_greedy_38 (by decide) rfl ?_
      refine gx_iconst X (v := (0 : Int32)) dX10_greedy_39 (by decide) ?_
      refine gx_istore_n X [(3, .int ((0 : Int32))), (2, .int ((1 : Int32))), (0, .ref (al (40))), (1, .int (x1))] dX10_greedy_40 (by decide) rfl ?_
      refine gx_iconst X (v := (0 : Int32)) dX10_greedy_41 (by decide) ?_
      refine gx_istore X [(4, .int ((0 : Int32))), (3, .int ((0 : Int32))), (2, .int ((1 : Int32))), (0, .ref (al (40))), (1, .int (x1))] dX10_greedy_42 (by decide) rfl ?_
      exact gx_sub [3, 4, 2, 1, 0] rfl (t_X10_greedy_44 X hd fuL x1 (1 : Int32) (0 : Int32) (0 : Int32) ga4 h)
    · replace h := (if_neg q2).symm.trans h
      refine gx_bipush X (v := (-5 : Int32)) dX10_greedy_30 (by decide) ?_
      obtain ⟨rfl, rfl⟩ := ret_eq h
      exact gx_iret X rfl dX10_greedy_32
def m_X10_greedy (a1 : Int32) (g : Mm) : Option (Int32 × Mm) := (if a1 = (-1 : Int32) then m_X10_greedy_15 a1 g else bdd (m_X10_isCell a1 g) (fun ra2 ga3 => (if ra2 = (0 : Int32) then some ((-1 : Int32), ga3) else m_X10_greedy_15 a1 ga3)))
set_option maxHeartbeats 2000000 in
theorem c_X10_greedy {r2 : Int32} {g g2 : Mm} {a1 : Int32} (h : m_X10_greedy a1 g = some (r2, g2)) : gx_M 4 yX10_greedy cX10_greedy 6 (some .int) (fun al => [.ref (al (40)), .int (a1)]) g (some (.int r2)) g2 := by
  have hd : 4 ≤ 4 := Nat.le_refl _
  refine gx_M.of (by decide +kernel) (fun _ => Nat.le_of_ble_eq_true rfl) ?_
  intro p l e R s m args below meth c D al cI cJ A X
  refine gx_eq (pc' := 0) (ls' := [(0, .ref (al (40))), (1, .int (a1))]) (st' := []) (g' := g) ⟨rfl, rfl, rfl, rfl⟩ ?_
  unfold m_X10_greedy at h
  refine gx_iload_n X 1 rfl dX10_greedy_0 ?_
  refine gx_iconst X (v := (-1 : Int32)) dX10_greedy_1 (by decide) ?_
  refine gx_icmp_eq X 15 dX10_greedy_2 (by decide) (fun q1 => ?_) (fun q1 => ?_)
  · replace h := (if_pos q1).symm.trans h
    exact gx_sub [0, 1] rfl (t_X10_greedy_15 X hd a1 g h)
  · replace h := (if_neg q1).symm.trans h
    refine gx_aload_n X 0 rfl dX10_greedy_5 ?_
    refine gx_iload_n X 1 rfl dX10_greedy_6 ?_
    obtain ⟨ra2, ga3, ca4, h⟩ := bdd_eq h
    refine gx_callVi X (40) (c_X10_isCell ca4) lc_X10_isCell li_X10_isCell lm_X10_124 (by decide) (cl_40 _ _) rfl rfl rfl (Nat.le_trans (by decide) hd) rfl (Nat.le_of_ble_eq_true rfl) dX10_greedy_7 ?_
    refine gx_if_ne X 15 dX10_greedy_10 (by decide) (fun q5 => ?_) (fun q5 => ?_)
    · replace h := (if_neg q5).symm.trans h
      exact gx_sub [0, 1] rfl (t_X10_greedy_15 X hd a1 ga3 h)
    · replace h := (if_pos q5).symm.trans h
      refine gx_iconst X (v := (-1 : Int32)) dX10_greedy_13 (by decide) ?_
      obtain ⟨rfl, rfl⟩ := ret_eq h
      exact gx_iret X rfl dX10_greedy_14
theorem dX10_hear_0 : decode cX10_hear 0 = .ok (.iload_n 1, 1) := by decide +kernel
theorem dX10_hear_1 : decode cX10_hear 1 = .ok (.i2l, 1) := by decide +kernel
theorem dX10_hear_2 : decode cX10_hear 2 = .ok (.ldc2_w 264, 3) := by decide +kernel
theorem dX10_hear_5 : decode cX10_hear 5 = .ok (.ldc2_w 103, 3) := by decide +kernel
theorem dX10_hear_8 : decode cX10_hear 8 = .ok (.invokestatic 92, 3) := by decide +kernel
theorem dX10_hear_11 : decode cX10_hear 11 = .ok (.ifCond .ne 5, 3) := by decide +kernel
theorem dX10_hear_14 : decode cX10_hear 14 = .ok (.iconst (-1), 1) := by decide +kernel
theorem dX10_hear_15 : decode cX10_hear 15 = .ok (.ireturn, 1) := by decide +kernel
theorem dX10_hear_16 : decode cX10_hear 16 = .ok (.aload_n 0, 1) := by decide +kernel
theorem dX10_hear_17 : decode cX10_hear 17 = .ok (.getfield 266, 3) := by decide +kernel
theorem dX10_hear_20 : decode cX10_hear 20 = .ok (.aload_n 0, 1) := by decide +kernel
theorem dX10_hear_21 : decode cX10_hear 21 = .ok (.getfield 89, 3) := by decide +kernel
theorem dX10_hear_24 : decode cX10_hear 24 = .ok (.if_icmp .ne 6, 3) := by decide +kernel
theorem dX10_hear_27 : decode cX10_hear 27 = .ok (.bipush (-3), 2) := by decide +kernel
theorem dX10_hear_29 : decode cX10_hear 29 = .ok (.ireturn, 1) := by decide +kernel
theorem dX10_hear_30 : decode cX10_hear 30 = .ok (.aload_n 0, 1) := by decide +kernel
theorem dX10_hear_31 : decode cX10_hear 31 = .ok (.getfield 49, 3) := by decide +kernel
theorem dX10_hear_34 : decode cX10_hear 34 = .ok (.aload_n 0, 1) := by decide +kernel
theorem dX10_hear_35 : decode cX10_hear 35 = .ok (.getfield 266, 3) := by decide +kernel
theorem dX10_hear_38 : decode cX10_hear 38 = .ok (.iload_n 1, 1) := by decide +kernel
theorem dX10_hear_39 : decode cX10_hear 39 = .ok (.iastore, 1) := by decide +kernel
theorem dX10_hear_40 : decode cX10_hear 40 = .ok (.aload_n 0, 1) := by decide +kernel
theorem dX10_hear_41 : decode cX10_hear 41 = .ok (.dup, 1) := by decide +kernel
theorem dX10_hear_42 : decode cX10_hear 42 = .ok (.getfield 266, 3) := by decide +kernel
theorem dX10_hear_45 : decode cX10_hear 45 = .ok (.iconst 1, 1) := by decide +kernel
theorem dX10_hear_46 : decode cX10_hear 46 = .ok (.iadd, 1) := by decide +kernel
theorem dX10_hear_47 : decode cX10_hear 47 = .ok (.putfield 266, 3) := by decide +kernel
theorem dX10_hear_50 : decode cX10_hear 50 = .ok (.aload_n 0, 1) := by decide +kernel
theorem dX10_hear_51 : decode cX10_hear 51 = .ok (.getfield 266, 3) := by decide +kernel
theorem dX10_hear_54 : decode cX10_hear 54 = .ok (.ireturn, 1) := by decide +kernel
def m_X10_hear (a1 : Int32) (g : Mm) : Option (Int32 × Mm) := bdd (m_X10_in (a1.toInt64) (-1 : Int64) (15 : Int64) g) (fun ra1 ga2 => (if ra1 = (0 : Int32) then some ((-1 : Int32), ga2) else (if (rdI ga2 40 33) = (rdI ga2 40 4) then some ((-3 : Int32), ga2) else gdd (ixo (rdI ga2 40 33) 6) (some ((rdI (wrI (wrI ga2 51 (rdI ga2 40 33).toNatClampNeg a1) 40 33 ((rdI (wrI ga2 51 (rdI ga2 40 33).toNatClampNeg a1) 40 33) + (1 : Int32))) 40 33), (wrI (wrI ga2 51 (rdI ga2 40 33).toNatClampNeg a1) 40 33 ((rdI (wrI ga2 51 (rdI ga2 40 33).toNatClampNeg a1) 40 33) + (1 : Int32))))))))
set_option maxHeartbeats 2000000 in
theorem c_X10_hear {r2 : Int32} {g g2 : Mm} {a1 : Int32} (h : m_X10_hear a1 g = some (r2, g2)) : gx_M 2 yX10_hear cX10_hear 2 (some .int) (fun al => [.ref (al (40)), .int (a1)]) g (some (.int r2)) g2 := by
  have hd : 2 ≤ 2 := Nat.le_refl _
  refine gx_M.of (by decide +kernel) (fun _ => Nat.le_of_ble_eq_true rfl) ?_
  intro p l e R s m args below meth c D al cI cJ A X
  refine gx_eq (pc' := 0) (ls' := [(0, .ref (al (40))), (1, .int (a1))]) (st' := []) (g' := g) ⟨rfl, rfl, rfl, rfl⟩ ?_
  unfold m_X10_hear at h
  refine gx_iload_n X 1 rfl dX10_hear_0 ?_
  refine gx_i2l X dX10_hear_1 ?_
  refine gx_ldc2 X (v := (-1 : Int64)) lk_X10_264 dX10_hear_2 ?_
  refine gx_ldc2 X (v := (15 : Int64)) lk_X10_103 dX10_hear_5 ?_
  obtain ⟨ra1, ga2, ca3, h⟩ := bdd_eq h
  refine gx_callSi X (c_X10_in ca3) lc_X10_in li_X10_in lm_X10_92 rfl rfl (Nat.le_trans (by decide) hd) rfl (Nat.le_of_ble_eq_true rfl) dX10_hear_8 ?_
  refine gx_if_ne X 16 dX10_hear_11 (by decide) (fun q4 => ?_) (fun q4 => ?_)
  · replace h := (if_neg q4).symm.trans h
    refine gx_aload_n X 0 rfl dX10_hear_16 ?_
    refine gx_getf X (40) lf_X10_266 (by decide) (cl_40 _ _) (v := .int ((rdI ga2 40 33))) rfl dX10_hear_17 ?_
    refine gx_aload_n X 0 rfl dX10_hear_20 ?_
    refine gx_getf X (40) lf_X10_89 (by decide) (cl_40 _ _) (v := .int ((rdI ga2 40 4))) rfl dX10_hear_21 ?_
    refine gx_icmp_ne X 30 dX10_hear_24 (by decide) (fun q5 => ?_) (fun q5 => ?_)
    · replace h := (if_neg q5).symm.trans h
      refine gx_aload_n X 0 rfl dX10_hear_30 ?_
      refine gx_getf X (40) lf_X10_49 (by decide) (cl_40 _ _) (v := .ref (al (51))) rfl dX10_hear_31 ?_
      refine gx_aload_n X 0 rfl dX10_hear_34 ?_
      refine gx_getf X (40) lf_X10_266 (by decide) (cl_40 _ _) (v := .int ((rdI ga2 40 33))) rfl dX10_hear_35 ?_
      refine gx_iload_n X 1 rfl dX10_hear_38 ?_
      obtain ⟨q6, h⟩ := gdd_eq h
      refine gx_iast X (51) 6 (by decide) (fun r => cl_51 r _) q6 dX10_hear_39 ?_
      refine gx_aload_n X 0 rfl dX10_hear_40 ?_
      refine gx_dup X dX10_hear_41 rfl ?_
      refine gx_getf X (40) lf_X10_266 (by decide) (cl_40 _ _) (v := .int ((rdI (wrI ga2 51 (rdI ga2 40 33).toNatClampNeg a1) 40 33))) rfl dX10_hear_42 ?_
      refine gx_iconst X (v := (1 : Int32)) dX10_hear_45 (by decide) ?_
      refine gx_iadd X dX10_hear_46 ?_
      refine gx_putf X (40) ((rdI (wrI ga2 51 (rdI ga2 40 33).toNatClampNeg a1) 40 33) + (1 : Int32)) lf_X10_266 lp_X10_33 (by decide) (cl_40 _ _) (Nat.le_of_ble_eq_true rfl) rfl rfl rfl dX10_hear_47 ?_
      refine gx_aload_n X 0 rfl dX10_hear_50 ?_
      refine gx_getf X (40) lf_X10_266 (by decide) (cl_40 _ _) (v := .int ((rdI (wrI (wrI ga2 51 (rdI ga2 40 33).toNatClampNeg a1) 40 33 ((rdI (wrI ga2 51 (rdI ga2 40 33).toNatClampNeg a1) 40 33) + (1 : Int32))) 40 33))) rfl dX10_hear_51 ?_
      obtain ⟨rfl, rfl⟩ := ret_eq h
      exact gx_iret X rfl dX10_hear_54
    · replace h := (if_pos q5).symm.trans h
      refine gx_bipush X (v := (-3 : Int32)) dX10_hear_27 (by decide) ?_
      obtain ⟨rfl, rfl⟩ := ret_eq h
      exact gx_iret X rfl dX10_hear_29
  · replace h := (if_pos q4).symm.trans h
    refine gx_iconst X (v := (-1 : Int32)) dX10_hear_14 (by decide) ?_
    obtain ⟨rfl, rfl⟩ := ret_eq h
    exact gx_iret X rfl dX10_hear_15
theorem dX10_isFewTables_0 : decode cX10_isFewTables 0 = .ok (.lconst 1, 1) := by decide +kernel
theorem dX10_isFewTables_1 : decode cX10_isFewTables 1 = .ok (.lstore_n 1, 1) := by decide +kernel
theorem dX10_isFewTables_2 : decode cX10_isFewTables 2 = .ok (.iconst 0, 1) := by decide +kernel
theorem dX10_isFewTables_3 : decode cX10_isFewTables 3 = .ok (.istore_n 3, 1) := by decide +kernel
theorem dX10_isFewTables_4 : decode cX10_isFewTables 4 = .ok (.iload_n 3, 1) := by decide +kernel
theorem dX10_isFewTables_5 : decode cX10_isFewTables 5 = .ok (.aload_n 0, 1) := by decide +kernel
theorem dX10_isFewTables_6 : decode cX10_isFewTables 6 = .ok (.getfield 21, 3) := by decide +kernel
theorem dX10_isFewTables_9 : decode cX10_isFewTables 9 = .ok (.if_icmp .ge 48, 3) := by decide +kernel
theorem dX10_isFewTables_12 : decode cX10_isFewTables 12 = .ok (.iconst 0, 1) := by decide +kernel
theorem dX10_isFewTables_13 : decode cX10_isFewTables 13 = .ok (.istore 4, 2) := by decide +kernel
theorem dX10_isFewTables_15 : decode cX10_isFewTables 15 = .ok (.iload 4, 2) := by decide +kernel
theorem dX10_isFewTables_17 : decode cX10_isFewTables 17 = .ok (.aload_n 0, 1) := by decide +kernel
theorem dX10_isFewTables_18 : decode cX10_isFewTables 18 = .ok (.getfield 89, 3) := by decide +kernel
theorem dX10_isFewTables_21 : decode cX10_isFewTables 21 = .ok (.if_icmp .ge 30, 3) := by decide +kernel
theorem dX10_isFewTables_24 : decode cX10_isFewTables 24 = .ok (.lload_n 1, 1) := by decide +kernel
theorem dX10_isFewTables_25 : decode cX10_isFewTables 25 = .ok (.ldc2_w 295, 3) := by decide +kernel
theorem dX10_isFewTables_28 : decode cX10_isFewTables 28 = .ok (.lcmp, 1) := by decide +kernel
theorem dX10_isFewTables_29 : decode cX10_isFewTables 29 = .ok (.ifCond .gt 22, 3) := by decide +kernel
theorem dX10_isFewTables_32 : decode cX10_isFewTables 32 = .ok (.lload_n 1, 1) := by decide +kernel
theorem dX10_isFewTables_33 : decode cX10_isFewTables 33 = .ok (.aload_n 0, 1) := by decide +kernel
theorem dX10_isFewTables_34 : decode cX10_isFewTables 34 = .ok (.getfield 9, 3) := by decide +kernel
theorem dX10_isFewTables_37 : decode cX10_isFewTables 37 = .ok (.iload 4, 2) := by decide +kernel
theorem dX10_isFewTables_39 : decode cX10_isFewTables 39 = .ok (.iaload, 1) := by decide +kernel
theorem dX10_isFewTables_40 : decode cX10_isFewTables 40 = .ok (.iconst 1, 1) := by decide +kernel
theorem dX10_isFewTables_41 : decode cX10_isFewTables 41 = .ok (.iadd, 1) := by decide +kernel
theorem dX10_isFewTables_42 : decode cX10_isFewTables 42 = .ok (.i2l, 1) := by decide +kernel
theorem dX10_isFewTables_43 : decode cX10_isFewTables 43 = .ok (.lmul, 1) := by decide +kernel
theorem dX10_isFewTables_44 : decode cX10_isFewTables 44 = .ok (.lstore_n 1, 1) := by decide +kernel
theorem dX10_isFewTables_45 : decode cX10_isFewTables 45 = .ok (.iinc 4 1, 3) := by decide +kernel
theorem dX10_isFewTables_48 : decode cX10_isFewTables 48 = .ok (.goto (-33), 3) := by decide +kernel
theorem dX10_isFewTables_51 : decode cX10_isFewTables 51 = .ok (.iinc 3 1, 3) := by decide +kernel
theorem dX10_isFewTables_54 : decode cX10_isFewTables 54 = .ok (.goto (-50), 3) := by decide +kernel
theorem dX10_isFewTables_57 : decode cX10_isFewTables 57 = .ok (.lload_n 1, 1) := by decide +kernel
theorem dX10_isFewTables_58 : decode cX10_isFewTables 58 = .ok (.ldc2_w 295, 3) := by decide +kernel
theorem dX10_isFewTables_61 : decode cX10_isFewTables 61 = .ok (.lcmp, 1) := by decide +kernel
theorem dX10_isFewTables_62 : decode cX10_isFewTables 62 = .ok (.ifCond .gt 7, 3) := by decide +kernel
theorem dX10_isFewTables_65 : decode cX10_isFewTables 65 = .ok (.iconst 1, 1) := by decide +kernel
theorem dX10_isFewTables_66 : decode cX10_isFewTables 66 = .ok (.goto 4, 3) := by decide +kernel
theorem dX10_isFewTables_69 : decode cX10_isFewTables 69 = .ok (.iconst 0, 1) := by decide +kernel
theorem dX10_isFewTables_70 : decode cX10_isFewTables 70 = .ok (.ireturn, 1) := by decide +kernel
def m_X10_isFewTables_15 (K4 : Int64 → Int32 → Mm → Option (Int32 × Mm)) : Nat → Int64 → Int32 → Int32 → Mm → Option (Int32 × Mm)
  | 0, _, _, _, _ => none
  | n + 1, x1, x3, x4, g => (if (rdI g 40 4) ≤ x4 then K4 x1 (x3 + (1 : Int32)) g else (if (0 : Int32) < (lg_cmp x1 (65536 : Int64)) then K4 x1 (x3 + (1 : Int32)) g else gdd (ixo x4 6) (lti (x1 * ((rdI g 41 x4.toNatClampNeg) + (1 : Int32)).toInt64) (fun v4 => m_X10_isFewTables_15 K4 n v4 x3 (x4 + (1 : Int32)) g))))
set_option maxHeartbeats 2000000 in
theorem t_X10_isFewTables_15 {r2 : Int32} {g2 : Mm} (X : gx_X p R s m args meth c D al cI cJ A RX10 cX10_isFewTables 5 (some .boolean) d 0 0) (hd : 1 ≤ d) {K4 : Int64 → Int32 → Mm → Option (Int32 × Mm)} (hK4 : ∀ (u0 : Int64) (u1 : Int32) (g : Mm), K4 u0 u1 g = some (r2, g2) → gx_G p l e R s m args below meth c (gx_Q below args s D al cI cJ A (some (.int r2)) g2) D al cI cJ A 5 0 0 4 [(0, .ref (al (40))), (1, .long (u0)), (3, .int (u1))] [] g) : ∀ (n : Nat) (x1 : Int64) (x3 : Int32) (x4 : Int32) (g : Mm), m_X10_isFewTables_15 K4 n x1 x3 x4 g = some (r2, g2) → gx_G p l e R s m args below meth c (gx_Q below args s D al cI cJ A (some (.int r2)) g2) D al cI cJ A 5 0 0 15 [(0, .ref (al (40))), (1, .long (x1)), (3, .int (x3)), (4, .int (x4))] [] g := by
  intro n
  induction n with
  | zero => intro x1 x3 x4 g h; cases h
  | succ n ih =>
    intro x1 x3 x4 g h
    rw [m_X10_isFewTables_15] at h
    refine gx_iload X 3 rfl dX10_isFewTables_15 ?_
    refine gx_aload_n X 0 rfl dX10_isFewTables_17 ?_
    refine gx_getf X (40) lf_X10_89 (by decide) (cl_40 _ _) (v := .int ((rdI g 40 4))) rfl dX10_isFewTables_18 ?_
    refine gx_icmp_ge X 51 dX10_isFewTables_21 (by decide) (fun q1 => ?_) (fun q1 => ?_)
    · replace h := (if_pos q1).symm.trans h
      refine gx_iinc X [(3, .int ((x3 + (1 : Int32)))), (0, .ref (al (40))), (1, .long (x1)), (4, .int (x4))] 2 dX10_isFewTables_51 rfl rfl (by decide) rfl ?_
      refine gx_goto X 4 dX10_isFewTables_54 (by decide) ?_
      exact gx_sub [1, 2, 0] rfl (hK4 x1 (x3 + (1 : Int32)) g h)
    · replace h := (if_neg q1).symm.trans h
      refine gx_lload_n X 1 rfl dX10_isFewTables_24 ?_
      refine gx_ldc2 X (v := (65536 : Int64)) lk_X10_295 dX10_isFewTables_25 ?_
      refine gx_lcmp X dX10_isFewTables_28 ?_
      refine gx_if_gt X 51 dX10_isFewTables_29 (by decide) (fun q2 => ?_) (fun q2 => ?_)
      · replace h := (if_pos q2).symm.trans h
        refine gx_iinc X [(3, .int ((x3 + (1 : Int32)))), (0, .ref (al (40))), (1, .long (x1)), (4, .int (x4))] 2 dX10_isFewTables_51 rfl rfl (by decide) rfl ?_
        refine gx_goto X 4 dX10_isFewTables_54 (by decide) ?_
        exact gx_sub [1, 2, 0] rfl (hK4 x1 (x3 + (1 : Int32)) g h)
      · replace h := (if_neg q2).symm.trans h
        refine gx_lload_n X 1 rfl dX10_isFewTables_32 ?_
        refine gx_aload_n X 0 rfl dX10_isFewTables_33 ?_
        refine gx_getf X (40) lf_X10_9 (by decide) (cl_40 _ _) (v := .ref (al (41))) rfl dX10_isFewTables_34 ?_
        refine gx_iload X 3 rfl dX10_isFewTables_37 ?_
        obtain ⟨q3, h⟩ := gdd_eq h
        refine gx_iald X (41) 6 (by decide) (cl_41 _ _) q3 dX10_isFewTables_39 ?_
        refine gx_iconst X (v := (1 : Int32)) dX10_isFewTables_40 (by decide) ?_
        refine gx_iadd X dX10_isFewTables_41 ?_
        refine gx_i2l X dX10_isFewTables_42 ?_
        refine gx_lmul X dX10_isFewTables_43 ?_
        obtain ⟨v4, ev4, h⟩ := lti_eq h
        refine gx_topl ev4 ?_
        refine gx_lstore_n X [(1, .long (v4)), (0, .ref (al (40))), (3, .int (x3)), (4, .int (x4))] dX10_isFewTables_44 (by decide) rfl ?_
        refine gx_iinc X [(4, .int ((x4 + (1 : Int32)))), (1, .long (v4)), (0, .ref (al (40))), (3, .int (x3))] 3 dX10_isFewTables_45 rfl rfl (by decide) rfl ?_
        refine gx_goto X 15 dX10_isFewTables_48 (by decide) ?_
        exact gx_sub [2, 1, 3, 0] rfl (ih v4 x3 (x4 + (1 : Int32)) g h)
def m_X10_isFewTables_4 : Nat → Int64 → Int32 → Mm → Option (Int32 × Mm)
  | 0, _, _, _ => none
  | n + 1, x1, x3, g => (if (rdI g 40 5) ≤ x3 then (if (0 : Int32) < (lg_cmp x1 (65536 : Int64)) then some ((0 : Int32), g) else some ((1 : Int32), g)) else m_X10_isFewTables_15 (m_X10_isFewTables_4 n) fuL x1 x3 (0 : Int32) g)
set_option maxHeartbeats 2000000 in
theorem t_X10_isFewTables_4 {r2 : Int32} {g2 : Mm} (X : gx_X p R s m args meth c D al cI cJ A RX10 cX10_isFewTables 5 (some .boolean) d 0 0) (hd : 1 ≤ d) : ∀ (n : Nat) (x1 : Int64) (x3 : Int32) (g : Mm), m_X10_isFewTables_4 n x1 x3 g = some (r2, g2) → gx_G p l e R s m args below meth c (gx_Q below args s D al cI cJ A (some (.int r2)) g2) D al cI cJ A 5 0 0 4 [(0, .ref (al (40))), (1, .long (x1)), (3, .int (x3))] [] g := by
  intro n
  induction n with
  | zero => intro x1 x3 g h; cases h
  | succ n ih =>
    intro x1 x3 g h
    rw [m_X10_isFewTables_4] at h
    refine gx_iload_n X 2 rfl dX10_isFewTables_4 ?_
    refine gx_aload_n X 0 rfl dX10_isFewTables_5 ?_
    refine gx_getf X (40) lf_X10_21 (by decide) (cl_40 _ _) (v := .int ((rdI g 40 5))) rfl dX10_isFewTables_6 ?_
    refine gx_icmp_ge X 57 dX10_isFewTables_9 (by decide) (fun q1 => ?_) (fun q1 => ?_)
    · replace h := (if_pos q1).symm.trans h
      refine gx_lload_n X 1 rfl dX10_isFewTables_57 ?_
      refine gx_ldc2 X (v := (65536 : Int64)) lk_X10_295 dX10_isFewTables_58 ?_
      refine gx_lcmp X dX10_isFewTables_61 ?_
      refine gx_if_gt X 69 dX10_isFewTables_62 (by decide) (fun q2 => ?_) (fun q2 => ?_)
      · replace h := (if_pos q2).symm.trans h
        refine gx_iconst X (v := (0 : Int32)) dX10_isFewTables_69 (by decide) ?_
        obtain ⟨rfl, rfl⟩ := ret_eq h
        exact gx_iret X rfl dX10_isFewTables_70
      · replace h := (if_neg q2).symm.trans h
        refine gx_iconst X (v := (1 : Int32)) dX10_isFewTables_65 (by decide) ?_
        refine gx_goto X 70 dX10_isFewTables_66 (by decide) ?_
        obtain ⟨rfl, rfl⟩ := ret_eq h
        exact gx_iret X rfl dX10_isFewTables_70
    · replace h := (if_neg q1).symm.trans h
      refine gx_iconst X (v := (0 : Int32)) dX10_isFewTables_12 (by decide) ?_
      refine gx_istore X [(4, .int ((0 : Int32))), (0, .ref (al (40))), (1, .long (x1)), (3, .int (x3))] dX10_isFewTables_13 (by decide) rfl ?_
      exact gx_sub [1, 2, 3, 0] rfl (t_X10_isFewTables_15 X hd (fun u0 u1 g h => ih u0 u1 g h) fuL x1 x3 (0 : Int32) g h)
def m_X10_isFewTables (g : Mm) : Option (Int32 × Mm) := m_X10_isFewTables_4 fuL (1 : Int64) (0 : Int32) g
set_option maxHeartbeats 2000000 in
theorem c_X10_isFewTables {r2 : Int32} {g g2 : Mm} (h : m_X10_isFewTables g = some (r2, g2)) : gx_M 1 yX10_isFewTables cX10_isFewTables 5 (some .boolean) (fun al => [.ref (al (40))]) g (some (.int r2)) g2 := by
  have hd : 1 ≤ 1 := Nat.le_refl _
  refine gx_M.of (by decide +kernel) (fun _ => Nat.le_of_ble_eq_true rfl) ?_
  intro p l e R s m args below meth c D al cI cJ A X
  refine gx_eq (pc' := 0) (ls' := [(0, .ref (al (40)))]) (st' := []) (g' := g) ⟨rfl, rfl, rfl, rfl⟩ ?_
  unfold m_X10_isFewTables at h
  refine gx_lconst X (v := (1 : Int64)) dX10_isFewTables_0 (by decide) ?_
  refine gx_lstore_n X [(1, .long ((1 : Int64))), (0, .ref (al (40)))] dX10_isFewTables_1 (by decide) rfl ?_
  refine gx_iconst X (v := (0 : Int32)) dX10_isFewTables_2 (by decide) ?_
  refine gx_istore_n X [(3, .int ((0 : Int32))), (1, .long ((1 : Int64))), (0, .ref (al (40)))] dX10_isFewTables_3 (by decide) rfl ?_
  exact gx_sub [2, 1, 0] rfl (t_X10_isFewTables_4 X hd fuL (1 : Int64) (0 : Int32) g h)
theorem dX10_isPair_0 : decode cX10_isPair 0 = .ok (.iload_n 1, 1) := by decide +kernel
theorem dX10_isPair_1 : decode cX10_isPair 1 = .ok (.ifCond .lt 40, 3) := by decide +kernel
theorem dX10_isPair_4 : decode cX10_isPair 4 = .ok (.aload_n 0, 1) := by decide +kernel
theorem dX10_isPair_5 : decode cX10_isPair 5 = .ok (.iload_n 1, 1) := by decide +kernel
theorem dX10_isPair_6 : decode cX10_isPair 6 = .ok (.bipush 100, 2) := by decide +kernel
theorem dX10_isPair_8 : decode cX10_isPair 8 = .ok (.idiv, 1) := by decide +kernel
theorem dX10_isPair_9 : decode cX10_isPair 9 = .ok (.invokevirtual 96, 3) := by decide +kernel
theorem dX10_isPair_12 : decode cX10_isPair 12 = .ok (.ifCond .eq 29, 3) := by decide +kernel
theorem dX10_isPair_15 : decode cX10_isPair 15 = .ok (.aload_n 0, 1) := by decide +kernel
theorem dX10_isPair_16 : decode cX10_isPair 16 = .ok (.iload_n 1, 1) := by decide +kernel
theorem dX10_isPair_17 : decode cX10_isPair 17 = .ok (.bipush 100, 2) := by decide +kernel
theorem dX10_isPair_19 : decode cX10_isPair 19 = .ok (.irem, 1) := by decide +kernel
theorem dX10_isPair_20 : decode cX10_isPair 20 = .ok (.invokevirtual 96, 3) := by decide +kernel
theorem dX10_isPair_23 : decode cX10_isPair 23 = .ok (.ifCond .eq 18, 3) := by decide +kernel
theorem dX10_isPair_26 : decode cX10_isPair 26 = .ok (.iload_n 1, 1) := by decide +kernel
theorem dX10_isPair_27 : decode cX10_isPair 27 = .ok (.bipush 100, 2) := by decide +kernel
theorem dX10_isPair_29 : decode cX10_isPair 29 = .ok (.idiv, 1) := by decide +kernel
theorem dX10_isPair_30 : decode cX10_isPair 30 = .ok (.iload_n 1, 1) := by decide +kernel
theorem dX10_isPair_31 : decode cX10_isPair 31 = .ok (.bipush 100, 2) := by decide +kernel
theorem dX10_isPair_33 : decode cX10_isPair 33 = .ok (.irem, 1) := by decide +kernel
theorem dX10_isPair_34 : decode cX10_isPair 34 = .ok (.if_icmp .eq 7, 3) := by decide +kernel
theorem dX10_isPair_37 : decode cX10_isPair 37 = .ok (.iconst 1, 1) := by decide +kernel
theorem dX10_isPair_38 : decode cX10_isPair 38 = .ok (.goto 4, 3) := by decide +kernel
theorem dX10_isPair_41 : decode cX10_isPair 41 = .ok (.iconst 0, 1) := by decide +kernel
theorem dX10_isPair_42 : decode cX10_isPair 42 = .ok (.ireturn, 1) := by decide +kernel
def m_X10_isPair (a1 : Int32) (g : Mm) : Option (Int32 × Mm) := (if a1 < (0 : Int32) then some ((0 : Int32), g) else bdd (m_X10_isHour (a1 / (100 : Int32)) g) (fun ra2 ga3 => (if ra2 = (0 : Int32) then some ((0 : Int32), ga3) else bdd (m_X10_isHour (rmI a1 (100 : Int32)) ga3) (fun ra6 ga7 => (if ra6 = (0 : Int32) then some ((0 : Int32), ga7) else (if (a1 / (100 : Int32)) = (rmI a1 (100 : Int32)) then some ((0 : Int32), ga7) else some ((1 : Int32), ga7)))))))
set_option maxHeartbeats 2000000 in
theorem c_X10_isPair {r2 : Int32} {g g2 : Mm} {a1 : Int32} (h : m_X10_isPair a1 g = some (r2, g2)) : gx_M 3 yX10_isPair cX10_isPair 2 (some .boolean) (fun al => [.ref (al (40)), .int (a1)]) g (some (.int r2)) g2 := by
  have hd : 3 ≤ 3 := Nat.le_refl _
  refine gx_M.of (by decide +kernel) (fun _ => Nat.le_of_ble_eq_true rfl) ?_
  intro p l e R s m args below meth c D al cI cJ A X
  refine gx_eq (pc' := 0) (ls' := [(0, .ref (al (40))), (1, .int (a1))]) (st' := []) (g' := g) ⟨rfl, rfl, rfl, rfl⟩ ?_
  unfold m_X10_isPair at h
  refine gx_iload_n X 1 rfl dX10_isPair_0 ?_
  refine gx_if_lt X 41 dX10_isPair_1 (by decide) (fun q1 => ?_) (fun q1 => ?_)
  · replace h := (if_pos q1).symm.trans h
    refine gx_iconst X (v := (0 : Int32)) dX10_isPair_41 (by decide) ?_
    obtain ⟨rfl, rfl⟩ := ret_eq h
    exact gx_iret X rfl dX10_isPair_42
  · replace h := (if_neg q1).symm.trans h
    refine gx_aload_n X 0 rfl dX10_isPair_4 ?_
    refine gx_iload_n X 1 rfl dX10_isPair_5 ?_
    refine gx_bipush X (v := (100 : Int32)) dX10_isPair_6 (by decide) ?_
    refine gx_idiv X dX10_isPair_8 (by decide) ?_
    obtain ⟨ra2, ga3, ca4, h⟩ := bdd_eq h
    refine gx_callVi X (40) (c_X10_isHour ca4) lc_X10_isHour li_X10_isHour lm_X10_96 (by decide) (cl_40 _ _) rfl rfl rfl (Nat.le_trans (by decide) hd) rfl (Nat.le_of_ble_eq_true rfl) dX10_isPair_9 ?_
    refine gx_if_eq X 41 dX10_isPair_12 (by decide) (fun q5 => ?_) (fun q5 => ?_)
    · replace h := (if_pos q5).symm.trans h
      refine gx_iconst X (v := (0 : Int32)) dX10_isPair_41 (by decide) ?_
      obtain ⟨rfl, rfl⟩ := ret_eq h
      exact gx_iret X rfl dX10_isPair_42
    · replace h := (if_neg q5).symm.trans h
      refine gx_aload_n X 0 rfl dX10_isPair_15 ?_
      refine gx_iload_n X 1 rfl dX10_isPair_16 ?_
      refine gx_bipush X (v := (100 : Int32)) dX10_isPair_17 (by decide) ?_
      refine gx_irem X dX10_isPair_19 (by decide) ?_
      obtain ⟨ra6, ga7, ca8, h⟩ := bdd_eq h
      refine gx_callVi X (40) (c_X10_isHour ca8) lc_X10_isHour li_X10_isHour lm_X10_96 (by decide) (cl_40 _ _) rfl rfl rfl (Nat.le_trans (by decide) hd) rfl (Nat.le_of_ble_eq_true rfl) dX10_isPair_20 ?_
      refine gx_if_eq X 41 dX10_isPair_23 (by decide) (fun q9 => ?_) (fun q9 => ?_)
      · replace h := (if_pos q9).symm.trans h
        refine gx_iconst X (v := (0 : Int32)) dX10_isPair_41 (by decide) ?_
        obtain ⟨rfl, rfl⟩ := ret_eq h
        exact gx_iret X rfl dX10_isPair_42
      · replace h := (if_neg q9).symm.trans h
        refine gx_iload_n X 1 rfl dX10_isPair_26 ?_
        refine gx_bipush X (v := (100 : Int32)) dX10_isPair_27 (by decide) ?_
        refine gx_idiv X dX10_isPair_29 (by decide) ?_
        refine gx_iload_n X 1 rfl dX10_isPair_30 ?_
        refine gx_bipush X (v := (100 : Int32)) dX10_isPair_31 (by decide) ?_
        refine gx_irem X dX10_isPair_33 (by decide) ?_
        refine gx_icmp_eq X 41 dX10_isPair_34 (by decide) (fun q10 => ?_) (fun q10 => ?_)
        · replace h := (if_pos q10).symm.trans h
          refine gx_iconst X (v := (0 : Int32)) dX10_isPair_41 (by decide) ?_
          obtain ⟨rfl, rfl⟩ := ret_eq h
          exact gx_iret X rfl dX10_isPair_42
        · replace h := (if_neg q10).symm.trans h
          refine gx_iconst X (v := (1 : Int32)) dX10_isPair_37 (by decide) ?_
          refine gx_goto X 42 dX10_isPair_38 (by decide) ?_
          obtain ⟨rfl, rfl⟩ := ret_eq h
          exact gx_iret X rfl dX10_isPair_42
theorem dX10_keep_0 : decode cX10_keep 0 = .ok (.iload_n 1, 1) := by decide +kernel
theorem dX10_keep_1 : decode cX10_keep 1 = .ok (.invokestatic 367, 3) := by decide +kernel
theorem dX10_keep_4 : decode cX10_keep 4 = .ok (.ifCond .eq 24, 3) := by decide +kernel
theorem dX10_keep_7 : decode cX10_keep 7 = .ok (.iload_n 2, 1) := by decide +kernel
theorem dX10_keep_8 : decode cX10_keep 8 = .ok (.iconst (-1), 1) := by decide +kernel
theorem dX10_keep_9 : decode cX10_keep 9 = .ok (.if_icmp .eq 21, 3) := by decide +kernel
theorem dX10_keep_12 : decode cX10_keep 12 = .ok (.iload_n 2, 1) := by decide +kernel
theorem dX10_keep_13 : decode cX10_keep 13 = .ok (.i2l, 1) := by decide +kernel
theorem dX10_keep_14 : decode cX10_keep 14 = .ok (.lconst 0, 1) := by decide +kernel
theorem dX10_keep_15 : decode cX10_keep 15 = .ok (.aload_n 0, 1) := by decide +kernel
theorem dX10_keep_16 : decode cX10_keep 16 = .ok (.getfield 334, 3) := by decide +kernel
theorem dX10_keep_19 : decode cX10_keep 19 = .ok (.iconst 1, 1) := by decide +kernel
theorem dX10_keep_20 : decode cX10_keep 20 = .ok (.isub, 1) := by decide +kernel
theorem dX10_keep_21 : decode cX10_keep 21 = .ok (.i2l, 1) := by decide +kernel
theorem dX10_keep_22 : decode cX10_keep 22 = .ok (.invokestatic 92, 3) := by decide +kernel
theorem dX10_keep_25 : decode cX10_keep 25 = .ok (.ifCond .ne 5, 3) := by decide +kernel
theorem dX10_keep_28 : decode cX10_keep 28 = .ok (.iconst (-1), 1) := by decide +kernel
theorem dX10_keep_29 : decode cX10_keep 29 = .ok (.ireturn, 1) := by decide +kernel
theorem dX10_keep_30 : decode cX10_keep 30 = .ok (.aload_n 0, 1) := by decide +kernel
theorem dX10_keep_31 : decode cX10_keep 31 = .ok (.getfield 70, 3) := by decide +kernel
theorem dX10_keep_34 : decode cX10_keep 34 = .ok (.iload_n 1, 1) := by decide +kernel
theorem dX10_keep_35 : decode cX10_keep 35 = .ok (.iload_n 2, 1) := by decide +kernel
theorem dX10_keep_36 : decode cX10_keep 36 = .ok (.iconst (-1), 1) := by decide +kernel
theorem dX10_keep_37 : decode cX10_keep 37 = .ok (.if_icmp .ne 7, 3) := by decide +kernel
theorem dX10_keep_40 : decode cX10_keep 40 = .ok (.iconst 0, 1) := by decide +kernel
theorem dX10_keep_41 : decode cX10_keep 41 = .ok (.goto 4, 3) := by decide +kernel
theorem dX10_keep_44 : decode cX10_keep 44 = .ok (.iconst 1, 1) := by decide +kernel
theorem dX10_keep_45 : decode cX10_keep 45 = .ok (.iastore, 1) := by decide +kernel
theorem dX10_keep_46 : decode cX10_keep 46 = .ok (.aload_n 0, 1) := by decide +kernel
theorem dX10_keep_47 : decode cX10_keep 47 = .ok (.getfield 73, 3) := by decide +kernel
theorem dX10_keep_50 : decode cX10_keep 50 = .ok (.iload_n 1, 1) := by decide +kernel
theorem dX10_keep_51 : decode cX10_keep 51 = .ok (.iload_n 2, 1) := by decide +kernel
theorem dX10_keep_52 : decode cX10_keep 52 = .ok (.iastore, 1) := by decide +kernel
theorem dX10_keep_53 : decode cX10_keep 53 = .ok (.iconst 1, 1) := by decide +kernel
theorem dX10_keep_54 : decode cX10_keep 54 = .ok (.ireturn, 1) := by decide +kernel
def m_X10_keep_30 (x1 : Int32) (x2 : Int32) (g : Mm) : Option (Int32 × Mm) := (if x2 = (-1 : Int32) then gdd (ixo x1 6) (gdd (ixo x1 6) (some ((1 : Int32), (wrI (wrI g 58 x1.toNatClampNeg (0 : Int32)) 59 x1.toNatClampNeg x2)))) else gdd (ixo x1 6) (gdd (ixo x1 6) (some ((1 : Int32), (wrI (wrI g 58 x1.toNatClampNeg (1 : Int32)) 59 x1.toNatClampNeg x2)))))
set_option maxHeartbeats 2000000 in
theorem t_X10_keep_30 {r2 : Int32} {g2 : Mm} (X : gx_X p R s m args meth c D al cI cJ A RX10 cX10_keep 3 (some .int) d 0 0) (hd : 3 ≤ d) : ∀ (x1 : Int32) (x2 : Int32) (g : Mm), m_X10_keep_30 x1 x2 g = some (r2, g2) → gx_G p l e R s m args below meth c (gx_Q below args s D al cI cJ A (some (.int r2)) g2) D al cI cJ A 3 0 0 30 [(0, .ref (al (40))), (1, .int (x1)), (2, .int (x2))] [] g := by
  intro x1 x2 g h
  unfold m_X10_keep_30 at h
  refine gx_aload_n X 0 rfl dX10_keep_30 ?_
  refine gx_getf X (40) lf_X10_70 (by decide) (cl_40 _ _) (v := .ref (al (58))) rfl dX10_keep_31 ?_
  refine gx_iload_n X 1 rfl dX10_keep_34 ?_
  refine gx_iload_n X 2 rfl dX10_keep_35 ?_
  refine gx_iconst X (v := (-1 : Int32)) dX10_keep_36 (by decide) ?_
  refine gx_icmp_ne X 44 dX10_keep_37 (by decide) (fun q1 => ?_) (fun q1 => ?_)
  · replace h := (if_neg q1).symm.trans h
    refine gx_iconst X (v := (1 : Int32)) dX10_keep_44 (by decide) ?_
    obtain ⟨q2, h⟩ := gdd_eq h
    refine gx_iast X (58) 6 (by decide) (fun r => cl_58 r _) q2 dX10_keep_45 ?_
    refine gx_aload_n X 0 rfl dX10_keep_46 ?_
    refine gx_getf X (40) lf_X10_73 (by decide) (cl_40 _ _) (v := .ref (al (59))) rfl dX10_keep_47 ?_
    refine gx_iload_n X 1 rfl dX10_keep_50 ?_
    refine gx_iload_n X 2 rfl dX10_keep_51 ?_
    obtain ⟨q3, h⟩ := gdd_eq h
    refine gx_iast X (59) 6 (by decide) (fun r => cl_59 r _) q3 dX10_keep_52 ?_
    refine gx_iconst X (v := (1 : Int32)) dX10_keep_53 (by decide) ?_
    obtain ⟨rfl, rfl⟩ := ret_eq h
    exact gx_iret X rfl dX10_keep_54
  · replace h := (if_pos q1).symm.trans h
    refine gx_iconst X (v := (0 : Int32)) dX10_keep_40 (by decide) ?_
    refine gx_goto X 45 dX10_keep_41 (by decide) ?_
    obtain ⟨q4, h⟩ := gdd_eq h
    refine gx_iast X (58) 6 (by decide) (fun r => cl_58 r _) q4 dX10_keep_45 ?_
    refine gx_aload_n X 0 rfl dX10_keep_46 ?_
    refine gx_getf X (40) lf_X10_73 (by decide) (cl_40 _ _) (v := .ref (al (59))) rfl dX10_keep_47 ?_
    refine gx_iload_n X 1 rfl dX10_keep_50 ?_
    refine gx_iload_n X 2 rfl dX10_keep_51 ?_
    obtain ⟨q5, h⟩ := gdd_eq h
    refine gx_iast X (59) 6 (by decide) (fun r => cl_59 r _) q5 dX10_keep_52 ?_
    refine gx_iconst X (v := (1 : Int32)) dX10_keep_53 (by decide) ?_
    obtain ⟨rfl, rfl⟩ := ret_eq h
    exact gx_iret X rfl dX10_keep_54
def m_X10_keep (a1 : Int32) (a2 : Int32) (g : Mm) : Option (Int32 × Mm) := bdd (m_X10_isShelf a1 g) (fun ra1 ga2 => (if ra1 = (0 : Int32) then some ((-1 : Int32), ga2) else (if a2 = (-1 : Int32) then m_X10_keep_30 a1 a2 ga2 else bdd (m_X10_in (a2.toInt64) (0 : Int64) (((rdI ga2 40 40) - (1 : Int32)).toInt64) ga2) (fun ra6 ga7 => (if ra6 = (0 : Int32) then some ((-1 : Int32), ga7) else m_X10_keep_30 a1 a2 ga7)))))
set_option maxHeartbeats 2000000 in
theorem c_X10_keep {r2 : Int32} {g g2 : Mm} {a1 : Int32} {a2 : Int32} (h : m_X10_keep a1 a2 g = some (r2, g2)) : gx_M 3 yX10_keep cX10_keep 3 (some .int) (fun al => [.ref (al (40)), .int (a1), .int (a2)]) g (some (.int r2)) g2 := by
  have hd : 3 ≤ 3 := Nat.le_refl _
  refine gx_M.of (by decide +kernel) (fun _ => Nat.le_of_ble_eq_true rfl) ?_
  intro p l e R s m args below meth c D al cI cJ A X
  refine gx_eq (pc' := 0) (ls' := [(0, .ref (al (40))), (1, .int (a1)), (2, .int (a2))]) (st' := []) (g' := g) ⟨rfl, rfl, rfl, rfl⟩ ?_
  unfold m_X10_keep at h
  refine gx_iload_n X 1 rfl dX10_keep_0 ?_
  obtain ⟨ra1, ga2, ca3, h⟩ := bdd_eq h
  refine gx_callSi X (c_X10_isShelf ca3) lc_X10_isShelf li_X10_isShelf lm_X10_367 rfl rfl (Nat.le_trans (by decide) hd) rfl (Nat.le_of_ble_eq_true rfl) dX10_keep_1 ?_
  refine gx_if_eq X 28 dX10_keep_4 (by decide) (fun q4 => ?_) (fun q4 => ?_)
  · replace h := (if_pos q4).symm.trans h
    refine gx_iconst X (v := (-1 : Int32)) dX10_keep_28 (by decide) ?_
    obtain ⟨rfl, rfl⟩ := ret_eq h
    exact gx_iret X rfl dX10_keep_29
  · replace h := (if_neg q4).symm.trans h
    refine gx_iload_n X 2 rfl dX10_keep_7 ?_
    refine gx_iconst X (v := (-1 : Int32)) dX10_keep_8 (by decide) ?_
    refine gx_icmp_eq X 30 dX10_keep_9 (by decide) (fun q5 => ?_) (fun q5 => ?_)
    · replace h := (if_pos q5).symm.trans h
      exact gx_sub [0, 1, 2] rfl (t_X10_keep_30 X hd a1 a2 ga2 h)
    · replace h := (if_neg q5).symm.trans h
      refine gx_iload_n X 2 rfl dX10_keep_12 ?_
      refine gx_i2l X dX10_keep_13 ?_
      refine gx_lconst X (v := (0 : Int64)) dX10_keep_14 (by decide) ?_
      refine gx_aload_n X 0 rfl dX10_keep_15 ?_
      refine gx_getf X (40) lf_X10_334 (by decide) (cl_40 _ _) (v := .int ((rdI ga2 40 40))) rfl dX10_keep_16 ?_
      refine gx_iconst X (v := (1 : Int32)) dX10_keep_19 (by decide) ?_
      refine gx_isub X dX10_keep_20 ?_
      refine gx_i2l X dX10_keep_21 ?_
      obtain ⟨ra6, ga7, ca8, h⟩ := bdd_eq h
      refine gx_callSi X (c_X10_in ca8) lc_X10_in li_X10_in lm_X10_92 rfl rfl (Nat.le_trans (by decide) hd) rfl (Nat.le_of_ble_eq_true rfl) dX10_keep_22 ?_
      refine gx_if_ne X 30 dX10_keep_25 (by decide) (fun q9 => ?_) (fun q9 => ?_)
      · replace h := (if_neg q9).symm.trans h
        exact gx_sub [0, 1, 2] rfl (t_X10_keep_30 X hd a1 a2 ga7 h)
      · replace h := (if_pos q9).symm.trans h
        refine gx_iconst X (v := (-1 : Int32)) dX10_keep_28 (by decide) ?_
        obtain ⟨rfl, rfl⟩ := ret_eq h
        exact gx_iret X rfl dX10_keep_29
theorem dX10_keeps_0 : decode cX10_keeps 0 = .ok (.aload_n 0, 1) := by decide +kernel
theorem dX10_keeps_1 : decode cX10_keeps 1 = .ok (.iconst 0, 1) := by decide +kernel
theorem dX10_keeps_2 : decode cX10_keeps 2 = .ok (.putfield 114, 3) := by decide +kernel
theorem dX10_keeps_5 : decode cX10_keeps 5 = .ok (.aload_n 0, 1) := by decide +kernel
theorem dX10_keeps_6 : decode cX10_keeps 6 = .ok (.getfield 117, 3) := by decide +kernel
theorem dX10_keeps_9 : decode cX10_keeps 9 = .ok (.bipush 40, 2) := by decide +kernel
theorem dX10_keeps_11 : decode cX10_keeps 11 = .ok (.if_icmp .ne 77, 3) := by decide +kernel
theorem dX10_keeps_14 : decode cX10_keeps 14 = .ok (.iconst 1, 1) := by decide +kernel
theorem dX10_keeps_15 : decode cX10_keeps 15 = .ok (.istore 4, 2) := by decide +kernel
theorem dX10_keeps_17 : decode cX10_keeps 17 = .ok (.iload 4, 2) := by decide +kernel
theorem dX10_keeps_19 : decode cX10_keeps 19 = .ok (.bipush 40, 2) := by decide +kernel
theorem dX10_keeps_21 : decode cX10_keeps 21 = .ok (.if_icmp .ge 57, 3) := by decide +kernel
theorem dX10_keeps_24 : decode cX10_keeps 24 = .ok (.aload_n 0, 1) := by decide +kernel
theorem dX10_keeps_25 : decode cX10_keeps 25 = .ok (.getfield 34, 3) := by decide +kernel
theorem dX10_keeps_28 : decode cX10_keeps 28 = .ok (.iload 4, 2) := by decide +kernel
theorem dX10_keeps_30 : decode cX10_keeps 30 = .ok (.iconst 1, 1) := by decide +kernel
theorem dX10_keeps_31 : decode cX10_keeps 31 = .ok (.isub, 1) := by decide +kernel
theorem dX10_keeps_32 : decode cX10_keeps 32 = .ok (.aload_n 0, 1) := by decide +kernel
theorem dX10_keeps_33 : decode cX10_keeps 33 = .ok (.getfield 34, 3) := by decide +kernel
theorem dX10_keeps_36 : decode cX10_keeps 36 = .ok (.iload 4, 2) := by decide +kernel
theorem dX10_keeps_38 : decode cX10_keeps 38 = .ok (.iaload, 1) := by decide +kernel
theorem dX10_keeps_39 : decode cX10_keeps 39 = .ok (.iastore, 1) := by decide +kernel
theorem dX10_keeps_40 : decode cX10_keeps 40 = .ok (.aload_n 0, 1) := by decide +kernel
theorem dX10_keeps_41 : decode cX10_keeps 41 = .ok (.getfield 37, 3) := by decide +kernel
theorem dX10_keeps_44 : decode cX10_keeps 44 = .ok (.iload 4, 2) := by decide +kernel
theorem dX10_keeps_46 : decode cX10_keeps 46 = .ok (.iconst 1, 1) := by decide +kernel
theorem dX10_keeps_47 : decode cX10_keeps 47 = .ok (.isub, 1) := by decide +kernel
theorem dX10_keeps_48 : decode cX10_keeps 48 = .ok (.aload_n 0, 1) := by decide +kernel
theorem dX10_keeps_49 : decode cX10_keeps 49 = .ok (.getfield 37, 3) := by decide +kernel
theorem dX10_keeps_52 : decode cX10_keeps 52 = .ok (.iload 4, 2) := by decide +kernel
theorem dX10_keeps_54 : decode cX10_keeps 54 = .ok (.iaload, 1) := by decide +kernel
theorem dX10_keeps_55 : decode cX10_keeps 55 = .ok (.iastore, 1) := by decide +kernel
theorem dX10_keeps_56 : decode cX10_keeps 56 = .ok (.aload_n 0, 1) := by decide +kernel
theorem dX10_keeps_57 : decode cX10_keeps 57 = .ok (.getfield 40, 3) := by decide +kernel
theorem dX10_keeps_60 : decode cX10_keeps 60 = .ok (.iload 4, 2) := by decide +kernel
theorem dX10_keeps_62 : decode cX10_keeps 62 = .ok (.iconst 1, 1) := by decide +kernel
theorem dX10_keeps_63 : decode cX10_keeps 63 = .ok (.isub, 1) := by decide +kernel
theorem dX10_keeps_64 : decode cX10_keeps 64 = .ok (.aload_n 0, 1) := by decide +kernel
theorem dX10_keeps_65 : decode cX10_keeps 65 = .ok (.getfield 40, 3) := by decide +kernel
theorem dX10_keeps_68 : decode cX10_keeps 68 = .ok (.iload 4, 2) := by decide +kernel
theorem dX10_keeps_70 : decode cX10_keeps 70 = .ok (.iaload, 1) := by decide +kernel
theorem dX10_keeps_71 : decode cX10_keeps 71 = .ok (.iastore, 1) := by decide +kernel
theorem dX10_keeps_72 : decode cX10_keeps 72 = .ok (.iinc 4 1, 3) := by decide +kernel
theorem dX10_keeps_75 : decode cX10_keeps 75 = .ok (.goto (-58), 3) := by decide +kernel
theorem dX10_keeps_78 : decode cX10_keeps 78 = .ok (.aload_n 0, 1) := by decide +kernel
theorem dX10_keeps_79 : decode cX10_keeps 79 = .ok (.dup, 1) := by decide +kernel
theorem dX10_keeps_80 : decode cX10_keeps 80 = .ok (.getfield 117, 3) := by decide +kernel
theorem dX10_keeps_83 : decode cX10_keeps 83 = .ok (.iconst 1, 1) := by decide +kernel
theorem dX10_keeps_84 : decode cX10_keeps 84 = .ok (.isub, 1) := by decide +kernel
theorem dX10_keeps_85 : decode cX10_keeps 85 = .ok (.putfield 117, 3) := by decide +kernel
theorem dX10_keeps_88 : decode cX10_keeps 88 = .ok (.aload_n 0, 1) := by decide +kernel
theorem dX10_keeps_89 : decode cX10_keeps 89 = .ok (.getfield 34, 3) := by decide +kernel
theorem dX10_keeps_92 : decode cX10_keeps 92 = .ok (.aload_n 0, 1) := by decide +kernel
theorem dX10_keeps_93 : decode cX10_keeps 93 = .ok (.getfield 117, 3) := by decide +kernel
theorem dX10_keeps_96 : decode cX10_keeps 96 = .ok (.iload_n 1, 1) := by decide +kernel
theorem dX10_keeps_97 : decode cX10_keeps 97 = .ok (.iastore, 1) := by decide +kernel
theorem dX10_keeps_98 : decode cX10_keeps 98 = .ok (.aload_n 0, 1) := by decide +kernel
theorem dX10_keeps_99 : decode cX10_keeps 99 = .ok (.getfield 37, 3) := by decide +kernel
theorem dX10_keeps_102 : decode cX10_keeps 102 = .ok (.aload_n 0, 1) := by decide +kernel
theorem dX10_keeps_103 : decode cX10_keeps 103 = .ok (.getfield 117, 3) := by decide +kernel
theorem dX10_keeps_106 : decode cX10_keeps 106 = .ok (.iload_n 2, 1) := by decide +kernel
theorem dX10_keeps_107 : decode cX10_keeps 107 = .ok (.iastore, 1) := by decide +kernel
theorem dX10_keeps_108 : decode cX10_keeps 108 = .ok (.aload_n 0, 1) := by decide +kernel
theorem dX10_keeps_109 : decode cX10_keeps 109 = .ok (.getfield 40, 3) := by decide +kernel
theorem dX10_keeps_112 : decode cX10_keeps 112 = .ok (.aload_n 0, 1) := by decide +kernel
theorem dX10_keeps_113 : decode cX10_keeps 113 = .ok (.getfield 117, 3) := by decide +kernel
theorem dX10_keeps_116 : decode cX10_keeps 116 = .ok (.iload_n 3, 1) := by decide +kernel
theorem dX10_keeps_117 : decode cX10_keeps 117 = .ok (.iastore, 1) := by decide +kernel
theorem dX10_keeps_118 : decode cX10_keeps 118 = .ok (.aload_n 0, 1) := by decide +kernel
theorem dX10_keeps_119 : decode cX10_keeps 119 = .ok (.dup, 1) := by decide +kernel
theorem dX10_keeps_120 : decode cX10_keeps 120 = .ok (.getfield 117, 3) := by decide +kernel
theorem dX10_keeps_123 : decode cX10_keeps 123 = .ok (.iconst 1, 1) := by decide +kernel
theorem dX10_keeps_124 : decode cX10_keeps 124 = .ok (.iadd, 1) := by decide +kernel
theorem dX10_keeps_125 : decode cX10_keeps 125 = .ok (.putfield 117, 3) := by decide +kernel
theorem dX10_keeps_128 : decode cX10_keeps 128 = .ok (.return_, 1) := by decide +kernel
def m_X10_keeps_88 (x1 : Int32) (x2 : Int32) (x3 : Int32) (g : Mm) : Option (Int32 × Mm) := gdd (ixo (rdI g 40 12) 40) (gdd (ixo (rdI (wrI g 46 (rdI g 40 12).toNatClampNeg x1) 40 12) 40) (gdd (ixo (rdI (wrI (wrI g 46 (rdI g 40 12).toNatClampNeg x1) 47 (rdI (wrI g 46 (rdI g 40 12).toNatClampNeg x1) 40 12).toNatClampNeg x2) 40 12) 40) (some ((0 : Int32), (wrI (wrI (wrI (wrI g 46 (rdI g 40 12).toNatClampNeg x1) 47 (rdI (wrI g 46 (rdI g 40 12).toNatClampNeg x1) 40 12).toNatClampNeg x2) 48 (rdI (wrI (wrI g 46 (rdI g 40 12).toNatClampNeg x1) 47 (rdI (wrI g 46 (rdI g 40 12).toNatClampNeg x1) 40 12).toNatClampNeg x2) 40 12).toNatClampNeg x3) 40 12 ((rdI (wrI (wrI (wrI g 46 (rdI g 40 12).toNatClampNeg x1) 47 (rdI (wrI g 46 (rdI g 40 12).toNatClampNeg x1) 40 12).toNatClampNeg x2) 48 (rdI (wrI (wrI g 46 (rdI g 40 12).toNatClampNeg x1) 47 (rdI (wrI g 46 (rdI g 40 12).toNatClampNeg x1) 40 12).toNatClampNeg x2) 40 12).toNatClampNeg x3) 40 12) + (1 : Int32)))))))
set_option maxHeartbeats 2000000 in
theorem t_X10_keeps_88 {r2 : Int32} {g2 : Mm} (X : gx_X p R s m args meth c D al cI cJ A RX10 cX10_keeps 5 none d 0 0) (hd : 1 ≤ d) : ∀ (x1 : Int32) (x2 : Int32) (x3 : Int32) (g : Mm), m_X10_keeps_88 x1 x2 x3 g = some (r2, g2) → gx_G p l e R s m args below meth c (gx_Q below args s D al cI cJ A none g2) D al cI cJ A 5 0 0 88 [(0, .ref (al (40))), (1, .int (x1)), (2, .int (x2)), (3, .int (x3))] [] g := by
  intro x1 x2 x3 g h
  unfold m_X10_keeps_88 at h
  refine gx_aload_n X 0 rfl dX10_keeps_88 ?_
  refine gx_getf X (40) lf_X10_34 (by decide) (cl_40 _ _) (v := .ref (al (46))) rfl dX10_keeps_89 ?_
  refine gx_aload_n X 0 rfl dX10_keeps_92 ?_
  refine gx_getf X (40) lf_X10_117 (by decide) (cl_40 _ _) (v := .int ((rdI g 40 12))) rfl dX10_keeps_93 ?_
  refine gx_iload_n X 1 rfl dX10_keeps_96 ?_
  obtain ⟨q1, h⟩ := gdd_eq h
  refine gx_iast X (46) 40 (by decide) (fun r => cl_46 r _) q1 dX10_keeps_97 ?_
  refine gx_aload_n X 0 rfl dX10_keeps_98 ?_
  refine gx_getf X (40) lf_X10_37 (by decide) (cl_40 _ _) (v := .ref (al (47))) rfl dX10_keeps_99 ?_
  refine gx_aload_n X 0 rfl dX10_keeps_102 ?_
  refine gx_getf X (40) lf_X10_117 (by decide) (cl_40 _ _) (v := .int ((rdI (wrI g 46 (rdI g 40 12).toNatClampNeg x1) 40 12))) rfl dX10_keeps_103 ?_
  refine gx_iload_n X 2 rfl dX10_keeps_106 ?_
  obtain ⟨q2, h⟩ := gdd_eq h
  refine gx_iast X (47) 40 (by decide) (fun r => cl_47 r _) q2 dX10_keeps_107 ?_
  refine gx_aload_n X 0 rfl dX10_keeps_108 ?_
  refine gx_getf X (40) lf_X10_40 (by decide) (cl_40 _ _) (v := .ref (al (48))) rfl dX10_keeps_109 ?_
  refine gx_aload_n X 0 rfl dX10_keeps_112 ?_
  refine gx_getf X (40) lf_X10_117 (by decide) (cl_40 _ _) (v := .int ((rdI (wrI (wrI g 46 (rdI g 40 12).toNatClampNeg x1) 47 (rdI (wrI g 46 (rdI g 40 12).toNatClampNeg x1) 40 12).toNatClampNeg x2) 40 12))) rfl dX10_keeps_113 ?_
  refine gx_iload_n X 3 rfl dX10_keeps_116 ?_
  obtain ⟨q3, h⟩ := gdd_eq h
  refine gx_iast X (48) 40 (by decide) (fun r => cl_48 r _) q3 dX10_keeps_117 ?_
  refine gx_aload_n X 0 rfl dX10_keeps_118 ?_
  refine gx_dup X dX10_keeps_119 rfl ?_
  refine gx_getf X (40) lf_X10_117 (by decide) (cl_40 _ _) (v := .int ((rdI (wrI (wrI (wrI g 46 (rdI g 40 12).toNatClampNeg x1) 47 (rdI (wrI g 46 (rdI g 40 12).toNatClampNeg x1) 40 12).toNatClampNeg x2) 48 (rdI (wrI (wrI g 46 (rdI g 40 12).toNatClampNeg x1) 47 (rdI (wrI g 46 (rdI g 40 12).toNatClampNeg x1) 40 12).toNatClampNeg x2) 40 12).toNatClampNeg x3) 40 12))) rfl dX10_keeps_120 ?_
  refine gx_iconst X (v := (1 : Int32)) dX10_keeps_123 (by decide) ?_
  refine gx_iadd X dX10_keeps_124 ?_
  refine gx_putf X (40) ((rdI (wrI (wrI (wrI g 46 (rdI g 40 12).toNatClampNeg x1) 47 (rdI (wrI g 46 (rdI g 40 12).toNatClampNeg x1) 40 12).toNatClampNeg x2) 48 (rdI (wrI (wrI g 46 (rdI g 40 12).toNatClampNeg x1) 47 (rdI (wrI g 46 (rdI g 40 12).toNatClampNeg x1) 40 12).toNatClampNeg x2) 40 12).toNatClampNeg x3) 40 12) + (1 : Int32)) lf_X10_117 lp_X10_12 (by decide) (cl_40 _ _) (Nat.le_of_ble_eq_true rfl) rfl rfl rfl dX10_keeps_125 ?_
  obtain ⟨rfl, rfl⟩ := ret_eq h
  exact gx_vret X dX10_keeps_128
def m_X10_keeps_17 (K88 : Int32 → Int32 → Int32 → Mm → Option (Int32 × Mm)) : Nat → Int32 → Int32 → Int32 → Int32 → Mm → Option (Int32 × Mm)
  | 0, _, _, _, _, _ => none
  | n + 1, x1, x2, x3, x4, g => (if (40 : Int32) ≤ x4 then K88 x1 x2 x3 (wrI g 40 12 ((rdI g 40 12) - (1 : Int32))) else gdd (ixo x4 40) (gdd (ixo (x4 - (1 : Int32)) 40) (gdd (ixo x4 40) (gdd (ixo (x4 - (1 : Int32)) 40) (gdd (ixo x4 40) (gdd (ixo (x4 - (1 : Int32)) 40) (m_X10_keeps_17 K88 n x1 x2 x3 (x4 + (1 : Int32)) (wrI (wrI (wrI g 46 (x4 - (1 : Int32)).toNatClampNeg (rdI g 46 x4.toNatClampNeg)) 47 (x4 - (1 : Int32)).toNatClampNeg (rdI (wrI g 46 (x4 - (1 : Int32)).toNatClampNeg (rdI g 46 x4.toNatClampNeg)) 47 x4.toNatClampNeg)) 48 (x4 - (1 : Int32)).toNatClampNeg (rdI (wrI (wrI g 46 (x4 - (1 : Int32)).toNatClampNeg (rdI g 46 x4.toNatClampNeg)) 47 (x4 - (1 : Int32)).toNatClampNeg (rdI (wrI g 46 (x4 - (1 : Int32)).toNatClampNeg (rdI g 46 x4.toNatClampNeg)) 47 x4.toNatClampNeg)) 48 x4.toNatClampNeg)))))))))
set_option maxHeartbeats 2000000 in
theorem t_X10_keeps_17 {r2 : Int32} {g2 : Mm} (X : gx_X p R s m args meth c D al cI cJ A RX10 cX10_keeps 5 none d 0 0) (hd : 1 ≤ d) {K88 : Int32 → Int32 → Int32 → Mm → Option (Int32 × Mm)} (hK88 : ∀ (u0 : Int32) (u1 : Int32) (u2 : Int32) (g : Mm), K88 u0 u1 u2 g = some (r2, g2) → gx_G p l e R s m args below meth c (gx_Q below args s D al cI cJ A none g2) D al cI cJ A 5 0 0 88 [(0, .ref (al (40))), (1, .int (u0)), (2, .int (u1)), (3, .int (u2))] [] g) : ∀ (n : Nat) (x1 : Int32) (x2 : Int32) (x3 : Int32) (x4 : Int32) (g : Mm), m_X10_keeps_17 K88 n x1 x2 x3 x4 g = some (r2, g2) → gx_G p l e R s m args below meth c (gx_Q below args s D al cI cJ A none g2) D al cI cJ A 5 0 0 17 [(0, .ref (al (40))), (1, .int (x1)), (2, .int (x2)), (3, .int (x3)), (4, .int (x4))] [] g := by
  intro n
  induction n with
  | zero => intro x1 x2 x3 x4 g h; cases h
  | succ n ih =>
    intro x1 x2 x3 x4 g h
    rw [m_X10_keeps_17] at h
    refine gx_iload X 4 rfl dX10_keeps_17 ?_
    refine gx_bipush X (v := (40 : Int32)) dX10_keeps_19 (by decide) ?_
    refine gx_icmp_ge X 78 dX10_keeps_21 (by decide) (fun q1 => ?_) (fun q1 => ?_)
    · replace h := (if_pos q1).symm.trans h
      refine gx_aload_n X 0 rfl dX10_keeps_78 ?_
      refine gx_dup X dX10_keeps_79 rfl ?_
      refine gx_getf X (40) lf_X10_117 (by decide) (cl_40 _ _) (v := .int ((rdI g 40 12))) rfl dX10_keeps_80 ?_
      refine gx_iconst X (v := (1 : Int32)) dX10_keeps_83 (by decide) ?_
      refine gx_isub X dX10_keeps_84 ?_
      refine gx_putf X (40) ((rdI g 40 12) - (1 : Int32)) lf_X10_117 lp_X10_12 (by decide) (cl_40 _ _) (Nat.le_of_ble_eq_true rfl) rfl rfl rfl dX10_keeps_85 ?_
      exact gx_sub [0, 1, 2, 3] rfl (hK88 x1 x2 x3 (wrI g 40 12 ((rdI g 40 12) - (1 : Int32))) h)
    · replace h := (if_neg q1).symm.trans h
      refine gx_aload_n X 0 rfl dX10_keeps_24 ?_
      refine gx_getf X (40) lf_X10_34 (by decide) (cl_40 _ _) (v := .ref (al (46))) rfl dX10_keeps_25 ?_
      refine gx_iload X 4 rfl dX10_keeps_28 ?_
      refine gx_iconst X (v := (1 : Int32)) dX10_keeps_30 (by decide) ?_
      refine gx_isub X dX10_keeps_31 ?_
      refine gx_aload_n X 0 rfl dX10_keeps_32 ?_
      refine gx_getf X (40) lf_X10_34 (by decide) (cl_40 _ _) (v := .ref (al (46))) rfl dX10_keeps_33 ?_
      refine gx_iload X 4 rfl dX10_keeps_36 ?_
      obtain ⟨q2, h⟩ := gdd_eq h
      refine gx_iald X (46) 40 (by decide) (cl_46 _ _) q2 dX10_keeps_38 ?_
      obtain ⟨q3, h⟩ := gdd_eq h
      refine gx_iast X (46) 40 (by decide) (fun r => cl_46 r _) q3 dX10_keeps_39 ?_
      refine gx_aload_n X 0 rfl dX10_keeps_40 ?_
      refine gx_getf X (40) lf_X10_37 (by decide) (cl_40 _ _) (v := .ref (al (47))) rfl dX10_keeps_41 ?_
      refine gx_iload X 4 rfl dX10_keeps_44 ?_
      refine gx_iconst X (v := (1 : Int32)) dX10_keeps_46 (by decide) ?_
      refine gx_isub X dX10_keeps_47 ?_
      refine gx_aload_n X 0 rfl dX10_keeps_48 ?_
      refine gx_getf X (40) lf_X10_37 (by decide) (cl_40 _ _) (v := .ref (al (47))) rfl dX10_keeps_49 ?_
      refine gx_iload X 4 rfl dX10_keeps_52 ?_
      obtain ⟨q4, h⟩ := gdd_eq h
      refine gx_iald X (47) 40 (by decide) (cl_47 _ _) q4 dX10_keeps_54 ?_
      obtain ⟨q5, h⟩ := gdd_eq h
      refine gx_iast X (47) 40 (by decide) (fun r => cl_47 r _) q5 dX10_keeps_55 ?_
      refine gx_aload_n X 0 rfl dX10_keeps_56 ?_
      refine gx_getf X (40) lf_X10_40 (by decide) (cl_40 _ _) (v := .ref (al (48))) rfl dX10_keeps_57 ?_
      refine gx_iload X 4 rfl dX10_keeps_60 ?_
      refine gx_iconst X (v := (1 : Int32)) dX10_keeps_62 (by decide) ?_
      refine gx_isub X dX10_keeps_63 ?_
      refine gx_aload_n X 0 rfl dX10_keeps_64 ?_
      refine gx_getf X (40) lf_X10_40 (by decide) (cl_40 _ _) (v := .ref (al (48))) rfl dX10_keeps_65 ?_
      refine gx_iload X 4 rfl dX10_keeps_68 ?_
      obtain ⟨q6, h⟩ := gdd_eq h
      refine gx_iald X (48) 40 (by decide) (cl_48 _ _) q6 dX10_keeps_70 ?_
      obtain ⟨q7, h⟩ := gdd_eq h
      refine gx_iast X (48) 40 (by decide) (fun r => cl_48 r _) q7 dX10_keeps_71 ?_
      refine gx_iinc X [(4, .int ((x4 + (1 : Int32)))), (0, .ref (al (40))), (1, .int (x1)), (2, .int (x2)), (3, .int (x3))] 4 dX10_keeps_72 rfl rfl (by decide) rfl ?_
      refine gx_goto X 17 dX10_keeps_75 (by decide) ?_
      exact gx_sub [1, 2, 3, 4, 0] rfl (ih x1 x2 x3 (x4 + (1 : Int32)) (wrI (wrI (wrI g 46 (x4 - (1 : Int32)).toNatClampNeg (rdI g 46 x4.toNatClampNeg)) 47 (x4 - (1 : Int32)).toNatClampNeg (rdI (wrI g 46 (x4 - (1 : Int32)).toNatClampNeg (rdI g 46 x4.toNatClampNeg)) 47 x4.toNatClampNeg)) 48 (x4 - (1 : Int32)).toNatClampNeg (rdI (wrI (wrI g 46 (x4 - (1 : Int32)).toNatClampNeg (rdI g 46 x4.toNatClampNeg)) 47 (x4 - (1 : Int32)).toNatClampNeg (rdI (wrI g 46 (x4 - (1 : Int32)).toNatClampNeg (rdI g 46 x4.toNatClampNeg)) 47 x4.toNatClampNeg)) 48 x4.toNatClampNeg)) h)
def m_X10_keeps (a1 : Int32) (a2 : Int32) (a3 : Int32) (g : Mm) : Option (Int32 × Mm) := (if (rdI (wrI g 40 13 (0 : Int32)) 40 12) = (40 : Int32) then m_X10_keeps_17 (m_X10_keeps_88) fuL a1 a2 a3 (1 : Int32) (wrI g 40 13 (0 : Int32)) else m_X10_keeps_88 a1 a2 a3 (wrI g 40 13 (0 : Int32)))
set_option maxHeartbeats 2000000 in
theorem c_X10_keeps {r2 : Int32} {g g2 : Mm} {a1 : Int32} {a2 : Int32} {a3 : Int32} (h : m_X10_keeps a1 a2 a3 g = some (r2, g2)) : gx_M 1 yX10_keeps cX10_keeps 5 none (fun al => [.ref (al (40)), .int (a1), .int (a2), .int (a3)]) g none g2 := by
  have hd : 1 ≤ 1 := Nat.le_refl _
  refine gx_M.of (by decide +kernel) (fun _ => Nat.le_of_ble_eq_true rfl) ?_
  intro p l e R s m args below meth c D al cI cJ A X
  refine gx_eq (pc' := 0) (ls' := [(0, .ref (al (40))), (1, .int (a1)), (2, .int (a2)), (3, .int (a3))]) (st' := []) (g' := g) ⟨rfl, rfl, rfl, rfl⟩ ?_
  unfold m_X10_keeps at h
  refine gx_aload_n X 0 rfl dX10_keeps_0 ?_
  refine gx_iconst X (v := (0 : Int32)) dX10_keeps_1 (by decide) ?_
  refine gx_putf X (40) (0 : Int32) lf_X10_114 lp_X10_13 (by decide) (cl_40 _ _) (Nat.le_of_ble_eq_true rfl) rfl rfl rfl dX10_keeps_2 ?_
  refine gx_aload_n X 0 rfl dX10_keeps_5 ?_
  refine gx_getf X (40) lf_X10_117 (by decide) (cl_40 _ _) (v := .int ((rdI (wrI g 40 13 (0 : Int32)) 40 12))) rfl dX10_keeps_6 ?_
  refine gx_bipush X (v := (40 : Int32)) dX10_keeps_9 (by decide) ?_
  refine gx_icmp_ne X 88 dX10_keeps_11 (by decide) (fun q1 => ?_) (fun q1 => ?_)
  · replace h := (if_neg q1).symm.trans h
    exact gx_sub [0, 1, 2, 3] rfl (t_X10_keeps_88 X hd a1 a2 a3 (wrI g 40 13 (0 : Int32)) h)
  · replace h := (if_pos q1).symm.trans h
    refine gx_iconst X (v := (1 : Int32)) dX10_keeps_14 (by decide) ?_
    refine gx_istore X [(4, .int ((1 : Int32))), (0, .ref (al (40))), (1, .int (a1)), (2, .int (a2)), (3, .int (a3))] dX10_keeps_15 (by decide) rfl ?_
    exact gx_sub [1, 2, 3, 4, 0] rfl (t_X10_keeps_17 X hd (fun u0 u1 u2 g h => t_X10_keeps_88 X hd u0 u1 u2 g h) fuL a1 a2 a3 (1 : Int32) (wrI g 40 13 (0 : Int32)) h)
theorem dX10_keepsBest_0 : decode cX10_keepsBest 0 = .ok (.iconst 0, 1) := by decide +kernel
theorem dX10_keepsBest_1 : decode cX10_keepsBest 1 = .ok (.istore_n 1, 1) := by decide +kernel
theorem dX10_keepsBest_2 : decode cX10_keepsBest 2 = .ok (.iload_n 1, 1) := by decide +kernel
theorem dX10_keepsBest_3 : decode cX10_keepsBest 3 = .ok (.sipush 144, 3) := by decide +kernel
theorem dX10_keepsBest_6 : decode cX10_keepsBest 6 = .ok (.if_icmp .ge 21, 3) := by decide +kernel
theorem dX10_keepsBest_9 : decode cX10_keepsBest 9 = .ok (.aload_n 0, 1) := by decide +kernel
theorem dX10_keepsBest_10 : decode cX10_keepsBest 10 = .ok (.getfield 55, 3) := by decide +kernel
theorem dX10_keepsBest_13 : decode cX10_keepsBest 13 = .ok (.iload_n 1, 1) := by decide +kernel
theorem dX10_keepsBest_14 : decode cX10_keepsBest 14 = .ok (.aload_n 0, 1) := by decide +kernel
theorem dX10_keepsBest_15 : decode cX10_keepsBest 15 = .ok (.getfield 28, 3) := by decide +kernel
theorem dX10_keepsBest_18 : decode cX10_keepsBest 18 = .ok (.iload_n 1, 1) := by decide +kernel
theorem dX10_keepsBest_19 : decode cX10_keepsBest 19 = .ok (.iaload, 1) := by decide +kernel
theorem dX10_keepsBest_20 : decode cX10_keepsBest 20 = .ok (.iastore, 1) := by decide +kernel
theorem dX10_keepsBest_21 : decode cX10_keepsBest 21 = .ok (.iinc 1 1, 3) := by decide +kernel
theorem dX10_keepsBest_24 : decode cX10_keepsBest 24 = .ok (.goto (-22), 3) := by decide +kernel
theorem dX10_keepsBest_27 : decode cX10_keepsBest 27 = .ok (.return_, 1) := by decide +kernel
def m_X10_keepsBest_2 : Nat → Int32 → Mm → Option (Int32 × Mm)
  | 0, _, _ => none
  | n + 1, x1, g => (if (144 : Int32) ≤ x1 then some ((0 : Int32), g) else gdd (ixo x1 144) (gdd (ixo x1 144) (m_X10_keepsBest_2 n (x1 + (1 : Int32)) (wrI g 53 x1.toNatClampNeg (rdI g 44 x1.toNatClampNeg)))))
set_option maxHeartbeats 2000000 in
theorem t_X10_keepsBest_2 {r2 : Int32} {g2 : Mm} (X : gx_X p R s m args meth c D al cI cJ A RX10 cX10_keepsBest 2 none d 0 0) (hd : 1 ≤ d) : ∀ (n : Nat) (x1 : Int32) (g : Mm), m_X10_keepsBest_2 n x1 g = some (r2, g2) → gx_G p l e R s m args below meth c (gx_Q below args s D al cI cJ A none g2) D al cI cJ A 2 0 0 2 [(0, .ref (al (40))), (1, .int (x1))] [] g := by
  intro n
  induction n with
  | zero => intro x1 g h; cases h
  | succ n ih =>
    intro x1 g h
    rw [m_X10_keepsBest_2] at h
    refine gx_iload_n X 1 rfl dX10_keepsBest_2 ?_
    refine gx_sipush X (v := (144 : Int32)) dX10_keepsBest_3 (by decide) ?_
    refine gx_icmp_ge X 27 dX10_keepsBest_6 (by decide) (fun q1 => ?_) (fun q1 => ?_)
    · replace h := (if_pos q1).symm.trans h
      obtain ⟨rfl, rfl⟩ := ret_eq h
      exact gx_vret X dX10_keepsBest_27
    · replace h := (if_neg q1).symm.trans h
      refine gx_aload_n X 0 rfl dX10_keepsBest_9 ?_
      refine gx_getf X (40) lf_X10_55 (by decide) (cl_40 _ _) (v := .ref (al (53))) rfl dX10_keepsBest_10 ?_
      refine gx_iload_n X 1 rfl dX10_keepsBest_13 ?_
      refine gx_aload_n X 0 rfl dX10_keepsBest_14 ?_
      refine gx_getf X (40) lf_X10_28 (by decide) (cl_40 _ _) (v := .ref (al (44))) rfl dX10_keepsBest_15 ?_
      refine gx_iload_n X 1 rfl dX10_keepsBest_18 ?_
      obtain ⟨q2, h⟩ := gdd_eq h
      refine gx_iald X (44) 144 (by decide) (cl_44 _ _) q2 dX10_keepsBest_19 ?_
      obtain ⟨q3, h⟩ := gdd_eq h
      refine gx_iast X (53) 144 (by decide) (fun r => cl_53 r _) q3 dX10_keepsBest_20 ?_
      refine gx_iinc X [(1, .int ((x1 + (1 : Int32)))), (0, .ref (al (40)))] 1 dX10_keepsBest_21 rfl rfl (by decide) rfl ?_
      refine gx_goto X 2 dX10_keepsBest_24 (by decide) ?_
      exact gx_sub [1, 0] rfl (ih (x1 + (1 : Int32)) (wrI g 53 x1.toNatClampNeg (rdI g 44 x1.toNatClampNeg)) h)
def m_X10_keepsBest (g : Mm) : Option (Int32 × Mm) := m_X10_keepsBest_2 fuL (0 : Int32) g
set_option maxHeartbeats 2000000 in
theorem c_X10_keepsBest {r2 : Int32} {g g2 : Mm} (h : m_X10_keepsBest g = some (r2, g2)) : gx_M 1 yX10_keepsBest cX10_keepsBest 2 none (fun al => [.ref (al (40))]) g none g2 := by
  have hd : 1 ≤ 1 := Nat.le_refl _
  refine gx_M.of (by decide +kernel) (fun _ => Nat.le_of_ble_eq_true rfl) ?_
  intro p l e R s m args below meth c D al cI cJ A X
  refine gx_eq (pc' := 0) (ls' := [(0, .ref (al (40)))]) (st' := []) (g' := g) ⟨rfl, rfl, rfl, rfl⟩ ?_
  unfold m_X10_keepsBest at h
  refine gx_iconst X (v := (0 : Int32)) dX10_keepsBest_0 (by decide) ?_
  refine gx_istore_n X [(1, .int ((0 : Int32))), (0, .ref (al (40)))] dX10_keepsBest_1 (by decide) rfl ?_
  exact gx_sub [1, 0] rfl (t_X10_keepsBest_2 X hd fuL (0 : Int32) g h)
theorem dX10_tellsBy_0 : decode cX10_tellsBy 0 = .ok (.iconst 0, 1) := by decide +kernel
theorem dX10_tellsBy_1 : decode cX10_tellsBy 1 = .ok (.istore_n 3, 1) := by decide +kernel
theorem dX10_tellsBy_2 : decode cX10_tellsBy 2 = .ok (.iload_n 3, 1) := by decide +kernel
theorem dX10_tellsBy_3 : decode cX10_tellsBy 3 = .ok (.iconst 1, 1) := by decide +kernel
theorem dX10_tellsBy_4 : decode cX10_tellsBy 4 = .ok (.aload_n 0, 1) := by decide +kernel
theorem dX10_tellsBy_5 : decode cX10_tellsBy 5 = .ok (.getfield 89, 3) := by decide +kernel
theorem dX10_tellsBy_8 : decode cX10_tellsBy 8 = .ok (.ishl, 1) := by decide +kernel
theorem dX10_tellsBy_9 : decode cX10_tellsBy 9 = .ok (.if_icmp .ge 107, 3) := by decide +kernel
theorem dX10_tellsBy_12 : decode cX10_tellsBy 12 = .ok (.iload_n 3, 1) := by decide +kernel
theorem dX10_tellsBy_13 : decode cX10_tellsBy 13 = .ok (.iload_n 1, 1) := by decide +kernel
theorem dX10_tellsBy_14 : decode cX10_tellsBy 14 = .ok (.iconst (-1), 1) := by decide +kernel
theorem dX10_tellsBy_15 : decode cX10_tellsBy 15 = .ok (.ixor, 1) := by decide +kernel
theorem dX10_tellsBy_16 : decode cX10_tellsBy 16 = .ok (.iand, 1) := by decide +kernel
theorem dX10_tellsBy_17 : decode cX10_tellsBy 17 = .ok (.ifCond .ne 93, 3) := by decide +kernel
theorem dX10_tellsBy_20 : decode cX10_tellsBy 20 = .ok (.iload_n 3, 1) := by decide +kernel
theorem dX10_tellsBy_21 : decode cX10_tellsBy 21 = .ok (.invokestatic 229, 3) := by decide +kernel
theorem dX10_tellsBy_24 : decode cX10_tellsBy 24 = .ok (.iload_n 2, 1) := by decide +kernel
theorem dX10_tellsBy_25 : decode cX10_tellsBy 25 = .ok (.if_icmp .ne 85, 3) := by decide +kernel
theorem dX10_tellsBy_28 : decode cX10_tellsBy 28 = .ok (.iconst 0, 1) := by decide +kernel
theorem dX10_tellsBy_29 : decode cX10_tellsBy 29 = .ok (.istore 4, 2) := by decide +kernel
theorem dX10_tellsBy_31 : decode cX10_tellsBy 31 = .ok (.iload 4, 2) := by decide +kernel
theorem dX10_tellsBy_33 : decode cX10_tellsBy 33 = .ok (.aload_n 0, 1) := by decide +kernel
theorem dX10_tellsBy_34 : decode cX10_tellsBy 34 = .ok (.getfield 21, 3) := by decide +kernel
theorem dX10_tellsBy_37 : decode cX10_tellsBy 37 = .ok (.if_icmp .ge 73, 3) := by decide +kernel
theorem dX10_tellsBy_40 : decode cX10_tellsBy 40 = .ok (.iload 4, 2) := by decide +kernel
theorem dX10_tellsBy_42 : decode cX10_tellsBy 42 = .ok (.iconst 1, 1) := by decide +kernel
theorem dX10_tellsBy_43 : decode cX10_tellsBy 43 = .ok (.iadd, 1) := by decide +kernel
theorem dX10_tellsBy_44 : decode cX10_tellsBy 44 = .ok (.istore 5, 2) := by decide +kernel
theorem dX10_tellsBy_46 : decode cX10_tellsBy 46 = .ok (.iload 5, 2) := by decide +kernel
theorem dX10_tellsBy_48 : decode cX10_tellsBy 48 = .ok (.aload_n 0, 1) := by decide +kernel
theorem dX10_tellsBy_49 : decode cX10_tellsBy 49 = .ok (.getfield 21, 3) := by decide +kernel
theorem dX10_tellsBy_52 : decode cX10_tellsBy 52 = .ok (.if_icmp .ge 52, 3) := by decide +kernel
theorem dX10_tellsBy_55 : decode cX10_tellsBy 55 = .ok (.aload_n 0, 1) := by decide +kernel
theorem dX10_tellsBy_56 : decode cX10_tellsBy 56 = .ok (.iload 4, 2) := by decide +kernel
theorem dX10_tellsBy_58 : decode cX10_tellsBy 58 = .ok (.iload 5, 2) := by decide +kernel
theorem dX10_tellsBy_60 : decode cX10_tellsBy 60 = .ok (.invokevirtual 232, 3) := by decide +kernel
theorem dX10_tellsBy_63 : decode cX10_tellsBy 63 = .ok (.ifCond .ne 35, 3) := by decide +kernel
theorem dX10_tellsBy_66 : decode cX10_tellsBy 66 = .ok (.aload_n 0, 1) := by decide +kernel
theorem dX10_tellsBy_67 : decode cX10_tellsBy 67 = .ok (.iload 4, 2) := by decide +kernel
theorem dX10_tellsBy_69 : decode cX10_tellsBy 69 = .ok (.iload 5, 2) := by decide +kernel
theorem dX10_tellsBy_71 : decode cX10_tellsBy 71 = .ok (.invokevirtual 236, 3) := by decide +kernel
theorem dX10_tellsBy_74 : decode cX10_tellsBy 74 = .ok (.iload_n 3, 1) := by decide +kernel
theorem dX10_tellsBy_75 : decode cX10_tellsBy 75 = .ok (.iand, 1) := by decide +kernel
theorem dX10_tellsBy_76 : decode cX10_tellsBy 76 = .ok (.ifCond .ne 22, 3) := by decide +kernel
theorem dX10_tellsBy_79 : decode cX10_tellsBy 79 = .ok (.aload_n 0, 1) := by decide +kernel
theorem dX10_tellsBy_80 : decode cX10_tellsBy 80 = .ok (.iload_n 3, 1) := by decide +kernel
theorem dX10_tellsBy_81 : decode cX10_tellsBy 81 = .ok (.putfield 240, 3) := by decide +kernel
theorem dX10_tellsBy_84 : decode cX10_tellsBy 84 = .ok (.aload_n 0, 1) := by decide +kernel
theorem dX10_tellsBy_85 : decode cX10_tellsBy 85 = .ok (.iload 4, 2) := by decide +kernel
theorem dX10_tellsBy_87 : decode cX10_tellsBy 87 = .ok (.putfield 243, 3) := by decide +kernel
theorem dX10_tellsBy_90 : decode cX10_tellsBy 90 = .ok (.aload_n 0, 1) := by decide +kernel
theorem dX10_tellsBy_91 : decode cX10_tellsBy 91 = .ok (.iload 5, 2) := by decide +kernel
theorem dX10_tellsBy_93 : decode cX10_tellsBy 93 = .ok (.putfield 246, 3) := by decide +kernel
theorem dX10_tellsBy_96 : decode cX10_tellsBy 96 = .ok (.iconst 0, 1) := by decide +kernel
theorem dX10_tellsBy_97 : decode cX10_tellsBy 97 = .ok (.ireturn, 1) := by decide +kernel
theorem dX10_tellsBy_98 : decode cX10_tellsBy 98 = .ok (.iinc 5 1, 3) := by decide +kernel
theorem dX10_tellsBy_101 : decode cX10_tellsBy 101 = .ok (.goto (-55), 3) := by decide +kernel
theorem dX10_tellsBy_104 : decode cX10_tellsBy 104 = .ok (.iinc 4 1, 3) := by decide +kernel
theorem dX10_tellsBy_107 : decode cX10_tellsBy 107 = .ok (.goto (-76), 3) := by decide +kernel
theorem dX10_tellsBy_110 : decode cX10_tellsBy 110 = .ok (.iinc 3 1, 3) := by decide +kernel
theorem dX10_tellsBy_113 : decode cX10_tellsBy 113 = .ok (.goto (-111), 3) := by decide +kernel
theorem dX10_tellsBy_116 : decode cX10_tellsBy 116 = .ok (.iconst 1, 1) := by decide +kernel
theorem dX10_tellsBy_117 : decode cX10_tellsBy 117 = .ok (.ireturn, 1) := by decide +kernel
def m_X10_tellsBy_46 (K31 : Int32 → Int32 → Int32 → Int32 → Mm → Option (Int32 × Mm)) : Nat → Int32 → Int32 → Int32 → Int32 → Int32 → Mm → Option (Int32 × Mm)
  | 0, _, _, _, _, _, _ => none
  | n + 1, x1, x2, x3, x4, x5, g => (if (rdI g 40 5) ≤ x5 then K31 x1 x2 x3 (x4 + (1 : Int32)) g else bdd (m_X10_areMixed x4 x5 g) (fun ra2 ga3 => (if ra2 = (0 : Int32) then bdd (m_X10_differ x4 x5 ga3) (fun ra6 ga7 => (if (ra6 &&& x3) = (0 : Int32) then some ((0 : Int32), (wrI (wrI (wrI ga7 40 29 x3) 40 30 x4) 40 31 x5)) else m_X10_tellsBy_46 K31 n x1 x2 x3 x4 (x5 + (1 : Int32)) ga7)) else m_X10_tellsBy_46 K31 n x1 x2 x3 x4 (x5 + (1 : Int32)) ga3)))
set_option maxHeartbeats 2000000 in
theorem t_X10_tellsBy_46 {r2 : Int32} {g2 : Mm} (X : gx_X p R s m args meth c D al cI cJ A RX10 cX10_tellsBy 6 (some .boolean) d 0 0) (hd : 2 ≤ d) {K31 : Int32 → Int32 → Int32 → Int32 → Mm → Option (Int32 × Mm)} (hK31 : ∀ (u0 : Int32) (u1 : Int32) (u2 : Int32) (u3 : Int32) (g : Mm), K31 u0 u1 u2 u3 g = some (r2, g2) → gx_G p l e R s m args below meth c (gx_Q below args s D al cI cJ A (some (.int r2)) g2) D al cI cJ A 6 0 0 31 [(0, .ref (al (40))), (1, .int (u0)), (2, .int (u1)), (3, .int (u2)), (4, .int (u3))] [] g) : ∀ (n : Nat) (x1 : Int32) (x2 : Int32) (x3 : Int32) (x4 : Int32) (x5 : Int32) (g : Mm), m_X10_tellsBy_46 K31 n x1 x2 x3 x4 x5 g = some (r2, g2) → gx_G p l e R s m args below meth c (gx_Q below args s D al cI cJ A (some (.int r2)) g2) D al cI cJ A 6 0 0 46 [(0, .ref (al (40))), (1, .int (x1)), (2, .int (x2)), (3, .int (x3)), (4, .int (x4)), (5, .int (x5))] [] g := by
  intro n
  induction n with
  | zero => intro x1 x2 x3 x4 x5 g h; cases h
  | succ n ih =>
    intro x1 x2 x3 x4 x5 g h
    rw [m_X10_tellsBy_46] at h
    refine gx_iload X 5 rfl dX10_tellsBy_46 ?_
    refine gx_aload_n X 0 rfl dX10_tellsBy_48 ?_
    refine gx_getf X (40) lf_X10_21 (by decide) (cl_40 _ _) (v := .int ((rdI g 40 5))) rfl dX10_tellsBy_49 ?_
    refine gx_icmp_ge X 104 dX10_tellsBy_52 (by decide) (fun q1 => ?_) (fun q1 => ?_)
    · replace h := (if_pos q1).symm.trans h
      refine gx_iinc X [(4, .int ((x4 + (1 : Int32)))), (0, .ref (al (40))), (1, .int (x1)), (2, .int (x2)), (3, .int (x3)), (5, .int (x5))] 4 dX10_tellsBy_104 rfl rfl (by decide) rfl ?_
      refine gx_goto X 31 dX10_tellsBy_107 (by decide) ?_
      exact gx_sub [1, 2, 3, 4, 0] rfl (hK31 x1 x2 x3 (x4 + (1 : Int32)) g h)
    · replace h := (if_neg q1).symm.trans h
      refine gx_aload_n X 0 rfl dX10_tellsBy_55 ?_
      refine gx_iload X 4 rfl dX10_tellsBy_56 ?_
      refine gx_iload X 5 rfl dX10_tellsBy_58 ?_
      obtain ⟨ra2, ga3, ca4, h⟩ := bdd_eq h
      refine gx_callVi X (40) (c_X10_areMixed ca4) lc_X10_areMixed li_X10_areMixed lm_X10_232 (by decide) (cl_40 _ _) rfl rfl rfl (Nat.le_trans (by decide) hd) rfl (Nat.le_of_ble_eq_true rfl) dX10_tellsBy_60 ?_
      refine gx_if_ne X 98 dX10_tellsBy_63 (by decide) (fun q5 => ?_) (fun q5 => ?_)
      · replace h := (if_neg q5).symm.trans h
        refine gx_iinc X [(5, .int ((x5 + (1 : Int32)))), (0, .ref (al (40))), (1, .int (x1)), (2, .int (x2)), (3, .int (x3)), (4, .int (x4))] 5 dX10_tellsBy_98 rfl rfl (by decide) rfl ?_
        refine gx_goto X 46 dX10_tellsBy_101 (by decide) ?_
        exact gx_sub [1, 2, 3, 4, 5, 0] rfl (ih x1 x2 x3 x4 (x5 + (1 : Int32)) ga3 h)
      · replace h := (if_pos q5).symm.trans h
        refine gx_aload_n X 0 rfl dX10_tellsBy_66 ?_
        refine gx_iload X 4 rfl dX10_tellsBy_67 ?_
        refine gx_iload X 5 rfl dX10_tellsBy_69 ?_
        obtain ⟨ra6, ga7, ca8, h⟩ := bdd_eq h
        refine gx_callVi X (40) (c_X10_differ ca8) lc_X10_differ li_X10_differ lm_X10_236 (by decide) (cl_40 _ _) rfl rfl rfl (Nat.le_trans (by decide) hd) rfl (Nat.le_of_ble_eq_true rfl) dX10_tellsBy_71 ?_
        refine gx_iload_n X 3 rfl dX10_tellsBy_74 ?_
        refine gx_iand X dX10_tellsBy_75 ?_
        refine gx_if_ne X 98 dX10_tellsBy_76 (by decide) (fun q9 => ?_) (fun q9 => ?_)
        · replace h := (if_neg q9).symm.trans h
          refine gx_iinc X [(5, .int ((x5 + (1 : Int32)))), (0, .ref (al (40))), (1, .int (x1)), (2, .int (x2)), (3, .int (x3)), (4, .int (x4))] 5 dX10_tellsBy_98 rfl rfl (by decide) rfl ?_
          refine gx_goto X 46 dX10_tellsBy_101 (by decide) ?_
          exact gx_sub [1, 2, 3, 4, 5, 0] rfl (ih x1 x2 x3 x4 (x5 + (1 : Int32)) ga7 h)
        · replace h := (if_pos q9).symm.trans h
          refine gx_aload_n X 0 rfl dX10_tellsBy_79 ?_
          refine gx_iload_n X 3 rfl dX10_tellsBy_80 ?_
          refine gx_putf X (40) x3 lf_X10_240 lp_X10_29 (by decide) (cl_40 _ _) (Nat.le_of_ble_eq_true rfl) rfl rfl rfl dX10_tellsBy_81 ?_
          refine gx_aload_n X 0 rfl dX10_tellsBy_84 ?_
          refine gx_iload X 4 rfl dX10_tellsBy_85 ?_
          refine gx_putf X (40) x4 lf_X10_243 lp_X10_30 (by decide) (cl_40 _ _) (Nat.le_of_ble_eq_true rfl) rfl rfl rfl dX10_tellsBy_87 ?_
          refine gx_aload_n X 0 rfl dX10_tellsBy_90 ?_
          refine gx_iload X 5 rfl dX10_tellsBy_91 ?_
          refine gx_putf X (40) x5 lf_X10_246 lp_X10_31 (by decide) (cl_40 _ _) (Nat.le_of_ble_eq_true rfl) rfl rfl rfl dX10_tellsBy_93 ?_
          refine gx_iconst X (v := (0 : Int32)) dX10_tellsBy_96 (by decide) ?_
          obtain ⟨rfl, rfl⟩ := ret_eq h
          exact gx_iret X rfl dX10_tellsBy_97
def m_X10_tellsBy_31 (K2 : Int32 → Int32 → Int32 → Mm → Option (Int32 × Mm)) : Nat → Int32 → Int32 → Int32 → Int32 → Mm → Option (Int32 × Mm)
  | 0, _, _, _, _, _ => none
  | n + 1, x1, x2, x3, x4, g => (if (rdI g 40 5) ≤ x4 then K2 x1 x2 (x3 + (1 : Int32)) g else m_X10_tellsBy_46 (m_X10_tellsBy_31 K2 n) fuL x1 x2 x3 x4 (x4 + (1 : Int32)) g)
set_option maxHeartbeats 2000000 in
theorem t_X10_tellsBy_31 {r2 : Int32} {g2 : Mm} (X : gx_X p R s m args meth c D al cI cJ A RX10 cX10_tellsBy 6 (some .boolean) d 0 0) (hd : 2 ≤ d) {K2 : Int32 → Int32 → Int32 → Mm → Option (Int32 × Mm)} (hK2 : ∀ (u0 : Int32) (u1 : Int32) (u2 : Int32) (g : Mm), K2 u0 u1 u2 g = some (r2, g2) → gx_G p l e R s m args below meth c (gx_Q below args s D al cI cJ A (some (.int r2)) g2) D al cI cJ A 6 0 0 2 [(0, .ref (al (40))), (1, .int (u0)), (2, .int (u1)), (3, .int (u2))] [] g) : ∀ (n : Nat) (x1 : Int32) (x2 : Int32) (x3 : Int32) (x4 : Int32) (g : Mm), m_X10_tellsBy_31 K2 n x1 x2 x3 x4 g = some (r2, g2) → gx_G p l e R s m args below meth c (gx_Q below args s D al cI cJ A (some (.int r2)) g2) D al cI cJ A 6 0 0 31 [(0, .ref (al (40))), (1, .int (x1)), (2, .int (x2)), (3, .int (x3)), (4, .int (x4))] [] g := by
  intro n
  induction n with
  | zero => intro x1 x2 x3 x4 g h; cases h
  | succ n ih =>
    intro x1 x2 x3 x4 g h
    rw [m_X10_tellsBy_31] at h
    refine gx_iload X 4 rfl dX10_tellsBy_31 ?_
    refine gx_aload_n X 0 rfl dX10_tellsBy_33 ?_
    refine gx_getf X (40) lf_X10_21 (by decide) (cl_40 _ _) (v := .int ((rdI g 40 5))) rfl dX10_tellsBy_34 ?_
    refine gx_icmp_ge X 110 dX10_tellsBy_37 (by decide) (fun q1 => ?_) (fun q1 => ?_)
    · replace h := (if_pos q1).symm.trans h
      refine gx_iinc X [(3, .int ((x3 + (1 : Int32)))), (0, .ref (al (40))), (1, .int (x1)), (2, .int (x2)), (4, .int (x4))] 3 dX10_tellsBy_110 rfl rfl (by decide) rfl ?_
      refine gx_goto X 2 dX10_tellsBy_113 (by decide) ?_
      exact gx_sub [1, 2, 3, 0] rfl (hK2 x1 x2 (x3 + (1 : Int32)) g h)
    · replace h := (if_neg q1).symm.trans h
      refine gx_iload X 4 rfl dX10_tellsBy_40 ?_
      refine gx_iconst X (v := (1 : Int32)) dX10_tellsBy_42 (by decide) ?_
      refine gx_iadd X dX10_tellsBy_43 ?_
      refine gx_istore X [(5, .int ((x4 + (1 : Int32)))), (0, .ref (al (40))), (1, .int (x1)), (2, .int (x2)), (3, .int (x3)), (4, .int (x4))] dX10_tellsBy_44 (by decide) rfl ?_
      exact gx_sub [1, 2, 3, 4, 5, 0] rfl (t_X10_tellsBy_46 X hd (fun u0 u1 u2 u3 g h => ih u0 u1 u2 u3 g h) fuL x1 x2 x3 x4 (x4 + (1 : Int32)) g h)
def m_X10_tellsBy_2 : Nat → Int32 → Int32 → Int32 → Mm → Option (Int32 × Mm)
  | 0, _, _, _, _ => none
  | n + 1, x1, x2, x3, g => (if (shlI (1 : Int32) (rdI g 40 4)) ≤ x3 then some ((1 : Int32), g) else (if (x3 &&& (x1 ^^^ (-1 : Int32))) = (0 : Int32) then bdd (m_X10_bitsOf x3 g) (fun ra3 ga4 => (if ra3 = x2 then m_X10_tellsBy_31 (m_X10_tellsBy_2 n) fuL x1 x2 x3 (0 : Int32) ga4 else m_X10_tellsBy_2 n x1 x2 (x3 + (1 : Int32)) ga4)) else m_X10_tellsBy_2 n x1 x2 (x3 + (1 : Int32)) g))
set_option maxHeartbeats 2000000 in
theorem t_X10_tellsBy_2 {r2 : Int32} {g2 : Mm} (X : gx_X p R s m args meth c D al cI cJ A RX10 cX10_tellsBy 6 (some .boolean) d 0 0) (hd : 2 ≤ d) : ∀ (n : Nat) (x1 : Int32) (x2 : Int32) (x3 : Int32) (g : Mm), m_X10_tellsBy_2 n x1 x2 x3 g = some (r2, g2) → gx_G p l e R s m args below meth c (gx_Q below args s D al cI cJ A (some (.int r2)) g2) D al cI cJ A 6 0 0 2 [(0, .ref (al (40))), (1, .int (x1)), (2, .int (x2)), (3, .int (x3))] [] g := by
  intro n
  induction n with
  | zero => intro x1 x2 x3 g h; cases h
  | succ n ih =>
    intro x1 x2 x3 g h
    rw [m_X10_tellsBy_2] at h
    refine gx_iload_n X 3 rfl dX10_tellsBy_2 ?_
    refine gx_iconst X (v := (1 : Int32)) dX10_tellsBy_3 (by decide) ?_
    refine gx_aload_n X 0 rfl dX10_tellsBy_4 ?_
    refine gx_getf X (40) lf_X10_89 (by decide) (cl_40 _ _) (v := .int ((rdI g 40 4))) rfl dX10_tellsBy_5 ?_
    refine gx_ishl X dX10_tellsBy_8 ?_
    refine gx_icmp_ge X 116 dX10_tellsBy_9 (by decide) (fun q1 => ?_) (fun q1 => ?_)
    · replace h := (if_pos q1).symm.trans h
      refine gx_iconst X (v := (1 : Int32)) dX10_tellsBy_116 (by decide) ?_
      obtain ⟨rfl, rfl⟩ := ret_eq h
      exact gx_iret X rfl dX10_tellsBy_117
    · replace h := (if_neg q1).symm.trans h
      refine gx_iload_n X 3 rfl dX10_tellsBy_12 ?_
      refine gx_iload_n X 1 rfl dX10_tellsBy_13 ?_
      refine gx_iconst X (v := (-1 : Int32)) dX10_tellsBy_14 (by decide) ?_
      refine gx_ixor X dX10_tellsBy_15 ?_
      refine gx_iand X dX10_tellsBy_16 ?_
      refine gx_if_ne X 110 dX10_tellsBy_17 (by decide) (fun q2 => ?_) (fun q2 => ?_)
      · replace h := (if_neg q2).symm.trans h
        refine gx_iinc X [(3, .int ((x3 + (1 : Int32)))), (0, .ref (al (40))), (1, .int (x1)), (2, .int (x2))] 3 dX10_tellsBy_110 rfl rfl (by decide) rfl ?_
        refine gx_goto X 2 dX10_tellsBy_113 (by decide) ?_
        exact gx_sub [1, 2, 3, 0] rfl (ih x1 x2 (x3 + (1 : Int32)) g h)
      · replace h := (if_pos q2).symm.trans h
        refine gx_iload_n X 3 rfl dX10_tellsBy_20 ?_
        obtain ⟨ra3, ga4, ca5, h⟩ := bdd_eq h
        refine gx_callSi X (c_X10_bitsOf ca5) lc_X10_bitsOf li_X10_bitsOf lm_X10_229 rfl rfl (Nat.le_trans (by decide) hd) rfl (Nat.le_of_ble_eq_true rfl) dX10_tellsBy_21 ?_
        refine gx_iload_n X 2 rfl dX10_tellsBy_24 ?_
        refine gx_icmp_ne X 110 dX10_tellsBy_25 (by decide) (fun q6 => ?_) (fun q6 => ?_)
        · replace h := (if_neg q6).symm.trans h
          refine gx_iinc X [(3, .int ((x3 + (1 : Int32)))), (0, .ref (al (40))), (1, .int (x1)), (2, .int (x2))] 3 dX10_tellsBy_110 rfl rfl (by decide) rfl ?_
          refine gx_goto X 2 dX10_tellsBy_113 (by decide) ?_
          exact gx_sub [1, 2, 3, 0] rfl (ih x1 x2 (x3 + (1 : Int32)) ga4 h)
        · replace h := (if_pos q6).symm.trans h
          refine gx_iconst X (v := (0 : Int32)) dX10_tellsBy_28 (by decide) ?_
          refine gx_istore X [(4, .int ((0 : Int32))), (0, .ref (al (40))), (1, .int (x1)), (2, .int (x2)), (3, .int (x3))] dX10_tellsBy_29 (by decide) rfl ?_
          exact gx_sub [1, 2, 3, 4, 0] rfl (t_X10_tellsBy_31 X hd (fun u0 u1 u2 g h => ih u0 u1 u2 g h) fuL x1 x2 x3 (0 : Int32) ga4 h)
def m_X10_tellsBy (a1 : Int32) (a2 : Int32) (g : Mm) : Option (Int32 × Mm) := m_X10_tellsBy_2 fuL a1 a2 (0 : Int32) g
set_option maxHeartbeats 2000000 in
theorem c_X10_tellsBy {r2 : Int32} {g g2 : Mm} {a1 : Int32} {a2 : Int32} (h : m_X10_tellsBy a1 a2 g = some (r2, g2)) : gx_M 2 yX10_tellsBy cX10_tellsBy 6 (some .boolean) (fun al => [.ref (al (40)), .int (a1), .int (a2)]) g (some (.int r2)) g2 := by
  have hd : 2 ≤ 2 := Nat.le_refl _
  refine gx_M.of (by decide +kernel) (fun _ => Nat.le_of_ble_eq_true rfl) ?_
  intro p l e R s m args below meth c D al cI cJ A X
  refine gx_eq (pc' := 0) (ls' := [(0, .ref (al (40))), (1, .int (a1)), (2, .int (a2))]) (st' := []) (g' := g) ⟨rfl, rfl, rfl, rfl⟩ ?_
  unfold m_X10_tellsBy at h
  refine gx_iconst X (v := (0 : Int32)) dX10_tellsBy_0 (by decide) ?_
  refine gx_istore_n X [(3, .int ((0 : Int32))), (0, .ref (al (40))), (1, .int (a1)), (2, .int (a2))] dX10_tellsBy_1 (by decide) rfl ?_
  exact gx_sub [1, 2, 3, 0] rfl (t_X10_tellsBy_2 X hd fuL a1 a2 (0 : Int32) g h)
theorem dX10_kept_0 : decode cX10_kept 0 = .ok (.bipush (-2), 2) := by decide +kernel
theorem dX10_kept_2 : decode cX10_kept 2 = .ok (.istore_n 1, 1) := by decide +kernel
theorem dX10_kept_3 : decode cX10_kept 3 = .ok (.iconst 0, 1) := by decide +kernel
theorem dX10_kept_4 : decode cX10_kept 4 = .ok (.istore_n 2, 1) := by decide +kernel
theorem dX10_kept_5 : decode cX10_kept 5 = .ok (.iload_n 2, 1) := by decide +kernel
theorem dX10_kept_6 : decode cX10_kept 6 = .ok (.iconst 1, 1) := by decide +kernel
theorem dX10_kept_7 : decode cX10_kept 7 = .ok (.aload_n 0, 1) := by decide +kernel
theorem dX10_kept_8 : decode cX10_kept 8 = .ok (.getfield 89, 3) := by decide +kernel
theorem dX10_kept_11 : decode cX10_kept 11 = .ok (.ishl, 1) := by decide +kernel
theorem dX10_kept_12 : decode cX10_kept 12 = .ok (.if_icmp .ge 40, 3) := by decide +kernel
theorem dX10_kept_15 : decode cX10_kept 15 = .ok (.iload_n 1, 1) := by decide +kernel
theorem dX10_kept_16 : decode cX10_kept 16 = .ok (.bipush (-2), 2) := by decide +kernel
theorem dX10_kept_18 : decode cX10_kept 18 = .ok (.if_icmp .eq 14, 3) := by decide +kernel
theorem dX10_kept_21 : decode cX10_kept 21 = .ok (.iload_n 2, 1) := by decide +kernel
theorem dX10_kept_22 : decode cX10_kept 22 = .ok (.invokestatic 229, 3) := by decide +kernel
theorem dX10_kept_25 : decode cX10_kept 25 = .ok (.iload_n 1, 1) := by decide +kernel
theorem dX10_kept_26 : decode cX10_kept 26 = .ok (.invokestatic 229, 3) := by decide +kernel
theorem dX10_kept_29 : decode cX10_kept 29 = .ok (.if_icmp .ge 17, 3) := by decide +kernel
theorem dX10_kept_32 : decode cX10_kept 32 = .ok (.aload_n 0, 1) := by decide +kernel
theorem dX10_kept_33 : decode cX10_kept 33 = .ok (.iload_n 2, 1) := by decide +kernel
theorem dX10_kept_34 : decode cX10_kept 34 = .ok (.iload_n 2, 1) := by decide +kernel
theorem dX10_kept_35 : decode cX10_kept 35 = .ok (.invokestatic 229, 3) := by decide +kernel
theorem dX10_kept_38 : decode cX10_kept 38 = .ok (.invokevirtual 254, 3) := by decide +kernel
theorem dX10_kept_41 : decode cX10_kept 41 = .ok (.ifCond .eq 5, 3) := by decide +kernel
theorem dX10_kept_44 : decode cX10_kept 44 = .ok (.iload_n 2, 1) := by decide +kernel
theorem dX10_kept_45 : decode cX10_kept 45 = .ok (.istore_n 1, 1) := by decide +kernel
theorem dX10_kept_46 : decode cX10_kept 46 = .ok (.iinc 2 1, 3) := by decide +kernel
theorem dX10_kept_49 : decode cX10_kept 49 = .ok (.goto (-44), 3) := by decide +kernel
theorem dX10_kept_52 : decode cX10_kept 52 = .ok (.iload_n 1, 1) := by decide +kernel
theorem dX10_kept_53 : decode cX10_kept 53 = .ok (.ireturn, 1) := by decide +kernel
def m_X10_kept_32 (K5 : Int32 → Int32 → Mm → Option (Int32 × Mm)) (x1 : Int32) (x2 : Int32) (g : Mm) : Option (Int32 × Mm) := bdd (m_X10_bitsOf x2 g) (fun ra1 ga2 => bdd (m_X10_tellsBy x2 ra1 ga2) (fun ra4 ga5 => (if ra4 = (0 : Int32) then K5 x1 (x2 + (1 : Int32)) ga5 else K5 x2 (x2 + (1 : Int32)) ga5)))
set_option maxHeartbeats 2000000 in
theorem t_X10_kept_32 {r2 : Int32} {g2 : Mm} (X : gx_X p R s m args meth c D al cI cJ A RX10 cX10_kept 3 (some .int) d 0 0) (hd : 3 ≤ d) {K5 : Int32 → Int32 → Mm → Option (Int32 × Mm)} (hK5 : ∀ (u0 : Int32) (u1 : Int32) (g : Mm), K5 u0 u1 g = some (r2, g2) → gx_G p l e R s m args below meth c (gx_Q below args s D al cI cJ A (some (.int r2)) g2) D al cI cJ A 3 0 0 5 [(0, .ref (al (40))), (1, .int (u0)), (2, .int (u1))] [] g) : ∀ (x1 : Int32) (x2 : Int32) (g : Mm), m_X10_kept_32 K5 x1 x2 g = some (r2, g2) → gx_G p l e R s m args below meth c (gx_Q below args s D al cI cJ A (some (.int r2)) g2) D al cI cJ A 3 0 0 32 [(0, .ref (al (40))), (1, .int (x1)), (2, .int (x2))] [] g := by
  intro x1 x2 g h
  unfold m_X10_kept_32 at h
  refine gx_aload_n X 0 rfl dX10_kept_32 ?_
  refine gx_iload_n X 2 rfl dX10_kept_33 ?_
  refine gx_iload_n X 2 rfl dX10_kept_34 ?_
  obtain ⟨ra1, ga2, ca3, h⟩ := bdd_eq h
  refine gx_callSi X (c_X10_bitsOf ca3) lc_X10_bitsOf li_X10_bitsOf lm_X10_229 rfl rfl (Nat.le_trans (by decide) hd) rfl (Nat.le_of_ble_eq_true rfl) dX10_kept_35 ?_
  obtain ⟨ra4, ga5, ca6, h⟩ := bdd_eq h
  refine gx_callVi X (40) (c_X10_tellsBy ca6) lc_X10_tellsBy li_X10_tellsBy lm_X10_254 (by decide) (cl_40 _ _) rfl rfl rfl (Nat.le_trans (by decide) hd) rfl (Nat.le_of_ble_eq_true rfl) dX10_kept_38 ?_
  refine gx_if_eq X 46 dX10_kept_41 (by decide) (fun q7 => ?_) (fun q7 => ?_)
  · replace h := (if_pos q7).symm.trans h
    refine gx_iinc X [(2, .int ((x2 + (1 : Int32)))), (0, .ref (al (40))), (1, .int (x1))] 2 dX10_kept_46 rfl rfl (by decide) rfl ?_
    refine gx_goto X 5 dX10_kept_49 (by decide) ?_
    exact gx_sub [1, 2, 0] rfl (hK5 x1 (x2 + (1 : Int32)) ga5 h)
  · replace h := (if_neg q7).symm.trans h
    refine gx_iload_n X 2 rfl dX10_kept_44 ?_
    refine gx_istore_n X [(1, .int (x2)), (0, .ref (al (40))), (2, .int (x2))] dX10_kept_45 (by decide) rfl ?_
    refine gx_iinc X [(2, .int ((x2 + (1 : Int32)))), (1, .int (x2)), (0, .ref (al (40)))] 2 dX10_kept_46 rfl rfl (by decide) rfl ?_
    refine gx_goto X 5 dX10_kept_49 (by decide) ?_
    exact gx_sub [2, 1, 0] rfl (hK5 x2 (x2 + (1 : Int32)) ga5 h)
def m_X10_kept_5 : Nat → Int32 → Int32 → Mm → Option (Int32 × Mm)
  | 0, _, _, _ => none
  | n + 1, x1, x2, g => (if (shlI (1 : Int32) (rdI g 40 4)) ≤ x2 then some (x1, g) else (if x1 = (-2 : Int32) then m_X10_kept_32 (m_X10_kept_5 n) x1 x2 g else bdd (m_X10_bitsOf x2 g) (fun ra3 ga4 => bdd (m_X10_bitsOf x1 ga4) (fun ra6 ga7 => (if ra6 ≤ ra3 then m_X10_kept_5 n x1 (x2 + (1 : Int32)) ga7 else m_X10_kept_32 (m_X10_kept_5 n) x1 x2 ga7)))))
set_option maxHeartbeats 2000000 in
theorem t_X10_kept_5 {r2 : Int32} {g2 : Mm} (X : gx_X p R s m args meth c D al cI cJ A RX10 cX10_kept 3 (some .int) d 0 0) (hd : 3 ≤ d) : ∀ (n : Nat) (x1 : Int32) (x2 : Int32) (g : Mm), m_X10_kept_5 n x1 x2 g = some (r2, g2) → gx_G p l e R s m args below meth c (gx_Q below args s D al cI cJ A (some (.int r2)) g2) D al cI cJ A 3 0 0 5 [(0, .ref (al (40))), (1, .int (x1)), (2, .int (x2))] [] g := by
  intro n
  induction n with
  | zero => intro x1 x2 g h; cases h
  | succ n ih =>
    intro x1 x2 g h
    rw [m_X10_kept_5] at h
    refine gx_iload_n X 2 rfl dX10_kept_5 ?_
    refine gx_iconst X (v := (1 : Int32)) dX10_kept_6 (by decide) ?_
    refine gx_aload_n X 0 rfl dX10_kept_7 ?_
    refine gx_getf X (40) lf_X10_89 (by decide) (cl_40 _ _) (v := .int ((rdI g 40 4))) rfl dX10_kept_8 ?_
    refine gx_ishl X dX10_kept_11 ?_
    refine gx_icmp_ge X 52 dX10_kept_12 (by decide) (fun q1 => ?_) (fun q1 => ?_)
    · replace h := (if_pos q1).symm.trans h
      refine gx_iload_n X 1 rfl dX10_kept_52 ?_
      obtain ⟨rfl, rfl⟩ := ret_eq h
      exact gx_iret X rfl dX10_kept_53
    · replace h := (if_neg q1).symm.trans h
      refine gx_iload_n X 1 rfl dX10_kept_15 ?_
      refine gx_bipush X (v := (-2 : Int32)) dX10_kept_16 (by decide) ?_
      refine gx_icmp_eq X 32 dX10_kept_18 (by decide) (fun q2 => ?_) (fun q2 => ?_)
      · replace h := (if_pos q2).symm.trans h
        exact gx_sub [0, 1, 2] rfl (t_X10_kept_32 X hd (fun u0 u1 g h => ih u0 u1 g h) x1 x2 g h)
      · replace h := (if_neg q2).symm.trans h
        refine gx_iload_n X 2 rfl dX10_kept_21 ?_
        obtain ⟨ra3, ga4, ca5, h⟩ := bdd_eq h
        refine gx_callSi X (c_X10_bitsOf ca5) lc_X10_bitsOf li_X10_bitsOf lm_X10_229 rfl rfl (Nat.le_trans (by decide) hd) rfl (Nat.le_of_ble_eq_true rfl) dX10_kept_22 ?_
        refine gx_iload_n X 1 rfl dX10_kept_25 ?_
        obtain ⟨ra6, ga7, ca8, h⟩ := bdd_eq h
        refine gx_callSi X (c_X10_bitsOf ca8) lc_X10_bitsOf li_X10_bitsOf lm_X10_229 rfl rfl (Nat.le_trans (by decide) hd) rfl (Nat.le_of_ble_eq_true rfl) dX10_kept_26 ?_
        refine gx_icmp_ge X 46 dX10_kept_29 (by decide) (fun q9 => ?_) (fun q9 => ?_)
        · replace h := (if_pos q9).symm.trans h
          refine gx_iinc X [(2, .int ((x2 + (1 : Int32)))), (0, .ref (al (40))), (1, .int (x1))] 2 dX10_kept_46 rfl rfl (by decide) rfl ?_
          refine gx_goto X 5 dX10_kept_49 (by decide) ?_
          exact gx_sub [1, 2, 0] rfl (ih x1 (x2 + (1 : Int32)) ga7 h)
        · replace h := (if_neg q9).symm.trans h
          exact gx_sub [0, 1, 2] rfl (t_X10_kept_32 X hd (fun u0 u1 g h => ih u0 u1 g h) x1 x2 ga7 h)
def m_X10_kept (g : Mm) : Option (Int32 × Mm) := m_X10_kept_5 fuL (-2 : Int32) (0 : Int32) g
set_option maxHeartbeats 2000000 in
theorem c_X10_kept {r2 : Int32} {g g2 : Mm} (h : m_X10_kept g = some (r2, g2)) : gx_M 3 yX10_kept cX10_kept 3 (some .int) (fun al => [.ref (al (40))]) g (some (.int r2)) g2 := by
  have hd : 3 ≤ 3 := Nat.le_refl _
  refine gx_M.of (by decide +kernel) (fun _ => Nat.le_of_ble_eq_true rfl) ?_
  intro p l e R s m args below meth c D al cI cJ A X
  refine gx_eq (pc' := 0) (ls' := [(0, .ref (al (40)))]) (st' := []) (g' := g) ⟨rfl, rfl, rfl, rfl⟩ ?_
  unfold m_X10_kept at h
  refine gx_bipush X (v := (-2 : Int32)) dX10_kept_0 (by decide) ?_
  refine gx_istore_n X [(1, .int ((-2 : Int32))), (0, .ref (al (40)))] dX10_kept_2 (by decide) rfl ?_
  refine gx_iconst X (v := (0 : Int32)) dX10_kept_3 (by decide) ?_
  refine gx_istore_n X [(2, .int ((0 : Int32))), (1, .int ((-2 : Int32))), (0, .ref (al (40)))] dX10_kept_4 (by decide) rfl ?_
  exact gx_sub [2, 1, 0] rfl (t_X10_kept_5 X hd fuL (-2 : Int32) (0 : Int32) g h)
theorem dX10_walks_0 : decode cX10_walks 0 = .ok (.aload_n 0, 1) := by decide +kernel
theorem dX10_walks_1 : decode cX10_walks 1 = .ok (.iconst 0, 1) := by decide +kernel
theorem dX10_walks_2 : decode cX10_walks 2 = .ok (.putfield 139, 3) := by decide +kernel
theorem dX10_walks_5 : decode cX10_walks 5 = .ok (.aload_n 0, 1) := by decide +kernel
theorem dX10_walks_6 : decode cX10_walks 6 = .ok (.iconst 0, 1) := by decide +kernel
theorem dX10_walks_7 : decode cX10_walks 7 = .ok (.putfield 175, 3) := by decide +kernel
theorem dX10_walks_10 : decode cX10_walks 10 = .ok (.aload_n 0, 1) := by decide +kernel
theorem dX10_walks_11 : decode cX10_walks 11 = .ok (.iconst 0, 1) := by decide +kernel
theorem dX10_walks_12 : decode cX10_walks 12 = .ok (.putfield 178, 3) := by decide +kernel
theorem dX10_walks_15 : decode cX10_walks 15 = .ok (.iconst 0, 1) := by decide +kernel
theorem dX10_walks_16 : decode cX10_walks 16 = .ok (.istore_n 1, 1) := by decide +kernel
theorem dX10_walks_17 : decode cX10_walks 17 = .ok (.iconst 0, 1) := by decide +kernel
theorem dX10_walks_18 : decode cX10_walks 18 = .ok (.istore_n 2, 1) := by decide +kernel
theorem dX10_walks_19 : decode cX10_walks 19 = .ok (.iconst 1, 1) := by decide +kernel
theorem dX10_walks_20 : decode cX10_walks 20 = .ok (.istore_n 3, 1) := by decide +kernel
theorem dX10_walks_21 : decode cX10_walks 21 = .ok (.iload_n 3, 1) := by decide +kernel
theorem dX10_walks_22 : decode cX10_walks 22 = .ok (.ifCond .eq 127, 3) := by decide +kernel
theorem dX10_walks_25 : decode cX10_walks 25 = .ok (.aload_n 0, 1) := by decide +kernel
theorem dX10_walks_26 : decode cX10_walks 26 = .ok (.getfield 175, 3) := by decide +kernel
theorem dX10_walks_29 : decode cX10_walks 29 = .ok (.ifCond .ne 120, 3) := by decide +kernel
theorem dX10_walks_32 : decode cX10_walks 32 = .ok (.aload_n 0, 1) := by decide +kernel
theorem dX10_walks_33 : decode cX10_walks 33 = .ok (.invokevirtual 181, 3) := by decide +kernel
theorem dX10_walks_36 : decode cX10_walks 36 = .ok (.istore 4, 2) := by decide +kernel
theorem dX10_walks_38 : decode cX10_walks 38 = .ok (.iconst 1, 1) := by decide +kernel
theorem dX10_walks_39 : decode cX10_walks 39 = .ok (.istore 5, 2) := by decide +kernel
theorem dX10_walks_41 : decode cX10_walks 41 = .ok (.aload_n 0, 1) := by decide +kernel
theorem dX10_walks_42 : decode cX10_walks 42 = .ok (.getfield 175, 3) := by decide +kernel
theorem dX10_walks_45 : decode cX10_walks 45 = .ok (.ifCond .ne 40, 3) := by decide +kernel
theorem dX10_walks_48 : decode cX10_walks 48 = .ok (.aload_n 0, 1) := by decide +kernel
theorem dX10_walks_49 : decode cX10_walks 49 = .ok (.invokevirtual 149, 3) := by decide +kernel
theorem dX10_walks_52 : decode cX10_walks 52 = .ok (.bipush 63, 2) := by decide +kernel
theorem dX10_walks_54 : decode cX10_walks 54 = .ok (.if_icmp .ne 31, 3) := by decide +kernel
theorem dX10_walks_57 : decode cX10_walks 57 = .ok (.aload_n 0, 1) := by decide +kernel
theorem dX10_walks_58 : decode cX10_walks 58 = .ok (.dup, 1) := by decide +kernel
theorem dX10_walks_59 : decode cX10_walks 59 = .ok (.getfield 139, 3) := by decide +kernel
theorem dX10_walks_62 : decode cX10_walks 62 = .ok (.iconst 1, 1) := by decide +kernel
theorem dX10_walks_63 : decode cX10_walks 63 = .ok (.iadd, 1) := by decide +kernel
theorem dX10_walks_64 : decode cX10_walks 64 = .ok (.putfield 139, 3) := by decide +kernel
theorem dX10_walks_67 : decode cX10_walks 67 = .ok (.iload 4, 2) := by decide +kernel
theorem dX10_walks_69 : decode cX10_walks 69 = .ok (.ifCond .eq 7, 3) := by decide +kernel
theorem dX10_walks_72 : decode cX10_walks 72 = .ok (.iconst 1, 1) := by decide +kernel
theorem dX10_walks_73 : decode cX10_walks 73 = .ok (.goto 4, 3) := by decide +kernel
theorem dX10_walks_76 : decode cX10_walks 76 = .ok (.iconst 0, 1) := by decide +kernel
theorem dX10_walks_77 : decode cX10_walks 77 = .ok (.istore 5, 2) := by decide +kernel
theorem dX10_walks_79 : decode cX10_walks 79 = .ok (.aload_n 0, 1) := by decide +kernel
theorem dX10_walks_80 : decode cX10_walks 80 = .ok (.invokevirtual 181, 3) := by decide +kernel
theorem dX10_walks_83 : decode cX10_walks 83 = .ok (.istore 4, 2) := by decide +kernel
theorem dX10_walks_85 : decode cX10_walks 85 = .ok (.aload_n 0, 1) := by decide +kernel
theorem dX10_walks_86 : decode cX10_walks 86 = .ok (.getfield 175, 3) := by decide +kernel
theorem dX10_walks_89 : decode cX10_walks 89 = .ok (.ifCond .ne 17, 3) := by decide +kernel
theorem dX10_walks_92 : decode cX10_walks 92 = .ok (.iload 5, 2) := by decide +kernel
theorem dX10_walks_94 : decode cX10_walks 94 = .ok (.ifCond .eq 12, 3) := by decide +kernel
theorem dX10_walks_97 : decode cX10_walks 97 = .ok (.iload_n 1, 1) := by decide +kernel
theorem dX10_walks_98 : decode cX10_walks 98 = .ok (.ifCond .ne 8, 3) := by decide +kernel
theorem dX10_walks_101 : decode cX10_walks 101 = .ok (.iconst 1, 1) := by decide +kernel
theorem dX10_walks_102 : decode cX10_walks 102 = .ok (.istore_n 1, 1) := by decide +kernel
theorem dX10_walks_103 : decode cX10_walks 103 = .ok (.iload 4, 2) := by decide +kernel
theorem dX10_walks_105 : decode cX10_walks 105 = .ok (.istore_n 2, 1) := by decide +kernel
theorem dX10_walks_106 : decode cX10_walks 106 = .ok (.aload_n 0, 1) := by decide +kernel
theorem dX10_walks_107 : decode cX10_walks 107 = .ok (.getfield 175, 3) := by decide +kernel
theorem dX10_walks_110 : decode cX10_walks 110 = .ok (.ifCond .ne 16, 3) := by decide +kernel
theorem dX10_walks_113 : decode cX10_walks 113 = .ok (.aload_n 0, 1) := by decide +kernel
theorem dX10_walks_114 : decode cX10_walks 114 = .ok (.invokevirtual 149, 3) := by decide +kernel
theorem dX10_walks_117 : decode cX10_walks 117 = .ok (.bipush 59, 2) := by decide +kernel
theorem dX10_walks_119 : decode cX10_walks 119 = .ok (.if_icmp .ne 7, 3) := by decide +kernel
theorem dX10_walks_122 : decode cX10_walks 122 = .ok (.iconst 1, 1) := by decide +kernel
theorem dX10_walks_123 : decode cX10_walks 123 = .ok (.goto 4, 3) := by decide +kernel
theorem dX10_walks_126 : decode cX10_walks 126 = .ok (.iconst 0, 1) := by decide +kernel
theorem dX10_walks_127 : decode cX10_walks 127 = .ok (.istore_n 3, 1) := by decide +kernel
theorem dX10_walks_128 : decode cX10_walks 128 = .ok (.aload_n 0, 1) := by decide +kernel
theorem dX10_walks_129 : decode cX10_walks 129 = .ok (.dup, 1) := by decide +kernel
theorem dX10_walks_130 : decode cX10_walks 130 = .ok (.getfield 139, 3) := by decide +kernel
theorem dX10_walks_133 : decode cX10_walks 133 = .ok (.iload_n 3, 1) := by decide +kernel
theorem dX10_walks_134 : decode cX10_walks 134 = .ok (.ifCond .eq 7, 3) := by decide +kernel
theorem dX10_walks_137 : decode cX10_walks 137 = .ok (.iconst 1, 1) := by decide +kernel
theorem dX10_walks_138 : decode cX10_walks 138 = .ok (.goto 4, 3) := by decide +kernel
theorem dX10_walks_141 : decode cX10_walks 141 = .ok (.iconst 0, 1) := by decide +kernel
theorem dX10_walks_142 : decode cX10_walks 142 = .ok (.iadd, 1) := by decide +kernel
theorem dX10_walks_143 : decode cX10_walks 143 = .ok (.putfield 139, 3) := by decide +kernel
theorem dX10_walks_146 : decode cX10_walks 146 = .ok (.goto (-125), 3) := by decide +kernel
theorem dX10_walks_149 : decode cX10_walks 149 = .ok (.aload_n 0, 1) := by decide +kernel
theorem dX10_walks_150 : decode cX10_walks 150 = .ok (.aload_n 0, 1) := by decide +kernel
theorem dX10_walks_151 : decode cX10_walks 151 = .ok (.getfield 175, 3) := by decide +kernel
theorem dX10_walks_154 : decode cX10_walks 154 = .ok (.ifCond .ne 10, 3) := by decide +kernel
theorem dX10_walks_157 : decode cX10_walks 157 = .ok (.aload_n 0, 1) := by decide +kernel
theorem dX10_walks_158 : decode cX10_walks 158 = .ok (.invokevirtual 149, 3) := by decide +kernel
theorem dX10_walks_161 : decode cX10_walks 161 = .ok (.ifCond .lt 7, 3) := by decide +kernel
theorem dX10_walks_164 : decode cX10_walks 164 = .ok (.iconst 1, 1) := by decide +kernel
theorem dX10_walks_165 : decode cX10_walks 165 = .ok (.goto 4, 3) := by decide +kernel
theorem dX10_walks_168 : decode cX10_walks 168 = .ok (.iconst 0, 1) := by decide +kernel
theorem dX10_walks_169 : decode cX10_walks 169 = .ok (.putfield 175, 3) := by decide +kernel
theorem dX10_walks_172 : decode cX10_walks 172 = .ok (.iload_n 2, 1) := by decide +kernel
theorem dX10_walks_173 : decode cX10_walks 173 = .ok (.ireturn, 1) := by decide +kernel
def m_X10_walks_127 (K21 : Int32 → Int32 → Int32 → Mm → Option (Int32 × Mm)) (x1 : Int32) (x2 : Int32) (k0 : Int32) (g : Mm) : Option (Int32 × Mm) := (if k0 = (0 : Int32) then K21 x1 x2 k0 (wrI g 40 20 ((rdI g 40 20) + (0 : Int32))) else K21 x1 x2 k0 (wrI g 40 20 ((rdI g 40 20) + (1 : Int32))))
set_option maxHeartbeats 2000000 in
theorem t_X10_walks_127 {r2 : Int32} {g2 : Mm} (X : gx_X p R s m args meth c D al cI cJ A RX10 cX10_walks 6 (some .int) d 0 0) (hd : 84 ≤ d) {K21 : Int32 → Int32 → Int32 → Mm → Option (Int32 × Mm)} (hK21 : ∀ (u0 : Int32) (u1 : Int32) (u2 : Int32) (g : Mm), K21 u0 u1 u2 g = some (r2, g2) → gx_G p l e R s m args below meth c (gx_Q below args s D al cI cJ A (some (.int r2)) g2) D al cI cJ A 6 0 0 21 [(0, .ref (al (40))), (1, .int (u0)), (2, .int (u1)), (3, .int (u2))] [] g) : ∀ (x1 : Int32) (x2 : Int32) (k0 : Int32) (g : Mm), m_X10_walks_127 K21 x1 x2 k0 g = some (r2, g2) → gx_G p l e R s m args below meth c (gx_Q below args s D al cI cJ A (some (.int r2)) g2) D al cI cJ A 6 0 0 127 [(0, .ref (al (40))), (1, .int (x1)), (2, .int (x2))] [.int (k0)] g := by
  intro x1 x2 k0 g h
  unfold m_X10_walks_127 at h
  refine gx_istore_n X [(3, .int (k0)), (0, .ref (al (40))), (1, .int (x1)), (2, .int (x2))] dX10_walks_127 (by decide) rfl ?_
  refine gx_aload_n X 1 rfl dX10_walks_128 ?_
  refine gx_dup X dX10_walks_129 rfl ?_
  refine gx_getf X (40) lf_X10_139 (by decide) (cl_40 _ _) (v := .int ((rdI g 40 20))) rfl dX10_walks_130 ?_
  refine gx_iload_n X 0 rfl dX10_walks_133 ?_
  refine gx_if_eq X 141 dX10_walks_134 (by decide) (fun q1 => ?_) (fun q1 => ?_)
  · replace h := (if_pos q1).symm.trans h
    refine gx_iconst X (v := (0 : Int32)) dX10_walks_141 (by decide) ?_
    refine gx_iadd X dX10_walks_142 ?_
    refine gx_putf X (40) ((rdI g 40 20) + (0 : Int32)) lf_X10_139 lp_X10_20 (by decide) (cl_40 _ _) (Nat.le_of_ble_eq_true rfl) rfl rfl rfl dX10_walks_143 ?_
    refine gx_goto X 21 dX10_walks_146 (by decide) ?_
    exact gx_sub [1, 2, 3, 0] rfl (hK21 x1 x2 k0 (wrI g 40 20 ((rdI g 40 20) + (0 : Int32))) h)
  · replace h := (if_neg q1).symm.trans h
    refine gx_iconst X (v := (1 : Int32)) dX10_walks_137 (by decide) ?_
    refine gx_goto X 142 dX10_walks_138 (by decide) ?_
    refine gx_iadd X dX10_walks_142 ?_
    refine gx_putf X (40) ((rdI g 40 20) + (1 : Int32)) lf_X10_139 lp_X10_20 (by decide) (cl_40 _ _) (Nat.le_of_ble_eq_true rfl) rfl rfl rfl dX10_walks_143 ?_
    refine gx_goto X 21 dX10_walks_146 (by decide) ?_
    exact gx_sub [1, 2, 3, 0] rfl (hK21 x1 x2 k0 (wrI g 40 20 ((rdI g 40 20) + (1 : Int32))) h)
def m_X10_walks_106 (K21 : Int32 → Int32 → Int32 → Mm → Option (Int32 × Mm)) (x1 : Int32) (x2 : Int32) (g : Mm) : Option (Int32 × Mm) := (if (rdI g 40 21) = (0 : Int32) then bdd (m_X10_at  g) (fun ra2 ga3 => (if ra2 = (59 : Int32) then m_X10_walks_127 (K21) x1 x2 (1 : Int32) ga3 else m_X10_walks_127 (K21) x1 x2 (0 : Int32) ga3)) else m_X10_walks_127 (K21) x1 x2 (0 : Int32) g)
set_option maxHeartbeats 2000000 in
theorem t_X10_walks_106 {r2 : Int32} {g2 : Mm} (X : gx_X p R s m args meth c D al cI cJ A RX10 cX10_walks 6 (some .int) d 0 0) (hd : 84 ≤ d) {K21 : Int32 → Int32 → Int32 → Mm → Option (Int32 × Mm)} (hK21 : ∀ (u0 : Int32) (u1 : Int32) (u2 : Int32) (g : Mm), K21 u0 u1 u2 g = some (r2, g2) → gx_G p l e R s m args below meth c (gx_Q below args s D al cI cJ A (some (.int r2)) g2) D al cI cJ A 6 0 0 21 [(0, .ref (al (40))), (1, .int (u0)), (2, .int (u1)), (3, .int (u2))] [] g) : ∀ (x1 : Int32) (x2 : Int32) (g : Mm), m_X10_walks_106 K21 x1 x2 g = some (r2, g2) → gx_G p l e R s m args below meth c (gx_Q below args s D al cI cJ A (some (.int r2)) g2) D al cI cJ A 6 0 0 106 [(0, .ref (al (40))), (1, .int (x1)), (2, .int (x2))] [] g := by
  intro x1 x2 g h
  unfold m_X10_walks_106 at h
  refine gx_aload_n X 0 rfl dX10_walks_106 ?_
  refine gx_getf X (40) lf_X10_175 (by decide) (cl_40 _ _) (v := .int ((rdI g 40 21))) rfl dX10_walks_107 ?_
  refine gx_if_ne X 126 dX10_walks_110 (by decide) (fun q1 => ?_) (fun q1 => ?_)
  · replace h := (if_neg q1).symm.trans h
    refine gx_iconst X (v := (0 : Int32)) dX10_walks_126 (by decide) ?_
    exact gx_sub [0, 1, 2] rfl (t_X10_walks_127 X hd (fun u0 u1 u2 g h => hK21 u0 u1 u2 g h) x1 x2 (0 : Int32) g h)
  · replace h := (if_pos q1).symm.trans h
    refine gx_aload_n X 0 rfl dX10_walks_113 ?_
    obtain ⟨ra2, ga3, ca4, h⟩ := bdd_eq h
    refine gx_callVi X (40) (c_X10_at ca4) lc_X10_at li_X10_at lm_X10_149 (by decide) (cl_40 _ _) rfl rfl rfl (Nat.le_trans (by decide) hd) rfl (Nat.le_of_ble_eq_true rfl) dX10_walks_114 ?_
    refine gx_bipush X (v := (59 : Int32)) dX10_walks_117 (by decide) ?_
    refine gx_icmp_ne X 126 dX10_walks_119 (by decide) (fun q5 => ?_) (fun q5 => ?_)
    · replace h := (if_neg q5).symm.trans h
      refine gx_iconst X (v := (0 : Int32)) dX10_walks_126 (by decide) ?_
      exact gx_sub [0, 1, 2] rfl (t_X10_walks_127 X hd (fun u0 u1 u2 g h => hK21 u0 u1 u2 g h) x1 x2 (0 : Int32) ga3 h)
    · replace h := (if_pos q5).symm.trans h
      refine gx_iconst X (v := (1 : Int32)) dX10_walks_122 (by decide) ?_
      refine gx_goto X 127 dX10_walks_123 (by decide) ?_
      exact gx_sub [0, 1, 2] rfl (t_X10_walks_127 X hd (fun u0 u1 u2 g h => hK21 u0 u1 u2 g h) x1 x2 (1 : Int32) ga3 h)
def m_X10_walks_85 (K21 : Int32 → Int32 → Int32 → Mm → Option (Int32 × Mm)) (x1 : Int32) (x2 : Int32) (x4 : Int32) (x5 : Int32) (g : Mm) : Option (Int32 × Mm) := (if (rdI g 40 21) = (0 : Int32) then (if x5 = (0 : Int32) then m_X10_walks_106 (K21) x1 x2 g else (if x1 = (0 : Int32) then m_X10_walks_106 (K21) (1 : Int32) x4 g else m_X10_walks_106 (K21) x1 x2 g)) else m_X10_walks_106 (K21) x1 x2 g)
set_option maxHeartbeats 2000000 in
theorem t_X10_walks_85 {r2 : Int32} {g2 : Mm} (X : gx_X p R s m args meth c D al cI cJ A RX10 cX10_walks 6 (some .int) d 0 0) (hd : 84 ≤ d) {K21 : Int32 → Int32 → Int32 → Mm → Option (Int32 × Mm)} (hK21 : ∀ (u0 : Int32) (u1 : Int32) (u2 : Int32) (g : Mm), K21 u0 u1 u2 g = some (r2, g2) → gx_G p l e R s m args below meth c (gx_Q below args s D al cI cJ A (some (.int r2)) g2) D al cI cJ A 6 0 0 21 [(0, .ref (al (40))), (1, .int (u0)), (2, .int (u1)), (3, .int (u2))] [] g) : ∀ (x1 : Int32) (x2 : Int32) (x4 : Int32) (x5 : Int32) (g : Mm), m_X10_walks_85 K21 x1 x2 x4 x5 g = some (r2, g2) → gx_G p l e R s m args below meth c (gx_Q below args s D al cI cJ A (some (.int r2)) g2) D al cI cJ A 6 0 0 85 [(0, .ref (al (40))), (1, .int (x1)), (2, .int (x2)), (4, .int (x4)), (5, .int (x5))] [] g := by
  intro x1 x2 x4 x5 g h
  unfold m_X10_walks_85 at h
  refine gx_aload_n X 0 rfl dX10_walks_85 ?_
  refine gx_getf X (40) lf_X10_175 (by decide) (cl_40 _ _) (v := .int ((rdI g 40 21))) rfl dX10_walks_86 ?_
  refine gx_if_ne X 106 dX10_walks_89 (by decide) (fun q1 => ?_) (fun q1 => ?_)
  · replace h := (if_neg q1).symm.trans h
    exact gx_sub [0, 1, 2] rfl (t_X10_walks_106 X hd (fun u0 u1 u2 g h => hK21 u0 u1 u2 g h) x1 x2 g h)
  · replace h := (if_pos q1).symm.trans h
    refine gx_iload X 4 rfl dX10_walks_92 ?_
    refine gx_if_eq X 106 dX10_walks_94 (by decide) (fun q2 => ?_) (fun q2 => ?_)
    · replace h := (if_pos q2).symm.trans h
      exact gx_sub [0, 1, 2] rfl (t_X10_walks_106 X hd (fun u0 u1 u2 g h => hK21 u0 u1 u2 g h) x1 x2 g h)
    · replace h := (if_neg q2).symm.trans h
      refine gx_iload_n X 1 rfl dX10_walks_97 ?_
      refine gx_if_ne X 106 dX10_walks_98 (by decide) (fun q3 => ?_) (fun q3 => ?_)
      · replace h := (if_neg q3).symm.trans h
        exact gx_sub [0, 1, 2] rfl (t_X10_walks_106 X hd (fun u0 u1 u2 g h => hK21 u0 u1 u2 g h) x1 x2 g h)
      · replace h := (if_pos q3).symm.trans h
        refine gx_iconst X (v := (1 : Int32)) dX10_walks_101 (by decide) ?_
        refine gx_istore_n X [(1, .int ((1 : Int32))), (0, .ref (al (40))), (2, .int (x2)), (4, .int (x4)), (5, .int (x5))] dX10_walks_102 (by decide) rfl ?_
        refine gx_iload X 3 rfl dX10_walks_103 ?_
        refine gx_istore_n X [(2, .int (x4)), (1, .int ((1 : Int32))), (0, .ref (al (40))), (4, .int (x4)), (5, .int (x5))] dX10_walks_105 (by decide) rfl ?_
        exact gx_sub [2, 1, 0] rfl (t_X10_walks_106 X hd (fun u0 u1 u2 g h => hK21 u0 u1 u2 g h) (1 : Int32) x4 g h)
def m_X10_walks_77 (K85 : Int32 → Int32 → Int32 → Int32 → Mm → Option (Int32 × Mm)) (x1 : Int32) (x2 : Int32) (k0 : Int32) (g : Mm) : Option (Int32 × Mm) := bdd (gm_ 80 5 (0 : Int32) (0 : Int32) (0 : Int32) (0 : Int32) g) (fun ra1 ga2 => K85 x1 x2 ra1 k0 ga2)
set_option maxHeartbeats 2000000 in
theorem t_X10_walks_77 {r2 : Int32} {g2 : Mm} (X : gx_X p R s m args meth c D al cI cJ A RX10 cX10_walks 6 (some .int) d 0 0) (hd : 84 ≤ d) {K85 : Int32 → Int32 → Int32 → Int32 → Mm → Option (Int32 × Mm)} (hK85 : ∀ (u0 : Int32) (u1 : Int32) (u2 : Int32) (u3 : Int32) (g : Mm), K85 u0 u1 u2 u3 g = some (r2, g2) → gx_G p l e R s m args below meth c (gx_Q below args s D al cI cJ A (some (.int r2)) g2) D al cI cJ A 6 0 0 85 [(0, .ref (al (40))), (1, .int (u0)), (2, .int (u1)), (4, .int (u2)), (5, .int (u3))] [] g) : ∀ (x1 : Int32) (x2 : Int32) (k0 : Int32) (g : Mm), m_X10_walks_77 K85 x1 x2 k0 g = some (r2, g2) → gx_G p l e R s m args below meth c (gx_Q below args s D al cI cJ A (some (.int r2)) g2) D al cI cJ A 6 0 0 77 [(0, .ref (al (40))), (1, .int (x1)), (2, .int (x2))] [.int (k0)] g := by
  intro x1 x2 k0 g h
  unfold m_X10_walks_77 at h
  refine gx_istore X [(5, .int (k0)), (0, .ref (al (40))), (1, .int (x1)), (2, .int (x2))] dX10_walks_77 (by decide) rfl ?_
  refine gx_aload_n X 1 rfl dX10_walks_79 ?_
  obtain ⟨ra1, ga2, ca3, h⟩ := bdd_eq h
  refine gx_callVi X (40) (c_X10_either ca3) lc_X10_either li_X10_either lm_X10_181 (by decide) (cl_40 _ _) rfl rfl rfl (Nat.le_trans (by decide) hd) rfl (Nat.le_of_ble_eq_true rfl) dX10_walks_80 ?_
  refine gx_istore X [(4, .int (ra1)), (5, .int (k0)), (0, .ref (al (40))), (1, .int (x1)), (2, .int (x2))] dX10_walks_83 (by decide) rfl ?_
  exact gx_sub [2, 3, 4, 0, 1] rfl (hK85 x1 x2 ra1 k0 ga2 h)
def m_X10_walks_149 (x2 : Int32) (g : Mm) : Option (Int32 × Mm) := (if (rdI g 40 21) = (0 : Int32) then bdd (m_X10_at  g) (fun ra2 ga3 => (if ra2 < (0 : Int32) then some (x2, (wrI ga3 40 21 (0 : Int32))) else some (x2, (wrI ga3 40 21 (1 : Int32))))) else some (x2, (wrI g 40 21 (1 : Int32))))
set_option maxHeartbeats 2000000 in
theorem t_X10_walks_149 {r2 : Int32} {g2 : Mm} (X : gx_X p R s m args meth c D al cI cJ A RX10 cX10_walks 6 (some .int) d 0 0) (hd : 84 ≤ d) : ∀ (x2 : Int32) (g : Mm), m_X10_walks_149 x2 g = some (r2, g2) → gx_G p l e R s m args below meth c (gx_Q below args s D al cI cJ A (some (.int r2)) g2) D al cI cJ A 6 0 0 149 [(0, .ref (al (40))), (2, .int (x2))] [] g := by
  intro x2 g h
  unfold m_X10_walks_149 at h
  refine gx_aload_n X 0 rfl dX10_walks_149 ?_
  refine gx_aload_n X 0 rfl dX10_walks_150 ?_
  refine gx_getf X (40) lf_X10_175 (by decide) (cl_40 _ _) (v := .int ((rdI g 40 21))) rfl dX10_walks_151 ?_
  refine gx_if_ne X 164 dX10_walks_154 (by decide) (fun q1 => ?_) (fun q1 => ?_)
  · replace h := (if_neg q1).symm.trans h
    refine gx_iconst X (v := (1 : Int32)) dX10_walks_164 (by decide) ?_
    refine gx_goto X 169 dX10_walks_165 (by decide) ?_
    refine gx_putf X (40) (1 : Int32) lf_X10_175 lp_X10_21 (by decide) (cl_40 _ _) (Nat.le_of_ble_eq_true rfl) rfl rfl rfl dX10_walks_169 ?_
    refine gx_iload_n X 1 rfl dX10_walks_172 ?_
    obtain ⟨rfl, rfl⟩ := ret_eq h
    exact gx_iret X rfl dX10_walks_173
  · replace h := (if_pos q1).symm.trans h
    refine gx_aload_n X 0 rfl dX10_walks_157 ?_
    obtain ⟨ra2, ga3, ca4, h⟩ := bdd_eq h
    refine gx_callVi X (40) (c_X10_at ca4) lc_X10_at li_X10_at lm_X10_149 (by decide) (cl_40 _ _) rfl rfl rfl (Nat.le_trans (by decide) hd) rfl (Nat.le_of_ble_eq_true rfl) dX10_walks_158 ?_
    refine gx_if_lt X 168 dX10_walks_161 (by decide) (fun q5 => ?_) (fun q5 => ?_)
    · replace h := (if_pos q5).symm.trans h
      refine gx_iconst X (v := (0 : Int32)) dX10_walks_168 (by decide) ?_
      refine gx_putf X (40) (0 : Int32) lf_X10_175 lp_X10_21 (by decide) (cl_40 _ _) (Nat.le_of_ble_eq_true rfl) rfl rfl rfl dX10_walks_169 ?_
      refine gx_iload_n X 1 rfl dX10_walks_172 ?_
      obtain ⟨rfl, rfl⟩ := ret_eq h
      exact gx_iret X rfl dX10_walks_173
    · replace h := (if_neg q5).symm.trans h
      refine gx_iconst X (v := (1 : Int32)) dX10_walks_164 (by decide) ?_
      refine gx_goto X 169 dX10_walks_165 (by decide) ?_
      refine gx_putf X (40) (1 : Int32) lf_X10_175 lp_X10_21 (by decide) (cl_40 _ _) (Nat.le_of_ble_eq_true rfl) rfl rfl rfl dX10_walks_169 ?_
      refine gx_iload_n X 1 rfl dX10_walks_172 ?_
      obtain ⟨rfl, rfl⟩ := ret_eq h
      exact gx_iret X rfl dX10_walks_173
def m_X10_walks_21 : Nat → Int32 → Int32 → Int32 → Mm → Option (Int32 × Mm)
  | 0, _, _, _, _ => none
  | n + 1, x1, x2, x3, g => (if x3 = (0 : Int32) then m_X10_walks_149 x2 g else (if (rdI g 40 21) = (0 : Int32) then bdd (gm_ 80 5 (0 : Int32) (0 : Int32) (0 : Int32) (0 : Int32) g) (fun ra3 ga4 => (if (rdI ga4 40 21) = (0 : Int32) then bdd (m_X10_at  ga4) (fun ra7 ga8 => (if ra7 = (63 : Int32) then (if ra3 = (0 : Int32) then m_X10_walks_77 (m_X10_walks_85 (m_X10_walks_21 n)) x1 x2 (0 : Int32) (wrI ga8 40 20 ((rdI ga8 40 20) + (1 : Int32))) else m_X10_walks_77 (m_X10_walks_85 (m_X10_walks_21 n)) x1 x2 (1 : Int32) (wrI ga8 40 20 ((rdI ga8 40 20) + (1 : Int32)))) else m_X10_walks_85 (m_X10_walks_21 n) x1 x2 ra3 (1 : Int32) ga8)) else m_X10_walks_85 (m_X10_walks_21 n) x1 x2 ra3 (1 : Int32) ga4)) else m_X10_walks_149 x2 g))
set_option maxHeartbeats 2000000 in
theorem t_X10_walks_21 {r2 : Int32} {g2 : Mm} (X : gx_X p R s m args meth c D al cI cJ A RX10 cX10_walks 6 (some .int) d 0 0) (hd : 84 ≤ d) : ∀ (n : Nat) (x1 : Int32) (x2 : Int32) (x3 : Int32) (g : Mm), m_X10_walks_21 n x1 x2 x3 g = some (r2, g2) → gx_G p l e R s m args below meth c (gx_Q below args s D al cI cJ A (some (.int r2)) g2) D al cI cJ A 6 0 0 21 [(0, .ref (al (40))), (1, .int (x1)), (2, .int (x2)), (3, .int (x3))] [] g := by
  intro n
  induction n with
  | zero => intro x1 x2 x3 g h; cases h
  | succ n ih =>
    intro x1 x2 x3 g h
    rw [m_X10_walks_21] at h
    refine gx_iload_n X 3 rfl dX10_walks_21 ?_
    refine gx_if_eq X 149 dX10_walks_22 (by decide) (fun q1 => ?_) (fun q1 => ?_)
    · replace h := (if_pos q1).symm.trans h
      exact gx_sub [0, 2] rfl (t_X10_walks_149 X hd x2 g h)
    · replace h := (if_neg q1).symm.trans h
      refine gx_aload_n X 0 rfl dX10_walks_25 ?_
      refine gx_getf X (40) lf_X10_175 (by decide) (cl_40 _ _) (v := .int ((rdI g 40 21))) rfl dX10_walks_26 ?_
      refine gx_if_ne X 149 dX10_walks_29 (by decide) (fun q2 => ?_) (fun q2 => ?_)
      · replace h := (if_neg q2).symm.trans h
        exact gx_sub [0, 2] rfl (t_X10_walks_149 X hd x2 g h)
      · replace h := (if_pos q2).symm.trans h
        refine gx_aload_n X 0 rfl dX10_walks_32 ?_
        obtain ⟨ra3, ga4, ca5, h⟩ := bdd_eq h
        refine gx_callVi X (40) (c_X10_either ca5) lc_X10_either li_X10_either lm_X10_181 (by decide) (cl_40 _ _) rfl rfl rfl (Nat.le_trans (by decide) hd) rfl (Nat.le_of_ble_eq_true rfl) dX10_walks_33 ?_
        refine gx_istore X [(4, .int (ra3)), (0, .ref (al (40))), (1, .int (x1)), (2, .int (x2)), (3, .int (x3))] dX10_walks_36 (by decide) rfl ?_
        refine gx_iconst X (v := (1 : Int32)) dX10_walks_38 (by decide) ?_
        refine gx_istore X [(5, .int ((1 : Int32))), (4, .int (ra3)), (0, .ref (al (40))), (1, .int (x1)), (2, .int (x2)), (3, .int (x3))] dX10_walks_39 (by decide) rfl ?_
        refine gx_aload_n X 2 rfl dX10_walks_41 ?_
        refine gx_getf X (40) lf_X10_175 (by decide) (cl_40 _ _) (v := .int ((rdI ga4 40 21))) rfl dX10_walks_42 ?_
        refine gx_if_ne X 85 dX10_walks_45 (by decide) (fun q6 => ?_) (fun q6 => ?_)
        · replace h := (if_neg q6).symm.trans h
          exact gx_sub [2, 3, 4, 1, 0] rfl (t_X10_walks_85 X hd (fun u0 u1 u2 g h => ih u0 u1 u2 g h) x1 x2 ra3 (1 : Int32) ga4 h)
        · replace h := (if_pos q6).symm.trans h
          refine gx_aload_n X 2 rfl dX10_walks_48 ?_
          obtain ⟨ra7, ga8, ca9, h⟩ := bdd_eq h
          refine gx_callVi X (40) (c_X10_at ca9) lc_X10_at li_X10_at lm_X10_149 (by decide) (cl_40 _ _) rfl rfl rfl (Nat.le_trans (by decide) hd) rfl (Nat.le_of_ble_eq_true rfl) dX10_walks_49 ?_
          refine gx_bipush X (v := (63 : Int32)) dX10_walks_52 (by decide) ?_
          refine gx_icmp_ne X 85 dX10_walks_54 (by decide) (fun q10 => ?_) (fun q10 => ?_)
          · replace h := (if_neg q10).symm.trans h
            exact gx_sub [2, 3, 4, 1, 0] rfl (t_X10_walks_85 X hd (fun u0 u1 u2 g h => ih u0 u1 u2 g h) x1 x2 ra3 (1 : Int32) ga8 h)
          · replace h := (if_pos q10).symm.trans h
            refine gx_aload_n X 2 rfl dX10_walks_57 ?_
            refine gx_dup X dX10_walks_58 rfl ?_
            refine gx_getf X (40) lf_X10_139 (by decide) (cl_40 _ _) (v := .int ((rdI ga8 40 20))) rfl dX10_walks_59 ?_
            refine gx_iconst X (v := (1 : Int32)) dX10_walks_62 (by decide) ?_
            refine gx_iadd X dX10_walks_63 ?_
            refine gx_putf X (40) ((rdI ga8 40 20) + (1 : Int32)) lf_X10_139 lp_X10_20 (by decide) (cl_40 _ _) (Nat.le_of_ble_eq_true rfl) rfl rfl rfl dX10_walks_64 ?_
            refine gx_iload X 1 rfl dX10_walks_67 ?_
            refine gx_if_eq X 76 dX10_walks_69 (by decide) (fun q11 => ?_) (fun q11 => ?_)
            · replace h := (if_pos q11).symm.trans h
              refine gx_iconst X (v := (0 : Int32)) dX10_walks_76 (by decide) ?_
              exact gx_sub [2, 3, 4] rfl (t_X10_walks_77 X hd (fun u0 u1 u2 u3 g h => t_X10_walks_85 X hd (fun u0 u1 u2 g h => ih u0 u1 u2 g h) u0 u1 u2 u3 g h) x1 x2 (0 : Int32) (wrI ga8 40 20 ((rdI ga8 40 20) + (1 : Int32))) h)
            · replace h := (if_neg q11).symm.trans h
              refine gx_iconst X (v := (1 : Int32)) dX10_walks_72 (by decide) ?_
              refine gx_goto X 77 dX10_walks_73 (by decide) ?_
              exact gx_sub [2, 3, 4] rfl (t_X10_walks_77 X hd (fun u0 u1 u2 u3 g h => t_X10_walks_85 X hd (fun u0 u1 u2 g h => ih u0 u1 u2 g h) u0 u1 u2 u3 g h) x1 x2 (1 : Int32) (wrI ga8 40 20 ((rdI ga8 40 20) + (1 : Int32))) h)
def m_X10_walks (g : Mm) : Option (Int32 × Mm) := m_X10_walks_21 fuL (0 : Int32) (0 : Int32) (1 : Int32) (wrI (wrI (wrI g 40 20 (0 : Int32)) 40 21 (0 : Int32)) 40 22 (0 : Int32))
set_option maxHeartbeats 2000000 in
theorem c_X10_walks {r2 : Int32} {g g2 : Mm} (h : m_X10_walks g = some (r2, g2)) : gx_M 84 yX10_walks cX10_walks 6 (some .int) (fun al => [.ref (al (40))]) g (some (.int r2)) g2 := by
  have hd : 84 ≤ 84 := Nat.le_refl _
  refine gx_M.of (by decide +kernel) (fun _ => Nat.le_of_ble_eq_true rfl) ?_
  intro p l e R s m args below meth c D al cI cJ A X
  refine gx_eq (pc' := 0) (ls' := [(0, .ref (al (40)))]) (st' := []) (g' := g) ⟨rfl, rfl, rfl, rfl⟩ ?_
  unfold m_X10_walks at h
  refine gx_aload_n X 0 rfl dX10_walks_0 ?_
  refine gx_iconst X (v := (0 : Int32)) dX10_walks_1 (by decide) ?_
  refine gx_putf X (40) (0 : Int32) lf_X10_139 lp_X10_20 (by decide) (cl_40 _ _) (Nat.le_of_ble_eq_true rfl) rfl rfl rfl dX10_walks_2 ?_
  refine gx_aload_n X 0 rfl dX10_walks_5 ?_
  refine gx_iconst X (v := (0 : Int32)) dX10_walks_6 (by decide) ?_
  refine gx_putf X (40) (0 : Int32) lf_X10_175 lp_X10_21 (by decide) (cl_40 _ _) (Nat.le_of_ble_eq_true rfl) rfl rfl rfl dX10_walks_7 ?_
  refine gx_aload_n X 0 rfl dX10_walks_10 ?_
  refine gx_iconst X (v := (0 : Int32)) dX10_walks_11 (by decide) ?_
  refine gx_putf X (40) (0 : Int32) lf_X10_178 lp_X10_22 (by decide) (cl_40 _ _) (Nat.le_of_ble_eq_true rfl) rfl rfl rfl dX10_walks_12 ?_
  refine gx_iconst X (v := (0 : Int32)) dX10_walks_15 (by decide) ?_
  refine gx_istore_n X [(1, .int ((0 : Int32))), (0, .ref (al (40)))] dX10_walks_16 (by decide) rfl ?_
  refine gx_iconst X (v := (0 : Int32)) dX10_walks_17 (by decide) ?_
  refine gx_istore_n X [(2, .int ((0 : Int32))), (1, .int ((0 : Int32))), (0, .ref (al (40)))] dX10_walks_18 (by decide) rfl ?_
  refine gx_iconst X (v := (1 : Int32)) dX10_walks_19 (by decide) ?_
  refine gx_istore_n X [(3, .int ((1 : Int32))), (2, .int ((0 : Int32))), (1, .int ((0 : Int32))), (0, .ref (al (40)))] dX10_walks_20 (by decide) rfl ?_
  exact gx_sub [3, 2, 1, 0] rfl (t_X10_walks_21 X hd fuL (0 : Int32) (0 : Int32) (1 : Int32) (wrI (wrI (wrI g 40 20 (0 : Int32)) 40 21 (0 : Int32)) 40 22 (0 : Int32)) h)
theorem dX10_law_0 : decode cX10_law 0 = .ok (.aload_n 0, 1) := by decide +kernel
theorem dX10_law_1 : decode cX10_law 1 = .ok (.iconst 1, 1) := by decide +kernel
theorem dX10_law_2 : decode cX10_law 2 = .ok (.putfield 142, 3) := by decide +kernel
theorem dX10_law_5 : decode cX10_law 5 = .ok (.aload_n 0, 1) := by decide +kernel
theorem dX10_law_6 : decode cX10_law 6 = .ok (.invokevirtual 209, 3) := by decide +kernel
theorem dX10_law_9 : decode cX10_law 9 = .ok (.pop, 1) := by decide +kernel
theorem dX10_law_10 : decode cX10_law 10 = .ok (.aload_n 0, 1) := by decide +kernel
theorem dX10_law_11 : decode cX10_law 11 = .ok (.getfield 136, 3) := by decide +kernel
theorem dX10_law_14 : decode cX10_law 14 = .ok (.istore_n 1, 1) := by decide +kernel
theorem dX10_law_15 : decode cX10_law 15 = .ok (.aload_n 0, 1) := by decide +kernel
theorem dX10_law_16 : decode cX10_law 16 = .ok (.iconst 0, 1) := by decide +kernel
theorem dX10_law_17 : decode cX10_law 17 = .ok (.putfield 136, 3) := by decide +kernel
theorem dX10_law_20 : decode cX10_law 20 = .ok (.aload_n 0, 1) := by decide +kernel
theorem dX10_law_21 : decode cX10_law 21 = .ok (.getfield 175, 3) := by decide +kernel
theorem dX10_law_24 : decode cX10_law 24 = .ok (.ifCond .eq 11, 3) := by decide +kernel
theorem dX10_law_27 : decode cX10_law 27 = .ok (.bipush (-100), 2) := by decide +kernel
theorem dX10_law_29 : decode cX10_law 29 = .ok (.aload_n 0, 1) := by decide +kernel
theorem dX10_law_30 : decode cX10_law 30 = .ok (.getfield 139, 3) := by decide +kernel
theorem dX10_law_33 : decode cX10_law 33 = .ok (.isub, 1) := by decide +kernel
theorem dX10_law_34 : decode cX10_law 34 = .ok (.ireturn, 1) := by decide +kernel
theorem dX10_law_35 : decode cX10_law 35 = .ok (.iconst 0, 1) := by decide +kernel
theorem dX10_law_36 : decode cX10_law 36 = .ok (.istore_n 2, 1) := by decide +kernel
theorem dX10_law_37 : decode cX10_law 37 = .ok (.iload_n 2, 1) := by decide +kernel
theorem dX10_law_38 : decode cX10_law 38 = .ok (.iload_n 1, 1) := by decide +kernel
theorem dX10_law_39 : decode cX10_law 39 = .ok (.if_icmp .ge 21, 3) := by decide +kernel
theorem dX10_law_42 : decode cX10_law 42 = .ok (.aload_n 0, 1) := by decide +kernel
theorem dX10_law_43 : decode cX10_law 43 = .ok (.getfield 46, 3) := by decide +kernel
theorem dX10_law_46 : decode cX10_law 46 = .ok (.iload_n 2, 1) := by decide +kernel
theorem dX10_law_47 : decode cX10_law 47 = .ok (.aload_n 0, 1) := by decide +kernel
theorem dX10_law_48 : decode cX10_law 48 = .ok (.getfield 43, 3) := by decide +kernel
theorem dX10_law_51 : decode cX10_law 51 = .ok (.iload_n 2, 1) := by decide +kernel
theorem dX10_law_52 : decode cX10_law 52 = .ok (.iaload, 1) := by decide +kernel
theorem dX10_law_53 : decode cX10_law 53 = .ok (.iastore, 1) := by decide +kernel
theorem dX10_law_54 : decode cX10_law 54 = .ok (.iinc 2 1, 3) := by decide +kernel
theorem dX10_law_57 : decode cX10_law 57 = .ok (.goto (-20), 3) := by decide +kernel
theorem dX10_law_60 : decode cX10_law 60 = .ok (.aload_n 0, 1) := by decide +kernel
theorem dX10_law_61 : decode cX10_law 61 = .ok (.iload_n 1, 1) := by decide +kernel
theorem dX10_law_62 : decode cX10_law 62 = .ok (.putfield 146, 3) := by decide +kernel
theorem dX10_law_65 : decode cX10_law 65 = .ok (.aload_n 0, 1) := by decide +kernel
theorem dX10_law_66 : decode cX10_law 66 = .ok (.iconst 1, 1) := by decide +kernel
theorem dX10_law_67 : decode cX10_law 67 = .ok (.putfield 212, 3) := by decide +kernel
theorem dX10_law_70 : decode cX10_law 70 = .ok (.iconst 1, 1) := by decide +kernel
theorem dX10_law_71 : decode cX10_law 71 = .ok (.ireturn, 1) := by decide +kernel
def m_X10_law_37 : Nat → Int32 → Int32 → Mm → Option (Int32 × Mm)
  | 0, _, _, _ => none
  | n + 1, x1, x2, g => (if x1 ≤ x2 then some ((1 : Int32), (wrI (wrI g 40 17 x1) 40 18 (1 : Int32))) else gdd (ixo x2 120) (gdd (ixo x2 120) (m_X10_law_37 n x1 (x2 + (1 : Int32)) (wrI g 50 x2.toNatClampNeg (rdI g 49 x2.toNatClampNeg)))))
set_option maxHeartbeats 2000000 in
theorem t_X10_law_37 {r2 : Int32} {g2 : Mm} (X : gx_X p R s m args meth c D al cI cJ A RX10 cX10_law 3 (some .int) d 0 0) (hd : 85 ≤ d) : ∀ (n : Nat) (x1 : Int32) (x2 : Int32) (g : Mm), m_X10_law_37 n x1 x2 g = some (r2, g2) → gx_G p l e R s m args below meth c (gx_Q below args s D al cI cJ A (some (.int r2)) g2) D al cI cJ A 3 0 0 37 [(0, .ref (al (40))), (1, .int (x1)), (2, .int (x2))] [] g := by
  intro n
  induction n with
  | zero => intro x1 x2 g h; cases h
  | succ n ih =>
    intro x1 x2 g h
    rw [m_X10_law_37] at h
    refine gx_iload_n X 2 rfl dX10_law_37 ?_
    refine gx_iload_n X 1 rfl dX10_law_38 ?_
    refine gx_icmp_ge X 60 dX10_law_39 (by decide) (fun q1 => ?_) (fun q1 => ?_)
    · replace h := (if_pos q1).symm.trans h
      refine gx_aload_n X 0 rfl dX10_law_60 ?_
      refine gx_iload_n X 1 rfl dX10_law_61 ?_
      refine gx_putf X (40) x1 lf_X10_146 lp_X10_17 (by decide) (cl_40 _ _) (Nat.le_of_ble_eq_true rfl) rfl rfl rfl dX10_law_62 ?_
      refine gx_aload_n X 0 rfl dX10_law_65 ?_
      refine gx_iconst X (v := (1 : Int32)) dX10_law_66 (by decide) ?_
      refine gx_putf X (40) (1 : Int32) lf_X10_212 lp_X10_18 (by decide) (cl_40 _ _) (Nat.le_of_ble_eq_true rfl) rfl rfl rfl dX10_law_67 ?_
      refine gx_iconst X (v := (1 : Int32)) dX10_law_70 (by decide) ?_
      obtain ⟨rfl, rfl⟩ := ret_eq h
      exact gx_iret X rfl dX10_law_71
    · replace h := (if_neg q1).symm.trans h
      refine gx_aload_n X 0 rfl dX10_law_42 ?_
      refine gx_getf X (40) lf_X10_46 (by decide) (cl_40 _ _) (v := .ref (al (50))) rfl dX10_law_43 ?_
      refine gx_iload_n X 2 rfl dX10_law_46 ?_
      refine gx_aload_n X 0 rfl dX10_law_47 ?_
      refine gx_getf X (40) lf_X10_43 (by decide) (cl_40 _ _) (v := .ref (al (49))) rfl dX10_law_48 ?_
      refine gx_iload_n X 2 rfl dX10_law_51 ?_
      obtain ⟨q2, h⟩ := gdd_eq h
      refine gx_iald X (49) 120 (by decide) (cl_49 _ _) q2 dX10_law_52 ?_
      obtain ⟨q3, h⟩ := gdd_eq h
      refine gx_iast X (50) 120 (by decide) (fun r => cl_50 r _) q3 dX10_law_53 ?_
      refine gx_iinc X [(2, .int ((x2 + (1 : Int32)))), (0, .ref (al (40))), (1, .int (x1))] 2 dX10_law_54 rfl rfl (by decide) rfl ?_
      refine gx_goto X 37 dX10_law_57 (by decide) ?_
      exact gx_sub [1, 2, 0] rfl (ih x1 (x2 + (1 : Int32)) (wrI g 50 x2.toNatClampNeg (rdI g 49 x2.toNatClampNeg)) h)
def m_X10_law (g : Mm) : Option (Int32 × Mm) := bdd (m_X10_walks  (wrI g 40 19 (1 : Int32))) (fun ra1 ga2 => (if (rdI (wrI ga2 40 15 (0 : Int32)) 40 21) = (0 : Int32) then m_X10_law_37 fuL (rdI ga2 40 15) (0 : Int32) (wrI ga2 40 15 (0 : Int32)) else some (((-100 : Int32) - (rdI (wrI ga2 40 15 (0 : Int32)) 40 20)), (wrI ga2 40 15 (0 : Int32)))))
set_option maxHeartbeats 2000000 in
theorem c_X10_law {r2 : Int32} {g g2 : Mm} (h : m_X10_law g = some (r2, g2)) : gx_M 85 yX10_law cX10_law 3 (some .int) (fun al => [.ref (al (40))]) g (some (.int r2)) g2 := by
  have hd : 85 ≤ 85 := Nat.le_refl _
  refine gx_M.of (by decide +kernel) (fun _ => Nat.le_of_ble_eq_true rfl) ?_
  intro p l e R s m args below meth c D al cI cJ A X
  refine gx_eq (pc' := 0) (ls' := [(0, .ref (al (40)))]) (st' := []) (g' := g) ⟨rfl, rfl, rfl, rfl⟩ ?_
  unfold m_X10_law at h
  refine gx_aload_n X 0 rfl dX10_law_0 ?_
  refine gx_iconst X (v := (1 : Int32)) dX10_law_1 (by decide) ?_
  refine gx_putf X (40) (1 : Int32) lf_X10_142 lp_X10_19 (by decide) (cl_40 _ _) (Nat.le_of_ble_eq_true rfl) rfl rfl rfl dX10_law_2 ?_
  refine gx_aload_n X 0 rfl dX10_law_5 ?_
  obtain ⟨ra1, ga2, ca3, h⟩ := bdd_eq h
  refine gx_callVi X (40) (c_X10_walks ca3) lc_X10_walks li_X10_walks lm_X10_209 (by decide) (cl_40 _ _) rfl rfl rfl (Nat.le_trans (by decide) hd) rfl (Nat.le_of_ble_eq_true rfl) dX10_law_6 ?_
  refine gx_pop X dX10_law_9 rfl ?_
  refine gx_aload_n X 0 rfl dX10_law_10 ?_
  refine gx_getf X (40) lf_X10_136 (by decide) (cl_40 _ _) (v := .int ((rdI ga2 40 15))) rfl dX10_law_11 ?_
  refine gx_istore_n X [(1, .int ((rdI ga2 40 15))), (0, .ref (al (40)))] dX10_law_14 (by decide) rfl ?_
  refine gx_aload_n X 1 rfl dX10_law_15 ?_
  refine gx_iconst X (v := (0 : Int32)) dX10_law_16 (by decide) ?_
  refine gx_putf X (40) (0 : Int32) lf_X10_136 lp_X10_15 (by decide) (cl_40 _ _) (Nat.le_of_ble_eq_true rfl) rfl rfl rfl dX10_law_17 ?_
  refine gx_aload_n X 1 rfl dX10_law_20 ?_
  refine gx_getf X (40) lf_X10_175 (by decide) (cl_40 _ _) (v := .int ((rdI (wrI ga2 40 15 (0 : Int32)) 40 21))) rfl dX10_law_21 ?_
  refine gx_if_eq X 35 dX10_law_24 (by decide) (fun q4 => ?_) (fun q4 => ?_)
  · replace h := (if_pos q4).symm.trans h
    refine gx_iconst X (v := (0 : Int32)) dX10_law_35 (by decide) ?_
    refine gx_istore_n X [(2, .int ((0 : Int32))), (1, .int ((rdI ga2 40 15))), (0, .ref (al (40)))] dX10_law_36 (by decide) rfl ?_
    exact gx_sub [2, 1, 0] rfl (t_X10_law_37 X hd fuL (rdI ga2 40 15) (0 : Int32) (wrI ga2 40 15 (0 : Int32)) h)
  · replace h := (if_neg q4).symm.trans h
    refine gx_bipush X (v := (-100 : Int32)) dX10_law_27 (by decide) ?_
    refine gx_aload_n X 1 rfl dX10_law_29 ?_
    refine gx_getf X (40) lf_X10_139 (by decide) (cl_40 _ _) (v := .int ((rdI (wrI ga2 40 15 (0 : Int32)) 40 20))) rfl dX10_law_30 ?_
    refine gx_isub X dX10_law_33 ?_
    obtain ⟨rfl, rfl⟩ := ret_eq h
    exact gx_iret X rfl dX10_law_34
theorem dX10_sumAll_0 : decode cX10_sumAll 0 = .ok (.iconst 0, 1) := by decide +kernel
theorem dX10_sumAll_1 : decode cX10_sumAll 1 = .ok (.istore_n 1, 1) := by decide +kernel
theorem dX10_sumAll_2 : decode cX10_sumAll 2 = .ok (.iconst 0, 1) := by decide +kernel
theorem dX10_sumAll_3 : decode cX10_sumAll 3 = .ok (.istore_n 2, 1) := by decide +kernel
theorem dX10_sumAll_4 : decode cX10_sumAll 4 = .ok (.iload_n 2, 1) := by decide +kernel
theorem dX10_sumAll_5 : decode cX10_sumAll 5 = .ok (.bipush 6, 2) := by decide +kernel
theorem dX10_sumAll_7 : decode cX10_sumAll 7 = .ok (.aload_n 0, 1) := by decide +kernel
theorem dX10_sumAll_8 : decode cX10_sumAll 8 = .ok (.getfield 21, 3) := by decide +kernel
theorem dX10_sumAll_11 : decode cX10_sumAll 11 = .ok (.imul, 1) := by decide +kernel
theorem dX10_sumAll_12 : decode cX10_sumAll 12 = .ok (.if_icmp .ge 18, 3) := by decide +kernel
theorem dX10_sumAll_15 : decode cX10_sumAll 15 = .ok (.iload_n 1, 1) := by decide +kernel
theorem dX10_sumAll_16 : decode cX10_sumAll 16 = .ok (.aload_n 0, 1) := by decide +kernel
theorem dX10_sumAll_17 : decode cX10_sumAll 17 = .ok (.getfield 28, 3) := by decide +kernel
theorem dX10_sumAll_20 : decode cX10_sumAll 20 = .ok (.iload_n 2, 1) := by decide +kernel
theorem dX10_sumAll_21 : decode cX10_sumAll 21 = .ok (.iaload, 1) := by decide +kernel
theorem dX10_sumAll_22 : decode cX10_sumAll 22 = .ok (.iadd, 1) := by decide +kernel
theorem dX10_sumAll_23 : decode cX10_sumAll 23 = .ok (.istore_n 1, 1) := by decide +kernel
theorem dX10_sumAll_24 : decode cX10_sumAll 24 = .ok (.iinc 2 1, 3) := by decide +kernel
theorem dX10_sumAll_27 : decode cX10_sumAll 27 = .ok (.goto (-23), 3) := by decide +kernel
theorem dX10_sumAll_30 : decode cX10_sumAll 30 = .ok (.iload_n 1, 1) := by decide +kernel
theorem dX10_sumAll_31 : decode cX10_sumAll 31 = .ok (.ireturn, 1) := by decide +kernel
def m_X10_sumAll_4 : Nat → Int32 → Int32 → Mm → Option (Int32 × Mm)
  | 0, _, _, _ => none
  | n + 1, x1, x2, g => (if ((6 : Int32) * (rdI g 40 5)) ≤ x2 then some (x1, g) else gdd (ixo x2 144) (m_X10_sumAll_4 n (x1 + (rdI g 44 x2.toNatClampNeg)) (x2 + (1 : Int32)) g))
set_option maxHeartbeats 2000000 in
theorem t_X10_sumAll_4 {r2 : Int32} {g2 : Mm} (X : gx_X p R s m args meth c D al cI cJ A RX10 cX10_sumAll 3 (some .int) d 0 0) (hd : 1 ≤ d) : ∀ (n : Nat) (x1 : Int32) (x2 : Int32) (g : Mm), m_X10_sumAll_4 n x1 x2 g = some (r2, g2) → gx_G p l e R s m args below meth c (gx_Q below args s D al cI cJ A (some (.int r2)) g2) D al cI cJ A 3 0 0 4 [(0, .ref (al (40))), (1, .int (x1)), (2, .int (x2))] [] g := by
  intro n
  induction n with
  | zero => intro x1 x2 g h; cases h
  | succ n ih =>
    intro x1 x2 g h
    rw [m_X10_sumAll_4] at h
    refine gx_iload_n X 2 rfl dX10_sumAll_4 ?_
    refine gx_bipush X (v := (6 : Int32)) dX10_sumAll_5 (by decide) ?_
    refine gx_aload_n X 0 rfl dX10_sumAll_7 ?_
    refine gx_getf X (40) lf_X10_21 (by decide) (cl_40 _ _) (v := .int ((rdI g 40 5))) rfl dX10_sumAll_8 ?_
    refine gx_imul X dX10_sumAll_11 ?_
    refine gx_icmp_ge X 30 dX10_sumAll_12 (by decide) (fun q1 => ?_) (fun q1 => ?_)
    · replace h := (if_pos q1).symm.trans h
      refine gx_iload_n X 1 rfl dX10_sumAll_30 ?_
      obtain ⟨rfl, rfl⟩ := ret_eq h
      exact gx_iret X rfl dX10_sumAll_31
    · replace h := (if_neg q1).symm.trans h
      refine gx_iload_n X 1 rfl dX10_sumAll_15 ?_
      refine gx_aload_n X 0 rfl dX10_sumAll_16 ?_
      refine gx_getf X (40) lf_X10_28 (by decide) (cl_40 _ _) (v := .ref (al (44))) rfl dX10_sumAll_17 ?_
      refine gx_iload_n X 2 rfl dX10_sumAll_20 ?_
      obtain ⟨q2, h⟩ := gdd_eq h
      refine gx_iald X (44) 144 (by decide) (cl_44 _ _) q2 dX10_sumAll_21 ?_
      refine gx_iadd X dX10_sumAll_22 ?_
      refine gx_istore_n X [(1, .int ((x1 + (rdI g 44 x2.toNatClampNeg)))), (0, .ref (al (40))), (2, .int (x2))] dX10_sumAll_23 (by decide) rfl ?_
      refine gx_iinc X [(2, .int ((x2 + (1 : Int32)))), (1, .int ((x1 + (rdI g 44 x2.toNatClampNeg)))), (0, .ref (al (40)))] 2 dX10_sumAll_24 rfl rfl (by decide) rfl ?_
      refine gx_goto X 4 dX10_sumAll_27 (by decide) ?_
      exact gx_sub [2, 1, 0] rfl (ih (x1 + (rdI g 44 x2.toNatClampNeg)) (x2 + (1 : Int32)) g h)
def m_X10_sumAll (g : Mm) : Option (Int32 × Mm) := m_X10_sumAll_4 fuL (0 : Int32) (0 : Int32) g
set_option maxHeartbeats 2000000 in
theorem c_X10_sumAll {r2 : Int32} {g g2 : Mm} (h : m_X10_sumAll g = some (r2, g2)) : gx_M 1 yX10_sumAll cX10_sumAll 3 (some .int) (fun al => [.ref (al (40))]) g (some (.int r2)) g2 := by
  have hd : 1 ≤ 1 := Nat.le_refl _
  refine gx_M.of (by decide +kernel) (fun _ => Nat.le_of_ble_eq_true rfl) ?_
  intro p l e R s m args below meth c D al cI cJ A X
  refine gx_eq (pc' := 0) (ls' := [(0, .ref (al (40)))]) (st' := []) (g' := g) ⟨rfl, rfl, rfl, rfl⟩ ?_
  unfold m_X10_sumAll at h
  refine gx_iconst X (v := (0 : Int32)) dX10_sumAll_0 (by decide) ?_
  refine gx_istore_n X [(1, .int ((0 : Int32))), (0, .ref (al (40)))] dX10_sumAll_1 (by decide) rfl ?_
  refine gx_iconst X (v := (0 : Int32)) dX10_sumAll_2 (by decide) ?_
  refine gx_istore_n X [(2, .int ((0 : Int32))), (1, .int ((0 : Int32))), (0, .ref (al (40)))] dX10_sumAll_3 (by decide) rfl ?_
  exact gx_sub [2, 1, 0] rfl (t_X10_sumAll_4 X hd fuL (0 : Int32) (0 : Int32) g h)
theorem dX10_within_0 : decode cX10_within 0 = .ok (.iload_n 0, 1) := by decide +kernel
theorem dX10_within_1 : decode cX10_within 1 = .ok (.iload_n 1, 1) := by decide +kernel
theorem dX10_within_2 : decode cX10_within 2 = .ok (.if_icmp .ge 7, 3) := by decide +kernel
theorem dX10_within_5 : decode cX10_within 5 = .ok (.iload_n 1, 1) := by decide +kernel
theorem dX10_within_6 : decode cX10_within 6 = .ok (.goto 13, 3) := by decide +kernel
theorem dX10_within_9 : decode cX10_within 9 = .ok (.iload_n 0, 1) := by decide +kernel
theorem dX10_within_10 : decode cX10_within 10 = .ok (.iload_n 2, 1) := by decide +kernel
theorem dX10_within_11 : decode cX10_within 11 = .ok (.if_icmp .le 7, 3) := by decide +kernel
theorem dX10_within_14 : decode cX10_within 14 = .ok (.iload_n 2, 1) := by decide +kernel
theorem dX10_within_15 : decode cX10_within 15 = .ok (.goto 4, 3) := by decide +kernel
theorem dX10_within_18 : decode cX10_within 18 = .ok (.iload_n 0, 1) := by decide +kernel
theorem dX10_within_19 : decode cX10_within 19 = .ok (.ireturn, 1) := by decide +kernel
def m_X10_within (a0 : Int32) (a1 : Int32) (a2 : Int32) (g : Mm) : Option (Int32 × Mm) := (if a1 ≤ a0 then (if a0 ≤ a2 then some (a0, g) else some (a2, g)) else some (a1, g))
set_option maxHeartbeats 2000000 in
theorem c_X10_within {r2 : Int32} {g g2 : Mm} {a0 : Int32} {a1 : Int32} {a2 : Int32} (h : m_X10_within a0 a1 a2 g = some (r2, g2)) : gx_M 1 yX10_within cX10_within 3 (some .int) (fun al => [.int (a0), .int (a1), .int (a2)]) g (some (.int r2)) g2 := by
  have hd : 1 ≤ 1 := Nat.le_refl _
  refine gx_M.of (by decide +kernel) (fun _ => Nat.le_of_ble_eq_true rfl) ?_
  intro p l e R s m args below meth c D al cI cJ A X
  refine gx_eq (pc' := 0) (ls' := [(0, .int (a0)), (1, .int (a1)), (2, .int (a2))]) (st' := []) (g' := g) ⟨rfl, rfl, rfl, rfl⟩ ?_
  unfold m_X10_within at h
  refine gx_iload_n X 0 rfl dX10_within_0 ?_
  refine gx_iload_n X 1 rfl dX10_within_1 ?_
  refine gx_icmp_ge X 9 dX10_within_2 (by decide) (fun q1 => ?_) (fun q1 => ?_)
  · replace h := (if_pos q1).symm.trans h
    refine gx_iload_n X 0 rfl dX10_within_9 ?_
    refine gx_iload_n X 2 rfl dX10_within_10 ?_
    refine gx_icmp_le X 18 dX10_within_11 (by decide) (fun q2 => ?_) (fun q2 => ?_)
    · replace h := (if_pos q2).symm.trans h
      refine gx_iload_n X 0 rfl dX10_within_18 ?_
      obtain ⟨rfl, rfl⟩ := ret_eq h
      exact gx_iret X rfl dX10_within_19
    · replace h := (if_neg q2).symm.trans h
      refine gx_iload_n X 2 rfl dX10_within_14 ?_
      refine gx_goto X 19 dX10_within_15 (by decide) ?_
      obtain ⟨rfl, rfl⟩ := ret_eq h
      exact gx_iret X rfl dX10_within_19
  · replace h := (if_neg q1).symm.trans h
    refine gx_iload_n X 1 rfl dX10_within_5 ?_
    refine gx_goto X 19 dX10_within_6 (by decide) ?_
    obtain ⟨rfl, rfl⟩ := ret_eq h
    exact gx_iret X rfl dX10_within_19
theorem dX10_lay_0 : decode cX10_lay 0 = .ok (.aload_n 0, 1) := by decide +kernel
theorem dX10_lay_1 : decode cX10_lay 1 = .ok (.iconst 0, 1) := by decide +kernel
theorem dX10_lay_2 : decode cX10_lay 2 = .ok (.putfield 142, 3) := by decide +kernel
theorem dX10_lay_5 : decode cX10_lay 5 = .ok (.aload_n 0, 1) := by decide +kernel
theorem dX10_lay_6 : decode cX10_lay 6 = .ok (.invokevirtual 111, 3) := by decide +kernel
theorem dX10_lay_9 : decode cX10_lay 9 = .ok (.iconst 0, 1) := by decide +kernel
theorem dX10_lay_10 : decode cX10_lay 10 = .ok (.istore_n 1, 1) := by decide +kernel
theorem dX10_lay_11 : decode cX10_lay 11 = .ok (.iload_n 1, 1) := by decide +kernel
theorem dX10_lay_12 : decode cX10_lay 12 = .ok (.aload_n 0, 1) := by decide +kernel
theorem dX10_lay_13 : decode cX10_lay 13 = .ok (.getfield 21, 3) := by decide +kernel
theorem dX10_lay_16 : decode cX10_lay 16 = .ok (.if_icmp .ge 150, 3) := by decide +kernel
theorem dX10_lay_19 : decode cX10_lay 19 = .ok (.iconst 0, 1) := by decide +kernel
theorem dX10_lay_20 : decode cX10_lay 20 = .ok (.istore_n 2, 1) := by decide +kernel
theorem dX10_lay_21 : decode cX10_lay 21 = .ok (.iload_n 2, 1) := by decide +kernel
theorem dX10_lay_22 : decode cX10_lay 22 = .ok (.aload_n 0, 1) := by decide +kernel
theorem dX10_lay_23 : decode cX10_lay 23 = .ok (.getfield 89, 3) := by decide +kernel
theorem dX10_lay_26 : decode cX10_lay 26 = .ok (.if_icmp .ge 134, 3) := by decide +kernel
theorem dX10_lay_29 : decode cX10_lay 29 = .ok (.aload_n 0, 1) := by decide +kernel
theorem dX10_lay_30 : decode cX10_lay 30 = .ok (.iload_n 1, 1) := by decide +kernel
theorem dX10_lay_31 : decode cX10_lay 31 = .ok (.putfield 157, 3) := by decide +kernel
theorem dX10_lay_34 : decode cX10_lay 34 = .ok (.aload_n 0, 1) := by decide +kernel
theorem dX10_lay_35 : decode cX10_lay 35 = .ok (.iload_n 2, 1) := by decide +kernel
theorem dX10_lay_36 : decode cX10_lay 36 = .ok (.putfield 160, 3) := by decide +kernel
theorem dX10_lay_39 : decode cX10_lay 39 = .ok (.aload_n 0, 1) := by decide +kernel
theorem dX10_lay_40 : decode cX10_lay 40 = .ok (.aload_n 0, 1) := by decide +kernel
theorem dX10_lay_41 : decode cX10_lay 41 = .ok (.getfield 9, 3) := by decide +kernel
theorem dX10_lay_44 : decode cX10_lay 44 = .ok (.iload_n 2, 1) := by decide +kernel
theorem dX10_lay_45 : decode cX10_lay 45 = .ok (.iaload, 1) := by decide +kernel
theorem dX10_lay_46 : decode cX10_lay 46 = .ok (.putfield 163, 3) := by decide +kernel
theorem dX10_lay_49 : decode cX10_lay 49 = .ok (.aload_n 0, 1) := by decide +kernel
theorem dX10_lay_50 : decode cX10_lay 50 = .ok (.aload_n 0, 1) := by decide +kernel
theorem dX10_lay_51 : decode cX10_lay 51 = .ok (.getfield 21, 3) := by decide +kernel
theorem dX10_lay_54 : decode cX10_lay 54 = .ok (.putfield 166, 3) := by decide +kernel
theorem dX10_lay_57 : decode cX10_lay 57 = .ok (.aload_n 0, 1) := by decide +kernel
theorem dX10_lay_58 : decode cX10_lay 58 = .ok (.iload_n 2, 1) := by decide +kernel
theorem dX10_lay_59 : decode cX10_lay 59 = .ok (.ifCond .ne 7, 3) := by decide +kernel
theorem dX10_lay_62 : decode cX10_lay 62 = .ok (.iconst 0, 1) := by decide +kernel
theorem dX10_lay_63 : decode cX10_lay 63 = .ok (.goto 16, 3) := by decide +kernel
theorem dX10_lay_66 : decode cX10_lay 66 = .ok (.aload_n 0, 1) := by decide +kernel
theorem dX10_lay_67 : decode cX10_lay 67 = .ok (.getfield 28, 3) := by decide +kernel
theorem dX10_lay_70 : decode cX10_lay 70 = .ok (.bipush 6, 2) := by decide +kernel
theorem dX10_lay_72 : decode cX10_lay 72 = .ok (.iload_n 1, 1) := by decide +kernel
theorem dX10_lay_73 : decode cX10_lay 73 = .ok (.imul, 1) := by decide +kernel
theorem dX10_lay_74 : decode cX10_lay 74 = .ok (.iload_n 2, 1) := by decide +kernel
theorem dX10_lay_75 : decode cX10_lay 75 = .ok (.iadd, 1) := by decide +kernel
theorem dX10_lay_76 : decode cX10_lay 76 = .ok (.iconst 1, 1) := by decide +kernel
theorem dX10_lay_77 : decode cX10_lay 77 = .ok (.isub, 1) := by decide +kernel
theorem dX10_lay_78 : decode cX10_lay 78 = .ok (.iaload, 1) := by decide +kernel
theorem dX10_lay_79 : decode cX10_lay 79 = .ok (.putfield 169, 3) := by decide +kernel
theorem dX10_lay_82 : decode cX10_lay 82 = .ok (.aload_n 0, 1) := by decide +kernel
theorem dX10_lay_83 : decode cX10_lay 83 = .ok (.iload_n 1, 1) := by decide +kernel
theorem dX10_lay_84 : decode cX10_lay 84 = .ok (.ifCond .ne 7, 3) := by decide +kernel
theorem dX10_lay_87 : decode cX10_lay 87 = .ok (.iconst 0, 1) := by decide +kernel
theorem dX10_lay_88 : decode cX10_lay 88 = .ok (.goto 16, 3) := by decide +kernel
theorem dX10_lay_91 : decode cX10_lay 91 = .ok (.aload_n 0, 1) := by decide +kernel
theorem dX10_lay_92 : decode cX10_lay 92 = .ok (.getfield 28, 3) := by decide +kernel
theorem dX10_lay_95 : decode cX10_lay 95 = .ok (.bipush 6, 2) := by decide +kernel
theorem dX10_lay_97 : decode cX10_lay 97 = .ok (.iload_n 1, 1) := by decide +kernel
theorem dX10_lay_98 : decode cX10_lay 98 = .ok (.iconst 1, 1) := by decide +kernel
theorem dX10_lay_99 : decode cX10_lay 99 = .ok (.isub, 1) := by decide +kernel
theorem dX10_lay_100 : decode cX10_lay 100 = .ok (.imul, 1) := by decide +kernel
theorem dX10_lay_101 : decode cX10_lay 101 = .ok (.iload_n 2, 1) := by decide +kernel
theorem dX10_lay_102 : decode cX10_lay 102 = .ok (.iadd, 1) := by decide +kernel
theorem dX10_lay_103 : decode cX10_lay 103 = .ok (.iaload, 1) := by decide +kernel
theorem dX10_lay_104 : decode cX10_lay 104 = .ok (.putfield 172, 3) := by decide +kernel
theorem dX10_lay_107 : decode cX10_lay 107 = .ok (.aload_n 0, 1) := by decide +kernel
theorem dX10_lay_108 : decode cX10_lay 108 = .ok (.getfield 28, 3) := by decide +kernel
theorem dX10_lay_111 : decode cX10_lay 111 = .ok (.bipush 6, 2) := by decide +kernel
theorem dX10_lay_113 : decode cX10_lay 113 = .ok (.iload_n 1, 1) := by decide +kernel
theorem dX10_lay_114 : decode cX10_lay 114 = .ok (.imul, 1) := by decide +kernel
theorem dX10_lay_115 : decode cX10_lay 115 = .ok (.iload_n 2, 1) := by decide +kernel
theorem dX10_lay_116 : decode cX10_lay 116 = .ok (.iadd, 1) := by decide +kernel
theorem dX10_lay_117 : decode cX10_lay 117 = .ok (.aload_n 0, 1) := by decide +kernel
theorem dX10_lay_118 : decode cX10_lay 118 = .ok (.getfield 212, 3) := by decide +kernel
theorem dX10_lay_121 : decode cX10_lay 121 = .ok (.ifCond .eq 20, 3) := by decide +kernel
theorem dX10_lay_124 : decode cX10_lay 124 = .ok (.aload_n 0, 1) := by decide +kernel
theorem dX10_lay_125 : decode cX10_lay 125 = .ok (.invokevirtual 209, 3) := by decide +kernel
theorem dX10_lay_128 : decode cX10_lay 128 = .ok (.iconst 0, 1) := by decide +kernel
theorem dX10_lay_129 : decode cX10_lay 129 = .ok (.aload_n 0, 1) := by decide +kernel
theorem dX10_lay_130 : decode cX10_lay 130 = .ok (.getfield 9, 3) := by decide +kernel
theorem dX10_lay_133 : decode cX10_lay 133 = .ok (.iload_n 2, 1) := by decide +kernel
theorem dX10_lay_134 : decode cX10_lay 134 = .ok (.iaload, 1) := by decide +kernel
theorem dX10_lay_135 : decode cX10_lay 135 = .ok (.invokestatic 215, 3) := by decide +kernel
theorem dX10_lay_138 : decode cX10_lay 138 = .ok (.goto 15, 3) := by decide +kernel
theorem dX10_lay_141 : decode cX10_lay 141 = .ok (.iload_n 1, 1) := by decide +kernel
theorem dX10_lay_142 : decode cX10_lay 142 = .ok (.iload_n 2, 1) := by decide +kernel
theorem dX10_lay_143 : decode cX10_lay 143 = .ok (.iadd, 1) := by decide +kernel
theorem dX10_lay_144 : decode cX10_lay 144 = .ok (.aload_n 0, 1) := by decide +kernel
theorem dX10_lay_145 : decode cX10_lay 145 = .ok (.getfield 9, 3) := by decide +kernel
theorem dX10_lay_148 : decode cX10_lay 148 = .ok (.iload_n 2, 1) := by decide +kernel
theorem dX10_lay_149 : decode cX10_lay 149 = .ok (.iaload, 1) := by decide +kernel
theorem dX10_lay_150 : decode cX10_lay 150 = .ok (.iconst 1, 1) := by decide +kernel
theorem dX10_lay_151 : decode cX10_lay 151 = .ok (.iadd, 1) := by decide +kernel
theorem dX10_lay_152 : decode cX10_lay 152 = .ok (.irem, 1) := by decide +kernel
theorem dX10_lay_153 : decode cX10_lay 153 = .ok (.iastore, 1) := by decide +kernel
theorem dX10_lay_154 : decode cX10_lay 154 = .ok (.iinc 2 1, 3) := by decide +kernel
theorem dX10_lay_157 : decode cX10_lay 157 = .ok (.goto (-136), 3) := by decide +kernel
theorem dX10_lay_160 : decode cX10_lay 160 = .ok (.iinc 1 1, 3) := by decide +kernel
theorem dX10_lay_163 : decode cX10_lay 163 = .ok (.goto (-152), 3) := by decide +kernel
theorem dX10_lay_166 : decode cX10_lay 166 = .ok (.aload_n 0, 1) := by decide +kernel
theorem dX10_lay_167 : decode cX10_lay 167 = .ok (.invokevirtual 219, 3) := by decide +kernel
theorem dX10_lay_170 : decode cX10_lay 170 = .ok (.ireturn, 1) := by decide +kernel
def m_X10_lay_104 (K21 : Int32 → Int32 → Mm → Option (Int32 × Mm)) (x1 : Int32) (x2 : Int32) (k0 : Int32) (g : Mm) : Option (Int32 × Mm) := (if (rdI (wrI g 40 28 k0) 40 18) = (0 : Int32) then gdd (ixo x2 6) (gdd (decide (¬ ((rdI (wrI g 40 28 k0) 41 x2.toNatClampNeg) + (1 : Int32)) = 0)) (gdd (ixo (((6 : Int32) * x1) + x2) 144) (K21 x1 (x2 + (1 : Int32)) (wrI (wrI g 40 28 k0) 44 (((6 : Int32) * x1) + x2).toNatClampNeg (rmI (x1 + x2) ((rdI (wrI g 40 28 k0) 41 x2.toNatClampNeg) + (1 : Int32))))))) else bdd (m_X10_walks  (wrI g 40 28 k0)) (fun ra5 ga6 => gdd (ixo x2 6) (bdd (m_X10_within ra5 (0 : Int32) (rdI ga6 41 x2.toNatClampNeg) ga6) (fun ra9 ga10 => gdd (ixo (((6 : Int32) * x1) + x2) 144) (K21 x1 (x2 + (1 : Int32)) (wrI ga10 44 (((6 : Int32) * x1) + x2).toNatClampNeg ra9))))))
set_option maxHeartbeats 2000000 in
theorem t_X10_lay_104 {r2 : Int32} {g2 : Mm} (X : gx_X p R s m args meth c D al cI cJ A RX10 cX10_lay 3 (some .int) d 0 0) (hd : 85 ≤ d) {K21 : Int32 → Int32 → Mm → Option (Int32 × Mm)} (hK21 : ∀ (u0 : Int32) (u1 : Int32) (g : Mm), K21 u0 u1 g = some (r2, g2) → gx_G p l e R s m args below meth c (gx_Q below args s D al cI cJ A (some (.int r2)) g2) D al cI cJ A 3 0 0 21 [(0, .ref (al (40))), (1, .int (u0)), (2, .int (u1))] [] g) : ∀ (x1 : Int32) (x2 : Int32) (k0 : Int32) (g : Mm), m_X10_lay_104 K21 x1 x2 k0 g = some (r2, g2) → gx_G p l e R s m args below meth c (gx_Q below args s D al cI cJ A (some (.int r2)) g2) D al cI cJ A 3 0 0 104 [(0, .ref (al (40))), (1, .int (x1)), (2, .int (x2))] [.int (k0), .ref (al (40))] g := by
  intro x1 x2 k0 g h
  unfold m_X10_lay_104 at h
  refine gx_putf X (40) k0 lf_X10_172 lp_X10_28 (by decide) (cl_40 _ _) (Nat.le_of_ble_eq_true rfl) rfl rfl rfl dX10_lay_104 ?_
  refine gx_aload_n X 0 rfl dX10_lay_107 ?_
  refine gx_getf X (40) lf_X10_28 (by decide) (cl_40 _ _) (v := .ref (al (44))) rfl dX10_lay_108 ?_
  refine gx_bipush X (v := (6 : Int32)) dX10_lay_111 (by decide) ?_
  refine gx_iload_n X 1 rfl dX10_lay_113 ?_
  refine gx_imul X dX10_lay_114 ?_
  refine gx_iload_n X 2 rfl dX10_lay_115 ?_
  refine gx_iadd X dX10_lay_116 ?_
  refine gx_aload_n X 0 rfl dX10_lay_117 ?_
  refine gx_getf X (40) lf_X10_212 (by decide) (cl_40 _ _) (v := .int ((rdI (wrI g 40 28 k0) 40 18))) rfl dX10_lay_118 ?_
  refine gx_if_eq X 141 dX10_lay_121 (by decide) (fun q1 => ?_) (fun q1 => ?_)
  · replace h := (if_pos q1).symm.trans h
    refine gx_iload_n X 1 rfl dX10_lay_141 ?_
    refine gx_iload_n X 2 rfl dX10_lay_142 ?_
    refine gx_iadd X dX10_lay_143 ?_
    refine gx_aload_n X 0 rfl dX10_lay_144 ?_
    refine gx_getf X (40) lf_X10_9 (by decide) (cl_40 _ _) (v := .ref (al (41))) rfl dX10_lay_145 ?_
    refine gx_iload_n X 2 rfl dX10_lay_148 ?_
    obtain ⟨q2, h⟩ := gdd_eq h
    refine gx_iald X (41) 6 (by decide) (cl_41 _ _) q2 dX10_lay_149 ?_
    refine gx_iconst X (v := (1 : Int32)) dX10_lay_150 (by decide) ?_
    refine gx_iadd X dX10_lay_151 ?_
    obtain ⟨q3, h⟩ := gdd_eq h
    refine gx_irem X dX10_lay_152 (of_decide_eq_true q3) ?_
    obtain ⟨q4, h⟩ := gdd_eq h
    refine gx_iast X (44) 144 (by decide) (fun r => cl_44 r _) q4 dX10_lay_153 ?_
    refine gx_iinc X [(2, .int ((x2 + (1 : Int32)))), (0, .ref (al (40))), (1, .int (x1))] 2 dX10_lay_154 rfl rfl (by decide) rfl ?_
    refine gx_goto X 21 dX10_lay_157 (by decide) ?_
    exact gx_sub [1, 2, 0] rfl (hK21 x1 (x2 + (1 : Int32)) (wrI (wrI g 40 28 k0) 44 (((6 : Int32) * x1) + x2).toNatClampNeg (rmI (x1 + x2) ((rdI (wrI g 40 28 k0) 41 x2.toNatClampNeg) + (1 : Int32)))) h)
  · replace h := (if_neg q1).symm.trans h
    refine gx_aload_n X 0 rfl dX10_lay_124 ?_
    obtain ⟨ra5, ga6, ca7, h⟩ := bdd_eq h
    refine gx_callVi X (40) (c_X10_walks ca7) lc_X10_walks li_X10_walks lm_X10_209 (by decide) (cl_40 _ _) rfl rfl rfl (Nat.le_trans (by decide) hd) rfl (Nat.le_of_ble_eq_true rfl) dX10_lay_125 ?_
    refine gx_iconst X (v := (0 : Int32)) dX10_lay_128 (by decide) ?_
    refine gx_aload_n X 0 rfl dX10_lay_129 ?_
    refine gx_getf X (40) lf_X10_9 (by decide) (cl_40 _ _) (v := .ref (al (41))) rfl dX10_lay_130 ?_
    refine gx_iload_n X 2 rfl dX10_lay_133 ?_
    obtain ⟨q8, h⟩ := gdd_eq h
    refine gx_iald X (41) 6 (by decide) (cl_41 _ _) q8 dX10_lay_134 ?_
    obtain ⟨ra9, ga10, ca11, h⟩ := bdd_eq h
    refine gx_callSi X (c_X10_within ca11) lc_X10_within li_X10_within lm_X10_215 rfl rfl (Nat.le_trans (by decide) hd) rfl (Nat.le_of_ble_eq_true rfl) dX10_lay_135 ?_
    refine gx_goto X 153 dX10_lay_138 (by decide) ?_
    obtain ⟨q12, h⟩ := gdd_eq h
    refine gx_iast X (44) 144 (by decide) (fun r => cl_44 r _) q12 dX10_lay_153 ?_
    refine gx_iinc X [(2, .int ((x2 + (1 : Int32)))), (0, .ref (al (40))), (1, .int (x1))] 2 dX10_lay_154 rfl rfl (by decide) rfl ?_
    refine gx_goto X 21 dX10_lay_157 (by decide) ?_
    exact gx_sub [1, 2, 0] rfl (hK21 x1 (x2 + (1 : Int32)) (wrI ga10 44 (((6 : Int32) * x1) + x2).toNatClampNeg ra9) h)
def m_X10_lay_79 (K21 : Int32 → Int32 → Mm → Option (Int32 × Mm)) (x1 : Int32) (x2 : Int32) (k0 : Int32) (g : Mm) : Option (Int32 × Mm) := (if x1 = (0 : Int32) then m_X10_lay_104 (K21) x1 x2 (0 : Int32) (wrI g 40 27 k0) else gdd (ixo (((6 : Int32) * (x1 - (1 : Int32))) + x2) 144) (m_X10_lay_104 (K21) x1 x2 (rdI (wrI g 40 27 k0) 44 (((6 : Int32) * (x1 - (1 : Int32))) + x2).toNatClampNeg) (wrI g 40 27 k0)))
set_option maxHeartbeats 2000000 in
theorem t_X10_lay_79 {r2 : Int32} {g2 : Mm} (X : gx_X p R s m args meth c D al cI cJ A RX10 cX10_lay 3 (some .int) d 0 0) (hd : 85 ≤ d) {K21 : Int32 → Int32 → Mm → Option (Int32 × Mm)} (hK21 : ∀ (u0 : Int32) (u1 : Int32) (g : Mm), K21 u0 u1 g = some (r2, g2) → gx_G p l e R s m args below meth c (gx_Q below args s D al cI cJ A (some (.int r2)) g2) D al cI cJ A 3 0 0 21 [(0, .ref (al (40))), (1, .int (u0)), (2, .int (u1))] [] g) : ∀ (x1 : Int32) (x2 : Int32) (k0 : Int32) (g : Mm), m_X10_lay_79 K21 x1 x2 k0 g = some (r2, g2) → gx_G p l e R s m args below meth c (gx_Q below args s D al cI cJ A (some (.int r2)) g2) D al cI cJ A 3 0 0 79 [(0, .ref (al (40))), (1, .int (x1)), (2, .int (x2))] [.int (k0), .ref (al (40))] g := by
  intro x1 x2 k0 g h
  unfold m_X10_lay_79 at h
  refine gx_putf X (40) k0 lf_X10_169 lp_X10_27 (by decide) (cl_40 _ _) (Nat.le_of_ble_eq_true rfl) rfl rfl rfl dX10_lay_79 ?_
  refine gx_aload_n X 0 rfl dX10_lay_82 ?_
  refine gx_iload_n X 1 rfl dX10_lay_83 ?_
  refine gx_if_ne X 91 dX10_lay_84 (by decide) (fun q1 => ?_) (fun q1 => ?_)
  · replace h := (if_neg q1).symm.trans h
    refine gx_aload_n X 0 rfl dX10_lay_91 ?_
    refine gx_getf X (40) lf_X10_28 (by decide) (cl_40 _ _) (v := .ref (al (44))) rfl dX10_lay_92 ?_
    refine gx_bipush X (v := (6 : Int32)) dX10_lay_95 (by decide) ?_
    refine gx_iload_n X 1 rfl dX10_lay_97 ?_
    refine gx_iconst X (v := (1 : Int32)) dX10_lay_98 (by decide) ?_
    refine gx_isub X dX10_lay_99 ?_
    refine gx_imul X dX10_lay_100 ?_
    refine gx_iload_n X 2 rfl dX10_lay_101 ?_
    refine gx_iadd X dX10_lay_102 ?_
    obtain ⟨q2, h⟩ := gdd_eq h
    refine gx_iald X (44) 144 (by decide) (cl_44 _ _) q2 dX10_lay_103 ?_
    exact gx_sub [0, 1, 2] rfl (t_X10_lay_104 X hd (fun u0 u1 g h => hK21 u0 u1 g h) x1 x2 (rdI (wrI g 40 27 k0) 44 (((6 : Int32) * (x1 - (1 : Int32))) + x2).toNatClampNeg) (wrI g 40 27 k0) h)
  · replace h := (if_pos q1).symm.trans h
    refine gx_iconst X (v := (0 : Int32)) dX10_lay_87 (by decide) ?_
    refine gx_goto X 104 dX10_lay_88 (by decide) ?_
    exact gx_sub [0, 1, 2] rfl (t_X10_lay_104 X hd (fun u0 u1 g h => hK21 u0 u1 g h) x1 x2 (0 : Int32) (wrI g 40 27 k0) h)
def m_X10_lay_21 (K11 : Int32 → Mm → Option (Int32 × Mm)) : Nat → Int32 → Int32 → Mm → Option (Int32 × Mm)
  | 0, _, _, _ => none
  | n + 1, x1, x2, g => (if (rdI g 40 4) ≤ x2 then K11 (x1 + (1 : Int32)) g else gdd (ixo x2 6) ((if x2 = (0 : Int32) then m_X10_lay_79 (m_X10_lay_21 K11 n) x1 x2 (0 : Int32) (wrI (wrI (wrI (wrI g 40 23 x1) 40 24 x2) 40 25 (rdI (wrI (wrI g 40 23 x1) 40 24 x2) 41 x2.toNatClampNeg)) 40 26 (rdI (wrI (wrI (wrI g 40 23 x1) 40 24 x2) 40 25 (rdI (wrI (wrI g 40 23 x1) 40 24 x2) 41 x2.toNatClampNeg)) 40 5)) else gdd (ixo ((((6 : Int32) * x1) + x2) - (1 : Int32)) 144) (m_X10_lay_79 (m_X10_lay_21 K11 n) x1 x2 (rdI (wrI (wrI (wrI (wrI g 40 23 x1) 40 24 x2) 40 25 (rdI (wrI (wrI g 40 23 x1) 40 24 x2) 41 x2.toNatClampNeg)) 40 26 (rdI (wrI (wrI (wrI g 40 23 x1) 40 24 x2) 40 25 (rdI (wrI (wrI g 40 23 x1) 40 24 x2) 41 x2.toNatClampNeg)) 40 5)) 44 ((((6 : Int32) * x1) + x2) - (1 : Int32)).toNatClampNeg) (wrI (wrI (wrI (wrI g 40 23 x1) 40 24 x2) 40 25 (rdI (wrI (wrI g 40 23 x1) 40 24 x2) 41 x2.toNatClampNeg)) 40 26 (rdI (wrI (wrI (wrI g 40 23 x1) 40 24 x2) 40 25 (rdI (wrI (wrI g 40 23 x1) 40 24 x2) 41 x2.toNatClampNeg)) 40 5))))))
set_option maxHeartbeats 2000000 in
theorem t_X10_lay_21 {r2 : Int32} {g2 : Mm} (X : gx_X p R s m args meth c D al cI cJ A RX10 cX10_lay 3 (some .int) d 0 0) (hd : 85 ≤ d) {K11 : Int32 → Mm → Option (Int32 × Mm)} (hK11 : ∀ (u0 : Int32) (g : Mm), K11 u0 g = some (r2, g2) → gx_G p l e R s m args below meth c (gx_Q below args s D al cI cJ A (some (.int r2)) g2) D al cI cJ A 3 0 0 11 [(0, .ref (al (40))), (1, .int (u0))] [] g) : ∀ (n : Nat) (x1 : Int32) (x2 : Int32) (g : Mm), m_X10_lay_21 K11 n x1 x2 g = some (r2, g2) → gx_G p l e R s m args below meth c (gx_Q below args s D al cI cJ A (some (.int r2)) g2) D al cI cJ A 3 0 0 21 [(0, .ref (al (40))), (1, .int (x1)), (2, .int (x2))] [] g := by
  intro n
  induction n with
  | zero => intro x1 x2 g h; cases h
  | succ n ih =>
    intro x1 x2 g h
    rw [m_X10_lay_21] at h
    refine gx_iload_n X 2 rfl dX10_lay_21 ?_
    refine gx_aload_n X 0 rfl dX10_lay_22 ?_
    refine gx_getf X (40) lf_X10_89 (by decide) (cl_40 _ _) (v := .int ((rdI g 40 4))) rfl dX10_lay_23 ?_
    refine gx_icmp_ge X 160 dX10_lay_26 (by decide) (fun q1 => ?_) (fun q1 => ?_)
    · replace h := (if_pos q1).symm.trans h
      refine gx_iinc X [(1, .int ((x1 + (1 : Int32)))), (0, .ref (al (40))), (2, .int (x2))] 1 dX10_lay_160 rfl rfl (by decide) rfl ?_
      refine gx_goto X 11 dX10_lay_163 (by decide) ?_
      exact gx_sub [1, 0] rfl (hK11 (x1 + (1 : Int32)) g h)
    · replace h := (if_neg q1).symm.trans h
      refine gx_aload_n X 0 rfl dX10_lay_29 ?_
      refine gx_iload_n X 1 rfl dX10_lay_30 ?_
      refine gx_putf X (40) x1 lf_X10_157 lp_X10_23 (by decide) (cl_40 _ _) (Nat.le_of_ble_eq_true rfl) rfl rfl rfl dX10_lay_31 ?_
      refine gx_aload_n X 0 rfl dX10_lay_34 ?_
      refine gx_iload_n X 2 rfl dX10_lay_35 ?_
      refine gx_putf X (40) x2 lf_X10_160 lp_X10_24 (by decide) (cl_40 _ _) (Nat.le_of_ble_eq_true rfl) rfl rfl rfl dX10_lay_36 ?_
      refine gx_aload_n X 0 rfl dX10_lay_39 ?_
      refine gx_aload_n X 0 rfl dX10_lay_40 ?_
      refine gx_getf X (40) lf_X10_9 (by decide) (cl_40 _ _) (v := .ref (al (41))) rfl dX10_lay_41 ?_
      refine gx_iload_n X 2 rfl dX10_lay_44 ?_
      obtain ⟨q2, h⟩ := gdd_eq h
      refine gx_iald X (41) 6 (by decide) (cl_41 _ _) q2 dX10_lay_45 ?_
      refine gx_putf X (40) (rdI (wrI (wrI g 40 23 x1) 40 24 x2) 41 x2.toNatClampNeg) lf_X10_163 lp_X10_25 (by decide) (cl_40 _ _) (Nat.le_of_ble_eq_true rfl) rfl rfl rfl dX10_lay_46 ?_
      refine gx_aload_n X 0 rfl dX10_lay_49 ?_
      refine gx_aload_n X 0 rfl dX10_lay_50 ?_
      refine gx_getf X (40) lf_X10_21 (by decide) (cl_40 _ _) (v := .int ((rdI (wrI (wrI (wrI g 40 23 x1) 40 24 x2) 40 25 (rdI (wrI (wrI g 40 23 x1) 40 24 x2) 41 x2.toNatClampNeg)) 40 5))) rfl dX10_lay_51 ?_
      refine gx_putf X (40) (rdI (wrI (wrI (wrI g 40 23 x1) 40 24 x2) 40 25 (rdI (wrI (wrI g 40 23 x1) 40 24 x2) 41 x2.toNatClampNeg)) 40 5) lf_X10_166 lp_X10_26 (by decide) (cl_40 _ _) (Nat.le_of_ble_eq_true rfl) rfl rfl rfl dX10_lay_54 ?_
      refine gx_aload_n X 0 rfl dX10_lay_57 ?_
      refine gx_iload_n X 2 rfl dX10_lay_58 ?_
      refine gx_if_ne X 66 dX10_lay_59 (by decide) (fun q3 => ?_) (fun q3 => ?_)
      · replace h := (if_neg q3).symm.trans h
        refine gx_aload_n X 0 rfl dX10_lay_66 ?_
        refine gx_getf X (40) lf_X10_28 (by decide) (cl_40 _ _) (v := .ref (al (44))) rfl dX10_lay_67 ?_
        refine gx_bipush X (v := (6 : Int32)) dX10_lay_70 (by decide) ?_
        refine gx_iload_n X 1 rfl dX10_lay_72 ?_
        refine gx_imul X dX10_lay_73 ?_
        refine gx_iload_n X 2 rfl dX10_lay_74 ?_
        refine gx_iadd X dX10_lay_75 ?_
        refine gx_iconst X (v := (1 : Int32)) dX10_lay_76 (by decide) ?_
        refine gx_isub X dX10_lay_77 ?_
        obtain ⟨q4, h⟩ := gdd_eq h
        refine gx_iald X (44) 144 (by decide) (cl_44 _ _) q4 dX10_lay_78 ?_
        exact gx_sub [0, 1, 2] rfl (t_X10_lay_79 X hd (fun u0 u1 g h => ih u0 u1 g h) x1 x2 (rdI (wrI (wrI (wrI (wrI g 40 23 x1) 40 24 x2) 40 25 (rdI (wrI (wrI g 40 23 x1) 40 24 x2) 41 x2.toNatClampNeg)) 40 26 (rdI (wrI (wrI (wrI g 40 23 x1) 40 24 x2) 40 25 (rdI (wrI (wrI g 40 23 x1) 40 24 x2) 41 x2.toNatClampNeg)) 40 5)) 44 ((((6 : Int32) * x1) + x2) - (1 : Int32)).toNatClampNeg) (wrI (wrI (wrI (wrI g 40 23 x1) 40 24 x2) 40 25 (rdI (wrI (wrI g 40 23 x1) 40 24 x2) 41 x2.toNatClampNeg)) 40 26 (rdI (wrI (wrI (wrI g 40 23 x1) 40 24 x2) 40 25 (rdI (wrI (wrI g 40 23 x1) 40 24 x2) 41 x2.toNatClampNeg)) 40 5)) h)
      · replace h := (if_pos q3).symm.trans h
        refine gx_iconst X (v := (0 : Int32)) dX10_lay_62 (by decide) ?_
        refine gx_goto X 79 dX10_lay_63 (by decide) ?_
        exact gx_sub [0, 1, 2] rfl (t_X10_lay_79 X hd (fun u0 u1 g h => ih u0 u1 g h) x1 x2 (0 : Int32) (wrI (wrI (wrI (wrI g 40 23 x1) 40 24 x2) 40 25 (rdI (wrI (wrI g 40 23 x1) 40 24 x2) 41 x2.toNatClampNeg)) 40 26 (rdI (wrI (wrI (wrI g 40 23 x1) 40 24 x2) 40 25 (rdI (wrI (wrI g 40 23 x1) 40 24 x2) 41 x2.toNatClampNeg)) 40 5)) h)
def m_X10_lay_11 : Nat → Int32 → Mm → Option (Int32 × Mm)
  | 0, _, _ => none
  | n + 1, x1, g => (if (rdI g 40 5) ≤ x1 then bdd (m_X10_sumAll  g) (fun ra2 ga3 => some (ra2, ga3)) else m_X10_lay_21 (m_X10_lay_11 n) fuL x1 (0 : Int32) g)
set_option maxHeartbeats 2000000 in
theorem t_X10_lay_11 {r2 : Int32} {g2 : Mm} (X : gx_X p R s m args meth c D al cI cJ A RX10 cX10_lay 3 (some .int) d 0 0) (hd : 85 ≤ d) : ∀ (n : Nat) (x1 : Int32) (g : Mm), m_X10_lay_11 n x1 g = some (r2, g2) → gx_G p l e R s m args below meth c (gx_Q below args s D al cI cJ A (some (.int r2)) g2) D al cI cJ A 3 0 0 11 [(0, .ref (al (40))), (1, .int (x1))] [] g := by
  intro n
  induction n with
  | zero => intro x1 g h; cases h
  | succ n ih =>
    intro x1 g h
    rw [m_X10_lay_11] at h
    refine gx_iload_n X 1 rfl dX10_lay_11 ?_
    refine gx_aload_n X 0 rfl dX10_lay_12 ?_
    refine gx_getf X (40) lf_X10_21 (by decide) (cl_40 _ _) (v := .int ((rdI g 40 5))) rfl dX10_lay_13 ?_
    refine gx_icmp_ge X 166 dX10_lay_16 (by decide) (fun q1 => ?_) (fun q1 => ?_)
    · replace h := (if_pos q1).symm.trans h
      refine gx_aload_n X 0 rfl dX10_lay_166 ?_
      obtain ⟨ra2, ga3, ca4, h⟩ := bdd_eq h
      refine gx_callVi X (40) (c_X10_sumAll ca4) lc_X10_sumAll li_X10_sumAll lm_X10_219 (by decide) (cl_40 _ _) rfl rfl rfl (Nat.le_trans (by decide) hd) rfl (Nat.le_of_ble_eq_true rfl) dX10_lay_167 ?_
      obtain ⟨rfl, rfl⟩ := ret_eq h
      exact gx_iret X rfl dX10_lay_170
    · replace h := (if_neg q1).symm.trans h
      refine gx_iconst X (v := (0 : Int32)) dX10_lay_19 (by decide) ?_
      refine gx_istore_n X [(2, .int ((0 : Int32))), (0, .ref (al (40))), (1, .int (x1))] dX10_lay_20 (by decide) rfl ?_
      exact gx_sub [1, 2, 0] rfl (t_X10_lay_21 X hd (fun u0 g h => ih u0 g h) fuL x1 (0 : Int32) g h)
def m_X10_lay (g : Mm) : Option (Int32 × Mm) := bdd (m_X10_forgets  (wrI g 40 19 (0 : Int32))) (fun ra1 ga2 => m_X10_lay_11 fuL (0 : Int32) ga2)
set_option maxHeartbeats 2000000 in
theorem c_X10_lay {r2 : Int32} {g g2 : Mm} (h : m_X10_lay g = some (r2, g2)) : gx_M 85 yX10_lay cX10_lay 3 (some .int) (fun al => [.ref (al (40))]) g (some (.int r2)) g2 := by
  have hd : 85 ≤ 85 := Nat.le_refl _
  refine gx_M.of (by decide +kernel) (fun _ => Nat.le_of_ble_eq_true rfl) ?_
  intro p l e R s m args below meth c D al cI cJ A X
  refine gx_eq (pc' := 0) (ls' := [(0, .ref (al (40)))]) (st' := []) (g' := g) ⟨rfl, rfl, rfl, rfl⟩ ?_
  unfold m_X10_lay at h
  refine gx_aload_n X 0 rfl dX10_lay_0 ?_
  refine gx_iconst X (v := (0 : Int32)) dX10_lay_1 (by decide) ?_
  refine gx_putf X (40) (0 : Int32) lf_X10_142 lp_X10_19 (by decide) (cl_40 _ _) (Nat.le_of_ble_eq_true rfl) rfl rfl rfl dX10_lay_2 ?_
  refine gx_aload_n X 0 rfl dX10_lay_5 ?_
  obtain ⟨ra1, ga2, ca3, h⟩ := bdd_eq h
  refine gx_callVv X (40) (c_X10_forgets ca3) lc_X10_forgets li_X10_forgets lm_X10_111 (by decide) (cl_40 _ _) rfl rfl rfl (Nat.le_trans (by decide) hd) rfl (Nat.le_of_ble_eq_true rfl) dX10_lay_6 ?_
  refine gx_iconst X (v := (0 : Int32)) dX10_lay_9 (by decide) ?_
  refine gx_istore_n X [(1, .int ((0 : Int32))), (0, .ref (al (40)))] dX10_lay_10 (by decide) rfl ?_
  exact gx_sub [1, 0] rfl (t_X10_lay_11 X hd fuL (0 : Int32) ga2 h)
theorem dX10_least_0 : decode cX10_least 0 = .ok (.iload_n 1, 1) := by decide +kernel
theorem dX10_least_1 : decode cX10_least 1 = .ok (.iconst (-1), 1) := by decide +kernel
theorem dX10_least_2 : decode cX10_least 2 = .ok (.if_icmp .eq 13, 3) := by decide +kernel
theorem dX10_least_5 : decode cX10_least 5 = .ok (.aload_n 0, 1) := by decide +kernel
theorem dX10_least_6 : decode cX10_least 6 = .ok (.iload_n 1, 1) := by decide +kernel
theorem dX10_least_7 : decode cX10_least 7 = .ok (.invokevirtual 124, 3) := by decide +kernel
theorem dX10_least_10 : decode cX10_least 10 = .ok (.ifCond .ne 5, 3) := by decide +kernel
theorem dX10_least_13 : decode cX10_least 13 = .ok (.iconst (-1), 1) := by decide +kernel
theorem dX10_least_14 : decode cX10_least 14 = .ok (.ireturn, 1) := by decide +kernel
theorem dX10_least_15 : decode cX10_least 15 = .ok (.aload_n 0, 1) := by decide +kernel
theorem dX10_least_16 : decode cX10_least 16 = .ok (.getfield 89, 3) := by decide +kernel
theorem dX10_least_19 : decode cX10_least 19 = .ok (.ifCond .eq 26, 3) := by decide +kernel
theorem dX10_least_22 : decode cX10_least 22 = .ok (.aload_n 0, 1) := by decide +kernel
theorem dX10_least_23 : decode cX10_least 23 = .ok (.getfield 89, 3) := by decide +kernel
theorem dX10_least_26 : decode cX10_least 26 = .ok (.iconst 3, 1) := by decide +kernel
theorem dX10_least_27 : decode cX10_least 27 = .ok (.if_icmp .gt 18, 3) := by decide +kernel
theorem dX10_least_30 : decode cX10_least 30 = .ok (.aload_n 0, 1) := by decide +kernel
theorem dX10_least_31 : decode cX10_least 31 = .ok (.getfield 21, 3) := by decide +kernel
theorem dX10_least_34 : decode cX10_least 34 = .ok (.iconst 4, 1) := by decide +kernel
theorem dX10_least_35 : decode cX10_least 35 = .ok (.if_icmp .gt 10, 3) := by decide +kernel
theorem dX10_least_38 : decode cX10_least 38 = .ok (.aload_n 0, 1) := by decide +kernel
theorem dX10_least_39 : decode cX10_least 39 = .ok (.invokevirtual 297, 3) := by decide +kernel
theorem dX10_least_42 : decode cX10_least 42 = .ok (.ifCond .ne 6, 3) := by decide +kernel
theorem dX10_least_45 : decode cX10_least 45 = .ok (.bipush (-5), 2) := by decide +kernel
theorem dX10_least_47 : decode cX10_least 47 = .ok (.ireturn, 1) := by decide +kernel
theorem dX10_least_48 : decode cX10_least 48 = .ok (.aload_n 0, 1) := by decide +kernel
theorem dX10_least_49 : decode cX10_least 49 = .ok (.invokevirtual 301, 3) := by decide +kernel
theorem dX10_least_52 : decode cX10_least 52 = .ok (.iconst 0, 1) := by decide +kernel
theorem dX10_least_53 : decode cX10_least 53 = .ok (.istore_n 2, 1) := by decide +kernel
theorem dX10_least_54 : decode cX10_least 54 = .ok (.iload_n 2, 1) := by decide +kernel
theorem dX10_least_55 : decode cX10_least 55 = .ok (.sipush 144, 3) := by decide +kernel
theorem dX10_least_58 : decode cX10_least 58 = .ok (.if_icmp .ge 16, 3) := by decide +kernel
theorem dX10_least_61 : decode cX10_least 61 = .ok (.aload_n 0, 1) := by decide +kernel
theorem dX10_least_62 : decode cX10_least 62 = .ok (.getfield 28, 3) := by decide +kernel
theorem dX10_least_65 : decode cX10_least 65 = .ok (.iload_n 2, 1) := by decide +kernel
theorem dX10_least_66 : decode cX10_least 66 = .ok (.iconst 0, 1) := by decide +kernel
theorem dX10_least_67 : decode cX10_least 67 = .ok (.iastore, 1) := by decide +kernel
theorem dX10_least_68 : decode cX10_least 68 = .ok (.iinc 2 1, 3) := by decide +kernel
theorem dX10_least_71 : decode cX10_least 71 = .ok (.goto (-17), 3) := by decide +kernel
theorem dX10_least_74 : decode cX10_least 74 = .ok (.bipush (-2), 2) := by decide +kernel
theorem dX10_least_76 : decode cX10_least 76 = .ok (.istore_n 2, 1) := by decide +kernel
theorem dX10_least_77 : decode cX10_least 77 = .ok (.iconst 1, 1) := by decide +kernel
theorem dX10_least_78 : decode cX10_least 78 = .ok (.istore_n 3, 1) := by decide +kernel
theorem dX10_least_79 : decode cX10_least 79 = .ok (.iload_n 3, 1) := by decide +kernel
theorem dX10_least_80 : decode cX10_least 80 = .ok (.ifCond .eq 55, 3) := by decide +kernel
theorem dX10_least_83 : decode cX10_least 83 = .ok (.aload_n 0, 1) := by decide +kernel
theorem dX10_least_84 : decode cX10_least 84 = .ok (.invokevirtual 219, 3) := by decide +kernel
theorem dX10_least_87 : decode cX10_least 87 = .ok (.istore 4, 2) := by decide +kernel
theorem dX10_least_89 : decode cX10_least 89 = .ok (.iload_n 2, 1) := by decide +kernel
theorem dX10_least_90 : decode cX10_least 90 = .ok (.bipush (-2), 2) := by decide +kernel
theorem dX10_least_92 : decode cX10_least 92 = .ok (.if_icmp .eq 9, 3) := by decide +kernel
theorem dX10_least_95 : decode cX10_least 95 = .ok (.iload 4, 2) := by decide +kernel
theorem dX10_least_97 : decode cX10_least 97 = .ok (.iload_n 2, 1) := by decide +kernel
theorem dX10_least_98 : decode cX10_least 98 = .ok (.if_icmp .ge 29, 3) := by decide +kernel
theorem dX10_least_101 : decode cX10_least 101 = .ok (.aload_n 0, 1) := by decide +kernel
theorem dX10_least_102 : decode cX10_least 102 = .ok (.iconst 1, 1) := by decide +kernel
theorem dX10_least_103 : decode cX10_least 103 = .ok (.aload_n 0, 1) := by decide +kernel
theorem dX10_least_104 : decode cX10_least 104 = .ok (.getfield 89, 3) := by decide +kernel
theorem dX10_least_107 : decode cX10_least 107 = .ok (.ishl, 1) := by decide +kernel
theorem dX10_least_108 : decode cX10_least 108 = .ok (.iconst 1, 1) := by decide +kernel
theorem dX10_least_109 : decode cX10_least 109 = .ok (.isub, 1) := by decide +kernel
theorem dX10_least_110 : decode cX10_least 110 = .ok (.aload_n 0, 1) := by decide +kernel
theorem dX10_least_111 : decode cX10_least 111 = .ok (.invokevirtual 251, 3) := by decide +kernel
theorem dX10_least_114 : decode cX10_least 114 = .ok (.invokevirtual 254, 3) := by decide +kernel
theorem dX10_least_117 : decode cX10_least 117 = .ok (.ifCond .eq 10, 3) := by decide +kernel
theorem dX10_least_120 : decode cX10_least 120 = .ok (.iload 4, 2) := by decide +kernel
theorem dX10_least_122 : decode cX10_least 122 = .ok (.istore_n 2, 1) := by decide +kernel
theorem dX10_least_123 : decode cX10_least 123 = .ok (.aload_n 0, 1) := by decide +kernel
theorem dX10_least_124 : decode cX10_least 124 = .ok (.invokevirtual 304, 3) := by decide +kernel
theorem dX10_least_127 : decode cX10_least 127 = .ok (.aload_n 0, 1) := by decide +kernel
theorem dX10_least_128 : decode cX10_least 128 = .ok (.invokevirtual 307, 3) := by decide +kernel
theorem dX10_least_131 : decode cX10_least 131 = .ok (.istore_n 3, 1) := by decide +kernel
theorem dX10_least_132 : decode cX10_least 132 = .ok (.goto (-53), 3) := by decide +kernel
theorem dX10_least_135 : decode cX10_least 135 = .ok (.aload_n 0, 1) := by decide +kernel
theorem dX10_least_136 : decode cX10_least 136 = .ok (.invokevirtual 310, 3) := by decide +kernel
theorem dX10_least_139 : decode cX10_least 139 = .ok (.iload_n 2, 1) := by decide +kernel
theorem dX10_least_140 : decode cX10_least 140 = .ok (.bipush (-2), 2) := by decide +kernel
theorem dX10_least_142 : decode cX10_least 142 = .ok (.if_icmp .eq 8, 3) := by decide +kernel
theorem dX10_least_145 : decode cX10_least 145 = .ok (.iload_n 1, 1) := by decide +kernel
theorem dX10_least_146 : decode cX10_least 146 = .ok (.iconst (-1), 1) := by decide +kernel
theorem dX10_least_147 : decode cX10_least 147 = .ok (.if_icmp .ne 7, 3) := by decide +kernel
theorem dX10_least_150 : decode cX10_least 150 = .ok (.iload_n 2, 1) := by decide +kernel
theorem dX10_least_151 : decode cX10_least 151 = .ok (.goto 20, 3) := by decide +kernel
theorem dX10_least_154 : decode cX10_least 154 = .ok (.aload_n 0, 1) := by decide +kernel
theorem dX10_least_155 : decode cX10_least 155 = .ok (.getfield 55, 3) := by decide +kernel
theorem dX10_least_158 : decode cX10_least 158 = .ok (.bipush 6, 2) := by decide +kernel
theorem dX10_least_160 : decode cX10_least 160 = .ok (.iload_n 1, 1) := by decide +kernel
theorem dX10_least_161 : decode cX10_least 161 = .ok (.bipush 10, 2) := by decide +kernel
theorem dX10_least_163 : decode cX10_least 163 = .ok (.idiv, 1) := by decide +kernel
theorem dX10_least_164 : decode cX10_least 164 = .ok (.imul, 1) := by decide +kernel
theorem dX10_least_165 : decode cX10_least 165 = .ok (.iload_n 1, 1) := by decide +kernel
theorem dX10_least_166 : decode cX10_least 166 = .ok (.bipush 10, 2) := by decide +kernel
theorem dX10_least_168 : decode cX10_least 168 = .ok (.irem, 1) := by decide +kernel
theorem dX10_least_169 : decode cX10_least 169 = .ok (.iadd, 1) := by decide +kernel
theorem dX10_least_170 : decode cX10_least 170 = .ok (.iaload, 1) := by decide +kernel
theorem dX10_least_171 : decode cX10_least 171 = .ok (.ireturn, 1) := by decide +kernel
def m_X10_least_127 (K79 : Int32 → Int32 → Int32 → Mm → Option (Int32 × Mm)) (x1 : Int32) (x2 : Int32) (g : Mm) : Option (Int32 × Mm) := bdd (m_X10_counts  g) (fun ra1 ga2 => K79 x1 x2 ra1 ga2)
set_option maxHeartbeats 2000000 in
theorem t_X10_least_127 {r2 : Int32} {g2 : Mm} (X : gx_X p R s m args meth c D al cI cJ A RX10 cX10_least 5 (some .int) d 0 0) (hd : 4 ≤ d) {K79 : Int32 → Int32 → Int32 → Mm → Option (Int32 × Mm)} (hK79 : ∀ (u0 : Int32) (u1 : Int32) (u2 : Int32) (g : Mm), K79 u0 u1 u2 g = some (r2, g2) → gx_G p l e R s m args below meth c (gx_Q below args s D al cI cJ A (some (.int r2)) g2) D al cI cJ A 5 0 0 79 [(0, .ref (al (40))), (1, .int (u0)), (2, .int (u1)), (3, .int (u2))] [] g) : ∀ (x1 : Int32) (x2 : Int32) (g : Mm), m_X10_least_127 K79 x1 x2 g = some (r2, g2) → gx_G p l e R s m args below meth c (gx_Q below args s D al cI cJ A (some (.int r2)) g2) D al cI cJ A 5 0 0 127 [(0, .ref (al (40))), (1, .int (x1)), (2, .int (x2))] [] g := by
  intro x1 x2 g h
  unfold m_X10_least_127 at h
  refine gx_aload_n X 0 rfl dX10_least_127 ?_
  obtain ⟨ra1, ga2, ca3, h⟩ := bdd_eq h
  refine gx_callVi X (40) (c_X10_counts ca3) lc_X10_counts li_X10_counts lm_X10_307 (by decide) (cl_40 _ _) rfl rfl rfl (Nat.le_trans (by decide) hd) rfl (Nat.le_of_ble_eq_true rfl) dX10_least_128 ?_
  refine gx_istore_n X [(3, .int (ra1)), (0, .ref (al (40))), (1, .int (x1)), (2, .int (x2))] dX10_least_131 (by decide) rfl ?_
  refine gx_goto X 79 dX10_least_132 (by decide) ?_
  exact gx_sub [1, 2, 3, 0] rfl (hK79 x1 x2 ra1 ga2 h)
def m_X10_least_101 (K127 : Int32 → Int32 → Mm → Option (Int32 × Mm)) (x1 : Int32) (x2 : Int32) (x4 : Int32) (g : Mm) : Option (Int32 × Mm) := bdd (m_X10_heardNow  g) (fun ra1 ga2 => bdd (m_X10_tellsBy ((shlI (1 : Int32) (rdI g 40 4)) - (1 : Int32)) ra1 ga2) (fun ra4 ga5 => (if ra4 = (0 : Int32) then K127 x1 x2 ga5 else bdd (m_X10_keepsBest  ga5) (fun ra8 ga9 => K127 x1 x4 ga9))))
set_option maxHeartbeats 2000000 in
theorem t_X10_least_101 {r2 : Int32} {g2 : Mm} (X : gx_X p R s m args meth c D al cI cJ A RX10 cX10_least 5 (some .int) d 0 0) (hd : 4 ≤ d) {K127 : Int32 → Int32 → Mm → Option (Int32 × Mm)} (hK127 : ∀ (u0 : Int32) (u1 : Int32) (g : Mm), K127 u0 u1 g = some (r2, g2) → gx_G p l e R s m args below meth c (gx_Q below args s D al cI cJ A (some (.int r2)) g2) D al cI cJ A 5 0 0 127 [(0, .ref (al (40))), (1, .int (u0)), (2, .int (u1))] [] g) : ∀ (x1 : Int32) (x2 : Int32) (x4 : Int32) (g : Mm), m_X10_least_101 K127 x1 x2 x4 g = some (r2, g2) → gx_G p l e R s m args below meth c (gx_Q below args s D al cI cJ A (some (.int r2)) g2) D al cI cJ A 5 0 0 101 [(0, .ref (al (40))), (1, .int (x1)), (2, .int (x2)), (4, .int (x4))] [] g := by
  intro x1 x2 x4 g h
  unfold m_X10_least_101 at h
  refine gx_aload_n X 0 rfl dX10_least_101 ?_
  refine gx_iconst X (v := (1 : Int32)) dX10_least_102 (by decide) ?_
  refine gx_aload_n X 0 rfl dX10_least_103 ?_
  refine gx_getf X (40) lf_X10_89 (by decide) (cl_40 _ _) (v := .int ((rdI g 40 4))) rfl dX10_least_104 ?_
  refine gx_ishl X dX10_least_107 ?_
  refine gx_iconst X (v := (1 : Int32)) dX10_least_108 (by decide) ?_
  refine gx_isub X dX10_least_109 ?_
  refine gx_aload_n X 0 rfl dX10_least_110 ?_
  obtain ⟨ra1, ga2, ca3, h⟩ := bdd_eq h
  refine gx_callVi X (40) (c_X10_heardNow ca3) lc_X10_heardNow li_X10_heardNow lm_X10_251 (by decide) (cl_40 _ _) rfl rfl rfl (Nat.le_trans (by decide) hd) rfl (Nat.le_of_ble_eq_true rfl) dX10_least_111 ?_
  obtain ⟨ra4, ga5, ca6, h⟩ := bdd_eq h
  refine gx_callVi X (40) (c_X10_tellsBy ca6) lc_X10_tellsBy li_X10_tellsBy lm_X10_254 (by decide) (cl_40 _ _) rfl rfl rfl (Nat.le_trans (by decide) hd) rfl (Nat.le_of_ble_eq_true rfl) dX10_least_114 ?_
  refine gx_if_eq X 127 dX10_least_117 (by decide) (fun q7 => ?_) (fun q7 => ?_)
  · replace h := (if_pos q7).symm.trans h
    exact gx_sub [0, 1, 2] rfl (hK127 x1 x2 ga5 h)
  · replace h := (if_neg q7).symm.trans h
    refine gx_iload X 3 rfl dX10_least_120 ?_
    refine gx_istore_n X [(2, .int (x4)), (0, .ref (al (40))), (1, .int (x1)), (4, .int (x4))] dX10_least_122 (by decide) rfl ?_
    refine gx_aload_n X 1 rfl dX10_least_123 ?_
    obtain ⟨ra8, ga9, ca10, h⟩ := bdd_eq h
    refine gx_callVv X (40) (c_X10_keepsBest ca10) lc_X10_keepsBest li_X10_keepsBest lm_X10_304 (by decide) (cl_40 _ _) rfl rfl rfl (Nat.le_trans (by decide) hd) rfl (Nat.le_of_ble_eq_true rfl) dX10_least_124 ?_
    exact gx_sub [1, 2, 0] rfl (hK127 x1 x4 ga9 h)
def m_X10_least_79 : Nat → Int32 → Int32 → Int32 → Mm → Option (Int32 × Mm)
  | 0, _, _, _, _ => none
  | n + 1, x1, x2, x3, g => (if x3 = (0 : Int32) then bdd (m_X10_laysBack  g) (fun ra2 ga3 => (if x2 = (-2 : Int32) then some (x2, ga3) else (if x1 = (-1 : Int32) then some (x2, ga3) else gdd (ixo (((6 : Int32) * (x1 / (10 : Int32))) + (rmI x1 (10 : Int32))) 144) (some ((rdI ga3 53 (((6 : Int32) * (x1 / (10 : Int32))) + (rmI x1 (10 : Int32))).toNatClampNeg), ga3))))) else bdd (m_X10_sumAll  g) (fun ra8 ga9 => (if x2 = (-2 : Int32) then m_X10_least_101 (m_X10_least_127 (m_X10_least_79 n)) x1 x2 ra8 ga9 else (if x2 ≤ ra8 then m_X10_least_127 (m_X10_least_79 n) x1 x2 ga9 else m_X10_least_101 (m_X10_least_127 (m_X10_least_79 n)) x1 x2 ra8 ga9))))
set_option maxHeartbeats 2000000 in
theorem t_X10_least_79 {r2 : Int32} {g2 : Mm} (X : gx_X p R s m args meth c D al cI cJ A RX10 cX10_least 5 (some .int) d 0 0) (hd : 4 ≤ d) : ∀ (n : Nat) (x1 : Int32) (x2 : Int32) (x3 : Int32) (g : Mm), m_X10_least_79 n x1 x2 x3 g = some (r2, g2) → gx_G p l e R s m args below meth c (gx_Q below args s D al cI cJ A (some (.int r2)) g2) D al cI cJ A 5 0 0 79 [(0, .ref (al (40))), (1, .int (x1)), (2, .int (x2)), (3, .int (x3))] [] g := by
  intro n
  induction n with
  | zero => intro x1 x2 x3 g h; cases h
  | succ n ih =>
    intro x1 x2 x3 g h
    rw [m_X10_least_79] at h
    refine gx_iload_n X 3 rfl dX10_least_79 ?_
    refine gx_if_eq X 135 dX10_least_80 (by decide) (fun q1 => ?_) (fun q1 => ?_)
    · replace h := (if_pos q1).symm.trans h
      refine gx_aload_n X 0 rfl dX10_least_135 ?_
      obtain ⟨ra2, ga3, ca4, h⟩ := bdd_eq h
      refine gx_callVv X (40) (c_X10_laysBack ca4) lc_X10_laysBack li_X10_laysBack lm_X10_310 (by decide) (cl_40 _ _) rfl rfl rfl (Nat.le_trans (by decide) hd) rfl (Nat.le_of_ble_eq_true rfl) dX10_least_136 ?_
      refine gx_iload_n X 2 rfl dX10_least_139 ?_
      refine gx_bipush X (v := (-2 : Int32)) dX10_least_140 (by decide) ?_
      refine gx_icmp_eq X 150 dX10_least_142 (by decide) (fun q5 => ?_) (fun q5 => ?_)
      · replace h := (if_pos q5).symm.trans h
        refine gx_iload_n X 2 rfl dX10_least_150 ?_
        refine gx_goto X 171 dX10_least_151 (by decide) ?_
        obtain ⟨rfl, rfl⟩ := ret_eq h
        exact gx_iret X rfl dX10_least_171
      · replace h := (if_neg q5).symm.trans h
        refine gx_iload_n X 1 rfl dX10_least_145 ?_
        refine gx_iconst X (v := (-1 : Int32)) dX10_least_146 (by decide) ?_
        refine gx_icmp_ne X 154 dX10_least_147 (by decide) (fun q6 => ?_) (fun q6 => ?_)
        · replace h := (if_neg q6).symm.trans h
          refine gx_aload_n X 0 rfl dX10_least_154 ?_
          refine gx_getf X (40) lf_X10_55 (by decide) (cl_40 _ _) (v := .ref (al (53))) rfl dX10_least_155 ?_
          refine gx_bipush X (v := (6 : Int32)) dX10_least_158 (by decide) ?_
          refine gx_iload_n X 1 rfl dX10_least_160 ?_
          refine gx_bipush X (v := (10 : Int32)) dX10_least_161 (by decide) ?_
          refine gx_idiv X dX10_least_163 (by decide) ?_
          refine gx_imul X dX10_least_164 ?_
          refine gx_iload_n X 1 rfl dX10_least_165 ?_
          refine gx_bipush X (v := (10 : Int32)) dX10_least_166 (by decide) ?_
          refine gx_irem X dX10_least_168 (by decide) ?_
          refine gx_iadd X dX10_least_169 ?_
          obtain ⟨q7, h⟩ := gdd_eq h
          refine gx_iald X (53) 144 (by decide) (cl_53 _ _) q7 dX10_least_170 ?_
          obtain ⟨rfl, rfl⟩ := ret_eq h
          exact gx_iret X rfl dX10_least_171
        · replace h := (if_pos q6).symm.trans h
          refine gx_iload_n X 2 rfl dX10_least_150 ?_
          refine gx_goto X 171 dX10_least_151 (by decide) ?_
          obtain ⟨rfl, rfl⟩ := ret_eq h
          exact gx_iret X rfl dX10_least_171
    · replace h := (if_neg q1).symm.trans h
      refine gx_aload_n X 0 rfl dX10_least_83 ?_
      obtain ⟨ra8, ga9, ca10, h⟩ := bdd_eq h
      refine gx_callVi X (40) (c_X10_sumAll ca10) lc_X10_sumAll li_X10_sumAll lm_X10_219 (by decide) (cl_40 _ _) rfl rfl rfl (Nat.le_trans (by decide) hd) rfl (Nat.le_of_ble_eq_true rfl) dX10_least_84 ?_
      refine gx_istore X [(4, .int (ra8)), (0, .ref (al (40))), (1, .int (x1)), (2, .int (x2)), (3, .int (x3))] dX10_least_87 (by decide) rfl ?_
      refine gx_iload_n X 3 rfl dX10_least_89 ?_
      refine gx_bipush X (v := (-2 : Int32)) dX10_least_90 (by decide) ?_
      refine gx_icmp_eq X 101 dX10_least_92 (by decide) (fun q11 => ?_) (fun q11 => ?_)
      · replace h := (if_pos q11).symm.trans h
        exact gx_sub [1, 2, 3, 0] rfl (t_X10_least_101 X hd (fun u0 u1 g h => t_X10_least_127 X hd (fun u0 u1 u2 g h => ih u0 u1 u2 g h) u0 u1 g h) x1 x2 ra8 ga9 h)
      · replace h := (if_neg q11).symm.trans h
        refine gx_iload X 0 rfl dX10_least_95 ?_
        refine gx_iload_n X 3 rfl dX10_least_97 ?_
        refine gx_icmp_ge X 127 dX10_least_98 (by decide) (fun q12 => ?_) (fun q12 => ?_)
        · replace h := (if_pos q12).symm.trans h
          exact gx_sub [1, 2, 3] rfl (t_X10_least_127 X hd (fun u0 u1 u2 g h => ih u0 u1 u2 g h) x1 x2 ga9 h)
        · replace h := (if_neg q12).symm.trans h
          exact gx_sub [1, 2, 3, 0] rfl (t_X10_least_101 X hd (fun u0 u1 g h => t_X10_least_127 X hd (fun u0 u1 u2 g h => ih u0 u1 u2 g h) u0 u1 g h) x1 x2 ra8 ga9 h)
def m_X10_least_54 : Nat → Int32 → Int32 → Mm → Option (Int32 × Mm)
  | 0, _, _, _ => none
  | n + 1, x1, x2, g => (if (144 : Int32) ≤ x2 then m_X10_least_79 fuL x1 (-2 : Int32) (1 : Int32) g else gdd (ixo x2 144) (m_X10_least_54 n x1 (x2 + (1 : Int32)) (wrI g 44 x2.toNatClampNeg (0 : Int32))))
set_option maxHeartbeats 2000000 in
theorem t_X10_least_54 {r2 : Int32} {g2 : Mm} (X : gx_X p R s m args meth c D al cI cJ A RX10 cX10_least 5 (some .int) d 0 0) (hd : 4 ≤ d) : ∀ (n : Nat) (x1 : Int32) (x2 : Int32) (g : Mm), m_X10_least_54 n x1 x2 g = some (r2, g2) → gx_G p l e R s m args below meth c (gx_Q below args s D al cI cJ A (some (.int r2)) g2) D al cI cJ A 5 0 0 54 [(0, .ref (al (40))), (1, .int (x1)), (2, .int (x2))] [] g := by
  intro n
  induction n with
  | zero => intro x1 x2 g h; cases h
  | succ n ih =>
    intro x1 x2 g h
    rw [m_X10_least_54] at h
    refine gx_iload_n X 2 rfl dX10_least_54 ?_
    refine gx_sipush X (v := (144 : Int32)) dX10_least_55 (by decide) ?_
    refine gx_icmp_ge X 74 dX10_least_58 (by decide) (fun q1 => ?_) (fun q1 => ?_)
    · replace h := (if_pos q1).symm.trans h
      refine gx_bipush X (v := (-2 : Int32)) dX10_least_74 (by decide) ?_
      refine gx_istore_n X [(2, .int ((-2 : Int32))), (0, .ref (al (40))), (1, .int (x1))] dX10_least_76 (by decide) rfl ?_
      refine gx_iconst X (v := (1 : Int32)) dX10_least_77 (by decide) ?_
      refine gx_istore_n X [(3, .int ((1 : Int32))), (2, .int ((-2 : Int32))), (0, .ref (al (40))), (1, .int (x1))] dX10_least_78 (by decide) rfl ?_
      exact gx_sub [2, 3, 1, 0] rfl (t_X10_least_79 X hd fuL x1 (-2 : Int32) (1 : Int32) g h)
    · replace h := (if_neg q1).symm.trans h
      refine gx_aload_n X 0 rfl dX10_least_61 ?_
      refine gx_getf X (40) lf_X10_28 (by decide) (cl_40 _ _) (v := .ref (al (44))) rfl dX10_least_62 ?_
      refine gx_iload_n X 2 rfl dX10_least_65 ?_
      refine gx_iconst X (v := (0 : Int32)) dX10_least_66 (by decide) ?_
      obtain ⟨q2, h⟩ := gdd_eq h
      refine gx_iast X (44) 144 (by decide) (fun r => cl_44 r _) q2 dX10_least_67 ?_
      refine gx_iinc X [(2, .int ((x2 + (1 : Int32)))), (0, .ref (al (40))), (1, .int (x1))] 2 dX10_least_68 rfl rfl (by decide) rfl ?_
      refine gx_goto X 54 dX10_least_71 (by decide) ?_
      exact gx_sub [1, 2, 0] rfl (ih x1 (x2 + (1 : Int32)) (wrI g 44 x2.toNatClampNeg (0 : Int32)) h)
def m_X10_least_15 (x1 : Int32) (g : Mm) : Option (Int32 × Mm) := (if (rdI g 40 4) = (0 : Int32) then some ((-5 : Int32), g) else (if (3 : Int32) < (rdI g 40 4) then some ((-5 : Int32), g) else (if (4 : Int32) < (rdI g 40 5) then some ((-5 : Int32), g) else bdd (m_X10_isFewTables  g) (fun ra4 ga5 => (if ra4 = (0 : Int32) then some ((-5 : Int32), ga5) else bdd (m_X10_laysAside  ga5) (fun ra8 ga9 => m_X10_least_54 fuL x1 (0 : Int32) ga9))))))
set_option maxHeartbeats 2000000 in
theorem t_X10_least_15 {r2 : Int32} {g2 : Mm} (X : gx_X p R s m args meth c D al cI cJ A RX10 cX10_least 5 (some .int) d 0 0) (hd : 4 ≤ d) : ∀ (x1 : Int32) (g : Mm), m_X10_least_15 x1 g = some (r2, g2) → gx_G p l e R s m args below meth c (gx_Q below args s D al cI cJ A (some (.int r2)) g2) D al cI cJ A 5 0 0 15 [(0, .ref (al (40))), (1, .int (x1))] [] g := by
  intro x1 g h
  unfold m_X10_least_15 at h
  refine gx_aload_n X 0 rfl dX10_least_15 ?_
  refine gx_getf X (40) lf_X10_89 (by decide) (cl_40 _ _) (v := .int ((rdI g 40 4))) rfl dX10_least_16 ?_
  refine gx_if_eq X 45 dX10_least_19 (by decide) (fun q1 => ?_) (fun q1 => ?_)
  · replace h := (if_pos q1).symm.trans h
    refine gx_bipush X (v := (-5 : Int32)) dX10_least_45 (by decide) ?_
    obtain ⟨rfl, rfl⟩ := ret_eq h
    exact gx_iret X rfl dX10_least_47
  · replace h := (if_neg q1).symm.trans h
    refine gx_aload_n X 0 rfl dX10_least_22 ?_
    refine gx_getf X (40) lf_X10_89 (by decide) (cl_40 _ _) (v := .int ((rdI g 40 4))) rfl dX10_least_23 ?_
    refine gx_iconst X (v := (3 : Int32)) dX10_least_26 (by decide) ?_
    refine gx_icmp_gt X 45 dX10_least_27 (by decide) (fun q2 => ?_) (fun q2 => ?_)
    · replace h := (if_pos q2).symm.trans h
      refine gx_bipush X (v := (-5 : Int32)) dX10_least_45 (by decide) ?_
      obtain ⟨rfl, rfl⟩ := ret_eq h
      exact gx_iret X rfl dX10_least_47
    · replace h := (if_neg q2).symm.trans h
      refine gx_aload_n X 0 rfl dX10_least_30 ?_
      refine gx_getf X (40) lf_X10_21 (by decide) (cl_40 _ _) (v := .int ((rdI g 40 5))) rfl dX10_least_31 ?_
      refine gx_iconst X (v := (4 : Int32)) dX10_least_34 (by decide) ?_
      refine gx_icmp_gt X 45 dX10_least_35 (by decide) (fun q3 => ?_) (fun q3 => ?_)
      · replace h := (if_pos q3).symm.trans h
        refine gx_bipush X (v := (-5 : Int32)) dX10_least_45 (by decide) ?_
        obtain ⟨rfl, rfl⟩ := ret_eq h
        exact gx_iret X rfl dX10_least_47
      · replace h := (if_neg q3).symm.trans h
        refine gx_aload_n X 0 rfl dX10_least_38 ?_
        obtain ⟨ra4, ga5, ca6, h⟩ := bdd_eq h
        refine gx_callVi X (40) (c_X10_isFewTables ca6) lc_X10_isFewTables li_X10_isFewTables lm_X10_297 (by decide) (cl_40 _ _) rfl rfl rfl (Nat.le_trans (by decide) hd) rfl (Nat.le_of_ble_eq_true rfl) dX10_least_39 ?_
        refine gx_if_ne X 48 dX10_least_42 (by decide) (fun q7 => ?_) (fun q7 => ?_)
        · replace h := (if_neg q7).symm.trans h
          refine gx_aload_n X 0 rfl dX10_least_48 ?_
          obtain ⟨ra8, ga9, ca10, h⟩ := bdd_eq h
          refine gx_callVv X (40) (c_X10_laysAside ca10) lc_X10_laysAside li_X10_laysAside lm_X10_301 (by decide) (cl_40 _ _) rfl rfl rfl (Nat.le_trans (by decide) hd) rfl (Nat.le_of_ble_eq_true rfl) dX10_least_49 ?_
          refine gx_iconst X (v := (0 : Int32)) dX10_least_52 (by decide) ?_
          refine gx_istore_n X [(2, .int ((0 : Int32))), (0, .ref (al (40))), (1, .int (x1))] dX10_least_53 (by decide) rfl ?_
          exact gx_sub [1, 2, 0] rfl (t_X10_least_54 X hd fuL x1 (0 : Int32) ga9 h)
        · replace h := (if_pos q7).symm.trans h
          refine gx_bipush X (v := (-5 : Int32)) dX10_least_45 (by decide) ?_
          obtain ⟨rfl, rfl⟩ := ret_eq h
          exact gx_iret X rfl dX10_least_47
def m_X10_least (a1 : Int32) (g : Mm) : Option (Int32 × Mm) := (if a1 = (-1 : Int32) then m_X10_least_15 a1 g else bdd (m_X10_isCell a1 g) (fun ra2 ga3 => (if ra2 = (0 : Int32) then some ((-1 : Int32), ga3) else m_X10_least_15 a1 ga3)))
set_option maxHeartbeats 2000000 in
theorem c_X10_least {r2 : Int32} {g g2 : Mm} {a1 : Int32} (h : m_X10_least a1 g = some (r2, g2)) : gx_M 4 yX10_least cX10_least 5 (some .int) (fun al => [.ref (al (40)), .int (a1)]) g (some (.int r2)) g2 := by
  have hd : 4 ≤ 4 := Nat.le_refl _
  refine gx_M.of (by decide +kernel) (fun _ => Nat.le_of_ble_eq_true rfl) ?_
  intro p l e R s m args below meth c D al cI cJ A X
  refine gx_eq (pc' := 0) (ls' := [(0, .ref (al (40))), (1, .int (a1))]) (st' := []) (g' := g) ⟨rfl, rfl, rfl, rfl⟩ ?_
  unfold m_X10_least at h
  refine gx_iload_n X 1 rfl dX10_least_0 ?_
  refine gx_iconst X (v := (-1 : Int32)) dX10_least_1 (by decide) ?_
  refine gx_icmp_eq X 15 dX10_least_2 (by decide) (fun q1 => ?_) (fun q1 => ?_)
  · replace h := (if_pos q1).symm.trans h
    exact gx_sub [0, 1] rfl (t_X10_least_15 X hd a1 g h)
  · replace h := (if_neg q1).symm.trans h
    refine gx_aload_n X 0 rfl dX10_least_5 ?_
    refine gx_iload_n X 1 rfl dX10_least_6 ?_
    obtain ⟨ra2, ga3, ca4, h⟩ := bdd_eq h
    refine gx_callVi X (40) (c_X10_isCell ca4) lc_X10_isCell li_X10_isCell lm_X10_124 (by decide) (cl_40 _ _) rfl rfl rfl (Nat.le_trans (by decide) hd) rfl (Nat.le_of_ble_eq_true rfl) dX10_least_7 ?_
    refine gx_if_ne X 15 dX10_least_10 (by decide) (fun q5 => ?_) (fun q5 => ?_)
    · replace h := (if_neg q5).symm.trans h
      exact gx_sub [0, 1] rfl (t_X10_least_15 X hd a1 ga3 h)
    · replace h := (if_pos q5).symm.trans h
      refine gx_iconst X (v := (-1 : Int32)) dX10_least_13 (by decide) ?_
      obtain ⟨rfl, rfl⟩ := ret_eq h
      exact gx_iret X rfl dX10_least_14
end DC
