section DC
variable {p : Program} {l : Launch} {e : Env} {R : Room} {s : State} {m : MethodId} {args : Array Value} {below : List Frame} {meth : Method} {c : Code} {D : va_G} {al : Nat → Nat} {cI cJ : ClassId} {A : Nat → Prop} {d : Nat}
theorem dX5_answerOf_0 : decode cX5_answerOf 0 = .ok (.iload_n 1, 1) := by decide +kernel
theorem dX5_answerOf_1 : decode cX5_answerOf 1 = .ok (.iconst (-1), 1) := by decide +kernel
theorem dX5_answerOf_2 : decode cX5_answerOf 2 = .ok (.if_icmp .ne 7, 3) := by decide +kernel
theorem dX5_answerOf_5 : decode cX5_answerOf 5 = .ok (.iload_n 2, 1) := by decide +kernel
theorem dX5_answerOf_6 : decode cX5_answerOf 6 = .ok (.goto 20, 3) := by decide +kernel
theorem dX5_answerOf_9 : decode cX5_answerOf 9 = .ok (.aload_n 0, 1) := by decide +kernel
theorem dX5_answerOf_10 : decode cX5_answerOf 10 = .ok (.getfield 18, 3) := by decide +kernel
theorem dX5_answerOf_13 : decode cX5_answerOf 13 = .ok (.iload_n 1, 1) := by decide +kernel
theorem dX5_answerOf_14 : decode cX5_answerOf 14 = .ok (.bipush 10, 2) := by decide +kernel
theorem dX5_answerOf_16 : decode cX5_answerOf 16 = .ok (.idiv, 1) := by decide +kernel
theorem dX5_answerOf_17 : decode cX5_answerOf 17 = .ok (.bipush 6, 2) := by decide +kernel
theorem dX5_answerOf_19 : decode cX5_answerOf 19 = .ok (.imul, 1) := by decide +kernel
theorem dX5_answerOf_20 : decode cX5_answerOf 20 = .ok (.iload_n 1, 1) := by decide +kernel
theorem dX5_answerOf_21 : decode cX5_answerOf 21 = .ok (.bipush 10, 2) := by decide +kernel
theorem dX5_answerOf_23 : decode cX5_answerOf 23 = .ok (.irem, 1) := by decide +kernel
theorem dX5_answerOf_24 : decode cX5_answerOf 24 = .ok (.iadd, 1) := by decide +kernel
theorem dX5_answerOf_25 : decode cX5_answerOf 25 = .ok (.iaload, 1) := by decide +kernel
theorem dX5_answerOf_26 : decode cX5_answerOf 26 = .ok (.ireturn, 1) := by decide +kernel
def m_X5_answerOf (a1 : Int32) (a2 : Int32) (g : Mm) : Option (Int32 × Mm) := (if a1 = (-1 : Int32) then some (a2, g) else gdd (ixo (((a1 / (10 : Int32)) * (6 : Int32)) + (rmI a1 (10 : Int32))) 144) (some ((rdI g 28 (((a1 / (10 : Int32)) * (6 : Int32)) + (rmI a1 (10 : Int32))).toNatClampNeg), g)))
set_option maxHeartbeats 2000000 in
theorem c_X5_answerOf {r2 : Int32} {g g2 : Mm} {a1 : Int32} {a2 : Int32} (h : m_X5_answerOf a1 a2 g = some (r2, g2)) : gx_M 1 yX5_answerOf cX5_answerOf 3 (some .int) (fun al => [.ref (al (25)), .int (a1), .int (a2)]) g (some (.int r2)) g2 := by
  have hd : 1 ≤ 1 := Nat.le_refl _
  refine gx_M.of (by decide +kernel) (fun _ => Nat.le_of_ble_eq_true rfl) ?_
  intro p l e R s m args below meth c D al cI cJ A X
  refine gx_eq (pc' := 0) (ls' := [(0, .ref (al (25))), (1, .int (a1)), (2, .int (a2))]) (st' := []) (g' := g) ⟨rfl, rfl, rfl, rfl⟩ ?_
  unfold m_X5_answerOf at h
  refine gx_iload_n X 1 rfl dX5_answerOf_0 ?_
  refine gx_iconst X (v := (-1 : Int32)) dX5_answerOf_1 (by decide) ?_
  refine gx_icmp_ne X 9 dX5_answerOf_2 (by decide) (fun q1 => ?_) (fun q1 => ?_)
  · replace h := (if_neg q1).symm.trans h
    refine gx_aload_n X 0 rfl dX5_answerOf_9 ?_
    refine gx_getf X (25) lf_X5_18 (by decide) (cl_25 _ _) (v := .ref (al (28))) rfl dX5_answerOf_10 ?_
    refine gx_iload_n X 1 rfl dX5_answerOf_13 ?_
    refine gx_bipush X (v := (10 : Int32)) dX5_answerOf_14 (by decide) ?_
    refine gx_idiv X dX5_answerOf_16 (by decide) ?_
    refine gx_bipush X (v := (6 : Int32)) dX5_answerOf_17 (by decide) ?_
    refine gx_imul X dX5_answerOf_19 ?_
    refine gx_iload_n X 1 rfl dX5_answerOf_20 ?_
    refine gx_bipush X (v := (10 : Int32)) dX5_answerOf_21 (by decide) ?_
    refine gx_irem X dX5_answerOf_23 (by decide) ?_
    refine gx_iadd X dX5_answerOf_24 ?_
    obtain ⟨q2, h⟩ := gdd_eq h
    refine gx_iald X (28) 144 (by decide) (cl_28 _ _) q2 dX5_answerOf_25 ?_
    obtain ⟨rfl, rfl⟩ := ret_eq h
    exact gx_iret X rfl dX5_answerOf_26
  · replace h := (if_pos q1).symm.trans h
    refine gx_iload_n X 2 rfl dX5_answerOf_5 ?_
    refine gx_goto X 26 dX5_answerOf_6 (by decide) ?_
    obtain ⟨rfl, rfl⟩ := ret_eq h
    exact gx_iret X rfl dX5_answerOf_26
theorem dX5_differences_0 : decode cX5_differences 0 = .ok (.iconst 0, 1) := by decide +kernel
theorem dX5_differences_1 : decode cX5_differences 1 = .ok (.istore_n 3, 1) := by decide +kernel
theorem dX5_differences_2 : decode cX5_differences 2 = .ok (.iconst 0, 1) := by decide +kernel
theorem dX5_differences_3 : decode cX5_differences 3 = .ok (.istore 4, 2) := by decide +kernel
theorem dX5_differences_5 : decode cX5_differences 5 = .ok (.iload 4, 2) := by decide +kernel
theorem dX5_differences_7 : decode cX5_differences 7 = .ok (.aload_n 0, 1) := by decide +kernel
theorem dX5_differences_8 : decode cX5_differences 8 = .ok (.getfield 25, 3) := by decide +kernel
theorem dX5_differences_11 : decode cX5_differences 11 = .ok (.getfield 29, 3) := by decide +kernel
theorem dX5_differences_14 : decode cX5_differences 14 = .ok (.if_icmp .ge 31, 3) := by decide +kernel
theorem dX5_differences_17 : decode cX5_differences 17 = .ok (.aload_n 1, 1) := by decide +kernel
theorem dX5_differences_18 : decode cX5_differences 18 = .ok (.iload_n 2, 1) := by decide +kernel
theorem dX5_differences_19 : decode cX5_differences 19 = .ok (.bipush 6, 2) := by decide +kernel
theorem dX5_differences_21 : decode cX5_differences 21 = .ok (.imul, 1) := by decide +kernel
theorem dX5_differences_22 : decode cX5_differences 22 = .ok (.iload 4, 2) := by decide +kernel
theorem dX5_differences_24 : decode cX5_differences 24 = .ok (.iadd, 1) := by decide +kernel
theorem dX5_differences_25 : decode cX5_differences 25 = .ok (.iaload, 1) := by decide +kernel
theorem dX5_differences_26 : decode cX5_differences 26 = .ok (.aload_n 0, 1) := by decide +kernel
theorem dX5_differences_27 : decode cX5_differences 27 = .ok (.getfield 9, 3) := by decide +kernel
theorem dX5_differences_30 : decode cX5_differences 30 = .ok (.iload 4, 2) := by decide +kernel
theorem dX5_differences_32 : decode cX5_differences 32 = .ok (.iaload, 1) := by decide +kernel
theorem dX5_differences_33 : decode cX5_differences 33 = .ok (.if_icmp .eq 6, 3) := by decide +kernel
theorem dX5_differences_36 : decode cX5_differences 36 = .ok (.iinc 3 1, 3) := by decide +kernel
theorem dX5_differences_39 : decode cX5_differences 39 = .ok (.iinc 4 1, 3) := by decide +kernel
theorem dX5_differences_42 : decode cX5_differences 42 = .ok (.goto (-37), 3) := by decide +kernel
theorem dX5_differences_45 : decode cX5_differences 45 = .ok (.iload_n 3, 1) := by decide +kernel
theorem dX5_differences_46 : decode cX5_differences 46 = .ok (.ireturn, 1) := by decide +kernel
def m_X5_differences_5 (a1 : Nat) (n1 : Nat) : Nat → Int32 → Int32 → Int32 → Mm → Option (Int32 × Mm)
  | 0, _, _, _, _ => none
  | n + 1, x2, x3, x4, g => (if (rdI g 1 0) ≤ x4 then some (x3, g) else gdd (ixo ((x2 * (6 : Int32)) + x4) n1) (gdd (ixo x4 6) ((if (rdI g a1 ((x2 * (6 : Int32)) + x4).toNatClampNeg) = (rdI g 26 x4.toNatClampNeg) then m_X5_differences_5 a1 n1 n x2 x3 (x4 + (1 : Int32)) g else m_X5_differences_5 a1 n1 n x2 (x3 + (1 : Int32)) (x4 + (1 : Int32)) g))))
set_option maxHeartbeats 2000000 in
theorem t_X5_differences_5 {r2 : Int32} {g2 : Mm} (X : gx_X p R s m args meth c D al cI cJ A RX5 cX5_differences 5 (some .int) d 0 0) (hd : 1 ≤ d) {a1 : Nat} {n1 : Nat} (h1 : ia_ a1 n1) : ∀ (n : Nat) (x2 : Int32) (x3 : Int32) (x4 : Int32) (g : Mm), m_X5_differences_5 a1 n1 n x2 x3 x4 g = some (r2, g2) → gx_G p l e R s m args below meth c (gx_Q below args s D al cI cJ A (some (.int r2)) g2) D al cI cJ A 5 0 0 5 [(0, .ref (al (25))), (1, .ref (al (a1))), (2, .int (x2)), (3, .int (x3)), (4, .int (x4))] [] g := by
  intro n
  induction n with
  | zero => intro x2 x3 x4 g h; cases h
  | succ n ih =>
    intro x2 x3 x4 g h
    rw [m_X5_differences_5] at h
    refine gx_iload X 4 rfl dX5_differences_5 ?_
    refine gx_aload_n X 0 rfl dX5_differences_7 ?_
    refine gx_getf X (25) lf_X5_25 (by decide) (cl_25 _ _) (v := .ref (al (1))) rfl dX5_differences_8 ?_
    refine gx_getn X (1) lf_X5_29 (by decide) (cl_1 _ _) (v := .int ((rdI g 1 0))) rfl dX5_differences_11 ?_
    refine gx_icmp_ge X 45 dX5_differences_14 (by decide) (fun q1 => ?_) (fun q1 => ?_)
    · replace h := (if_pos q1).symm.trans h
      refine gx_iload_n X 3 rfl dX5_differences_45 ?_
      obtain ⟨rfl, rfl⟩ := ret_eq h
      exact gx_iret X rfl dX5_differences_46
    · replace h := (if_neg q1).symm.trans h
      refine gx_aload_n X 1 rfl dX5_differences_17 ?_
      refine gx_iload_n X 2 rfl dX5_differences_18 ?_
      refine gx_bipush X (v := (6 : Int32)) dX5_differences_19 (by decide) ?_
      refine gx_imul X dX5_differences_21 ?_
      refine gx_iload X 4 rfl dX5_differences_22 ?_
      refine gx_iadd X dX5_differences_24 ?_
      obtain ⟨q2, h⟩ := gdd_eq h
      refine gx_iald X (a1) n1 h1.1 (h1.2 _ _ _ _ _) q2 dX5_differences_25 ?_
      refine gx_aload_n X 0 rfl dX5_differences_26 ?_
      refine gx_getf X (25) lf_X5_9 (by decide) (cl_25 _ _) (v := .ref (al (26))) rfl dX5_differences_27 ?_
      refine gx_iload X 4 rfl dX5_differences_30 ?_
      obtain ⟨q3, h⟩ := gdd_eq h
      refine gx_iald X (26) 6 (by decide) (cl_26 _ _) q3 dX5_differences_32 ?_
      refine gx_icmp_eq X 39 dX5_differences_33 (by decide) (fun q4 => ?_) (fun q4 => ?_)
      · replace h := (if_pos q4).symm.trans h
        refine gx_iinc X [(4, .int ((x4 + (1 : Int32)))), (0, .ref (al (25))), (1, .ref (al (a1))), (2, .int (x2)), (3, .int (x3))] 4 dX5_differences_39 rfl rfl (by decide) rfl ?_
        refine gx_goto X 5 dX5_differences_42 (by decide) ?_
        exact gx_sub [1, 2, 3, 4, 0] rfl (ih x2 x3 (x4 + (1 : Int32)) g h)
      · replace h := (if_neg q4).symm.trans h
        refine gx_iinc X [(3, .int ((x3 + (1 : Int32)))), (0, .ref (al (25))), (1, .ref (al (a1))), (2, .int (x2)), (4, .int (x4))] 3 dX5_differences_36 rfl rfl (by decide) rfl ?_
        refine gx_iinc X [(4, .int ((x4 + (1 : Int32)))), (3, .int ((x3 + (1 : Int32)))), (0, .ref (al (25))), (1, .ref (al (a1))), (2, .int (x2))] 4 dX5_differences_39 rfl rfl (by decide) rfl ?_
        refine gx_goto X 5 dX5_differences_42 (by decide) ?_
        exact gx_sub [2, 3, 4, 1, 0] rfl (ih x2 (x3 + (1 : Int32)) (x4 + (1 : Int32)) g h)
def m_X5_differences (a1 : Nat) (n1 : Nat) (a2 : Int32) (g : Mm) : Option (Int32 × Mm) := m_X5_differences_5 a1 n1 fuL a2 (0 : Int32) (0 : Int32) g
set_option maxHeartbeats 2000000 in
theorem c_X5_differences {r2 : Int32} {g g2 : Mm} {a1 : Nat} {n1 : Nat} {a2 : Int32} (h1 : ia_ a1 n1) (h : m_X5_differences a1 n1 a2 g = some (r2, g2)) : gx_M 1 yX5_differences cX5_differences 5 (some .int) (fun al => [.ref (al (25)), .ref (al (a1)), .int (a2)]) g (some (.int r2)) g2 := by
  have hd : 1 ≤ 1 := Nat.le_refl _
  refine gx_M.of (by decide +kernel) (fun _ => Nat.le_of_ble_eq_true rfl) ?_
  intro p l e R s m args below meth c D al cI cJ A X
  refine gx_eq (pc' := 0) (ls' := [(0, .ref (al (25))), (1, .ref (al (a1))), (2, .int (a2))]) (st' := []) (g' := g) ⟨rfl, rfl, rfl, rfl⟩ ?_
  unfold m_X5_differences at h
  refine gx_iconst X (v := (0 : Int32)) dX5_differences_0 (by decide) ?_
  refine gx_istore_n X [(3, .int ((0 : Int32))), (0, .ref (al (25))), (1, .ref (al (a1))), (2, .int (a2))] dX5_differences_1 (by decide) rfl ?_
  refine gx_iconst X (v := (0 : Int32)) dX5_differences_2 (by decide) ?_
  refine gx_istore X [(4, .int ((0 : Int32))), (3, .int ((0 : Int32))), (0, .ref (al (25))), (1, .ref (al (a1))), (2, .int (a2))] dX5_differences_3 (by decide) rfl ?_
  exact gx_sub [2, 3, 4, 1, 0] rfl (t_X5_differences_5 X hd h1 fuL a2 (0 : Int32) (0 : Int32) g h)
theorem dX5_rowsThereAre_0 : decode cX5_rowsThereAre 0 = .ok (.iconst 1, 1) := by decide +kernel
theorem dX5_rowsThereAre_1 : decode cX5_rowsThereAre 1 = .ok (.istore_n 1, 1) := by decide +kernel
theorem dX5_rowsThereAre_2 : decode cX5_rowsThereAre 2 = .ok (.iconst 0, 1) := by decide +kernel
theorem dX5_rowsThereAre_3 : decode cX5_rowsThereAre 3 = .ok (.istore_n 2, 1) := by decide +kernel
theorem dX5_rowsThereAre_4 : decode cX5_rowsThereAre 4 = .ok (.iload_n 2, 1) := by decide +kernel
theorem dX5_rowsThereAre_5 : decode cX5_rowsThereAre 5 = .ok (.aload_n 0, 1) := by decide +kernel
theorem dX5_rowsThereAre_6 : decode cX5_rowsThereAre 6 = .ok (.getfield 25, 3) := by decide +kernel
theorem dX5_rowsThereAre_9 : decode cX5_rowsThereAre 9 = .ok (.getfield 29, 3) := by decide +kernel
theorem dX5_rowsThereAre_12 : decode cX5_rowsThereAre 12 = .ok (.if_icmp .ge 23, 3) := by decide +kernel
theorem dX5_rowsThereAre_15 : decode cX5_rowsThereAre 15 = .ok (.iload_n 1, 1) := by decide +kernel
theorem dX5_rowsThereAre_16 : decode cX5_rowsThereAre 16 = .ok (.aload_n 0, 1) := by decide +kernel
theorem dX5_rowsThereAre_17 : decode cX5_rowsThereAre 17 = .ok (.getfield 25, 3) := by decide +kernel
theorem dX5_rowsThereAre_20 : decode cX5_rowsThereAre 20 = .ok (.getfield 47, 3) := by decide +kernel
theorem dX5_rowsThereAre_23 : decode cX5_rowsThereAre 23 = .ok (.iload_n 2, 1) := by decide +kernel
theorem dX5_rowsThereAre_24 : decode cX5_rowsThereAre 24 = .ok (.iaload, 1) := by decide +kernel
theorem dX5_rowsThereAre_25 : decode cX5_rowsThereAre 25 = .ok (.iconst 1, 1) := by decide +kernel
theorem dX5_rowsThereAre_26 : decode cX5_rowsThereAre 26 = .ok (.iadd, 1) := by decide +kernel
theorem dX5_rowsThereAre_27 : decode cX5_rowsThereAre 27 = .ok (.imul, 1) := by decide +kernel
theorem dX5_rowsThereAre_28 : decode cX5_rowsThereAre 28 = .ok (.istore_n 1, 1) := by decide +kernel
theorem dX5_rowsThereAre_29 : decode cX5_rowsThereAre 29 = .ok (.iinc 2 1, 3) := by decide +kernel
theorem dX5_rowsThereAre_32 : decode cX5_rowsThereAre 32 = .ok (.goto (-28), 3) := by decide +kernel
theorem dX5_rowsThereAre_35 : decode cX5_rowsThereAre 35 = .ok (.iload_n 1, 1) := by decide +kernel
theorem dX5_rowsThereAre_36 : decode cX5_rowsThereAre 36 = .ok (.ireturn, 1) := by decide +kernel
def m_X5_rowsThereAre_4 : Nat → Int32 → Int32 → Mm → Option (Int32 × Mm)
  | 0, _, _, _ => none
  | n + 1, x1, x2, g => (if (rdI g 1 0) ≤ x2 then some (x1, g) else gdd (ixo x2 6) (lti (x1 * ((rdI g 2 x2.toNatClampNeg) + (1 : Int32))) (fun v3 => m_X5_rowsThereAre_4 n v3 (x2 + (1 : Int32)) g)))
set_option maxHeartbeats 2000000 in
theorem t_X5_rowsThereAre_4 {r2 : Int32} {g2 : Mm} (X : gx_X p R s m args meth c D al cI cJ A RX5 cX5_rowsThereAre 3 (some .int) d 0 0) (hd : 1 ≤ d) : ∀ (n : Nat) (x1 : Int32) (x2 : Int32) (g : Mm), m_X5_rowsThereAre_4 n x1 x2 g = some (r2, g2) → gx_G p l e R s m args below meth c (gx_Q below args s D al cI cJ A (some (.int r2)) g2) D al cI cJ A 3 0 0 4 [(0, .ref (al (25))), (1, .int (x1)), (2, .int (x2))] [] g := by
  intro n
  induction n with
  | zero => intro x1 x2 g h; cases h
  | succ n ih =>
    intro x1 x2 g h
    rw [m_X5_rowsThereAre_4] at h
    refine gx_iload_n X 2 rfl dX5_rowsThereAre_4 ?_
    refine gx_aload_n X 0 rfl dX5_rowsThereAre_5 ?_
    refine gx_getf X (25) lf_X5_25 (by decide) (cl_25 _ _) (v := .ref (al (1))) rfl dX5_rowsThereAre_6 ?_
    refine gx_getn X (1) lf_X5_29 (by decide) (cl_1 _ _) (v := .int ((rdI g 1 0))) rfl dX5_rowsThereAre_9 ?_
    refine gx_icmp_ge X 35 dX5_rowsThereAre_12 (by decide) (fun q1 => ?_) (fun q1 => ?_)
    · replace h := (if_pos q1).symm.trans h
      refine gx_iload_n X 1 rfl dX5_rowsThereAre_35 ?_
      obtain ⟨rfl, rfl⟩ := ret_eq h
      exact gx_iret X rfl dX5_rowsThereAre_36
    · replace h := (if_neg q1).symm.trans h
      refine gx_iload_n X 1 rfl dX5_rowsThereAre_15 ?_
      refine gx_aload_n X 0 rfl dX5_rowsThereAre_16 ?_
      refine gx_getf X (25) lf_X5_25 (by decide) (cl_25 _ _) (v := .ref (al (1))) rfl dX5_rowsThereAre_17 ?_
      refine gx_getn X (1) lf_X5_47 (by decide) (cl_1 _ _) (v := .ref (al (2))) rfl dX5_rowsThereAre_20 ?_
      refine gx_iload_n X 2 rfl dX5_rowsThereAre_23 ?_
      obtain ⟨q2, h⟩ := gdd_eq h
      refine gx_iald X (2) 6 (by decide) (cl_2 _ _) q2 dX5_rowsThereAre_24 ?_
      refine gx_iconst X (v := (1 : Int32)) dX5_rowsThereAre_25 (by decide) ?_
      refine gx_iadd X dX5_rowsThereAre_26 ?_
      refine gx_imul X dX5_rowsThereAre_27 ?_
      obtain ⟨v3, ev3, h⟩ := lti_eq h
      refine gx_topi ev3 ?_
      refine gx_istore_n X [(1, .int (v3)), (0, .ref (al (25))), (2, .int (x2))] dX5_rowsThereAre_28 (by decide) rfl ?_
      refine gx_iinc X [(2, .int ((x2 + (1 : Int32)))), (1, .int (v3)), (0, .ref (al (25)))] 2 dX5_rowsThereAre_29 rfl rfl (by decide) rfl ?_
      refine gx_goto X 4 dX5_rowsThereAre_32 (by decide) ?_
      exact gx_sub [2, 1, 0] rfl (ih v3 (x2 + (1 : Int32)) g h)
def m_X5_rowsThereAre (g : Mm) : Option (Int32 × Mm) := m_X5_rowsThereAre_4 fuL (1 : Int32) (0 : Int32) g
set_option maxHeartbeats 2000000 in
theorem c_X5_rowsThereAre {r2 : Int32} {g g2 : Mm} (h : m_X5_rowsThereAre g = some (r2, g2)) : gx_M 1 yX5_rowsThereAre cX5_rowsThereAre 3 (some .int) (fun al => [.ref (al (25))]) g (some (.int r2)) g2 := by
  have hd : 1 ≤ 1 := Nat.le_refl _
  refine gx_M.of (by decide +kernel) (fun _ => Nat.le_of_ble_eq_true rfl) ?_
  intro p l e R s m args below meth c D al cI cJ A X
  refine gx_eq (pc' := 0) (ls' := [(0, .ref (al (25)))]) (st' := []) (g' := g) ⟨rfl, rfl, rfl, rfl⟩ ?_
  unfold m_X5_rowsThereAre at h
  refine gx_iconst X (v := (1 : Int32)) dX5_rowsThereAre_0 (by decide) ?_
  refine gx_istore_n X [(1, .int ((1 : Int32))), (0, .ref (al (25)))] dX5_rowsThereAre_1 (by decide) rfl ?_
  refine gx_iconst X (v := (0 : Int32)) dX5_rowsThereAre_2 (by decide) ?_
  refine gx_istore_n X [(2, .int ((0 : Int32))), (1, .int ((1 : Int32))), (0, .ref (al (25)))] dX5_rowsThereAre_3 (by decide) rfl ?_
  exact gx_sub [2, 1, 0] rfl (t_X5_rowsThereAre_4 X hd fuL (1 : Int32) (0 : Int32) g h)
theorem dX5_hoursAhead_0 : decode cX5_hoursAhead 0 = .ok (.iconst 1, 1) := by decide +kernel
theorem dX5_hoursAhead_1 : decode cX5_hoursAhead 1 = .ok (.iload_n 1, 1) := by decide +kernel
theorem dX5_hoursAhead_2 : decode cX5_hoursAhead 2 = .ok (.ishl, 1) := by decide +kernel
theorem dX5_hoursAhead_3 : decode cX5_hoursAhead 3 = .ok (.iconst 1, 1) := by decide +kernel
theorem dX5_hoursAhead_4 : decode cX5_hoursAhead 4 = .ok (.isub, 1) := by decide +kernel
theorem dX5_hoursAhead_5 : decode cX5_hoursAhead 5 = .ok (.aload_n 0, 1) := by decide +kernel
theorem dX5_hoursAhead_6 : decode cX5_hoursAhead 6 = .ok (.getfield 25, 3) := by decide +kernel
theorem dX5_hoursAhead_9 : decode cX5_hoursAhead 9 = .ok (.getfield 75, 3) := by decide +kernel
theorem dX5_hoursAhead_12 : decode cX5_hoursAhead 12 = .ok (.iload_n 1, 1) := by decide +kernel
theorem dX5_hoursAhead_13 : decode cX5_hoursAhead 13 = .ok (.iaload, 1) := by decide +kernel
theorem dX5_hoursAhead_14 : decode cX5_hoursAhead 14 = .ok (.iconst (-1), 1) := by decide +kernel
theorem dX5_hoursAhead_15 : decode cX5_hoursAhead 15 = .ok (.ixor, 1) := by decide +kernel
theorem dX5_hoursAhead_16 : decode cX5_hoursAhead 16 = .ok (.iand, 1) := by decide +kernel
theorem dX5_hoursAhead_17 : decode cX5_hoursAhead 17 = .ok (.ireturn, 1) := by decide +kernel
def m_X5_hoursAhead (a1 : Int32) (g : Mm) : Option (Int32 × Mm) := gdd (ixo a1 24) (some ((((shlI (1 : Int32) a1) - (1 : Int32)) &&& ((rdI g 6 a1.toNatClampNeg) ^^^ (-1 : Int32))), g))
set_option maxHeartbeats 2000000 in
theorem c_X5_hoursAhead {r2 : Int32} {g g2 : Mm} {a1 : Int32} (h : m_X5_hoursAhead a1 g = some (r2, g2)) : gx_M 1 yX5_hoursAhead cX5_hoursAhead 2 (some .int) (fun al => [.ref (al (25)), .int (a1)]) g (some (.int r2)) g2 := by
  have hd : 1 ≤ 1 := Nat.le_refl _
  refine gx_M.of (by decide +kernel) (fun _ => Nat.le_of_ble_eq_true rfl) ?_
  intro p l e R s m args below meth c D al cI cJ A X
  refine gx_eq (pc' := 0) (ls' := [(0, .ref (al (25))), (1, .int (a1))]) (st' := []) (g' := g) ⟨rfl, rfl, rfl, rfl⟩ ?_
  unfold m_X5_hoursAhead at h
  refine gx_iconst X (v := (1 : Int32)) dX5_hoursAhead_0 (by decide) ?_
  refine gx_iload_n X 1 rfl dX5_hoursAhead_1 ?_
  refine gx_ishl X dX5_hoursAhead_2 ?_
  refine gx_iconst X (v := (1 : Int32)) dX5_hoursAhead_3 (by decide) ?_
  refine gx_isub X dX5_hoursAhead_4 ?_
  refine gx_aload_n X 0 rfl dX5_hoursAhead_5 ?_
  refine gx_getf X (25) lf_X5_25 (by decide) (cl_25 _ _) (v := .ref (al (1))) rfl dX5_hoursAhead_6 ?_
  refine gx_getn X (1) lf_X5_75 (by decide) (cl_1 _ _) (v := .ref (al (6))) rfl dX5_hoursAhead_9 ?_
  refine gx_iload_n X 1 rfl dX5_hoursAhead_12 ?_
  obtain ⟨q1, h⟩ := gdd_eq h
  refine gx_iald X (6) 24 (by decide) (cl_6 _ _) q1 dX5_hoursAhead_13 ?_
  refine gx_iconst X (v := (-1 : Int32)) dX5_hoursAhead_14 (by decide) ?_
  refine gx_ixor X dX5_hoursAhead_15 ?_
  refine gx_iand X dX5_hoursAhead_16 ?_
  obtain ⟨rfl, rfl⟩ := ret_eq h
  exact gx_iret X rfl dX5_hoursAhead_17
theorem dX5_isTold_0 : decode cX5_isTold 0 = .ok (.aload_n 0, 1) := by decide +kernel
theorem dX5_isTold_1 : decode cX5_isTold 1 = .ok (.getfield 25, 3) := by decide +kernel
theorem dX5_isTold_4 : decode cX5_isTold 4 = .ok (.invokevirtual 78, 3) := by decide +kernel
theorem dX5_isTold_7 : decode cX5_isTold 7 = .ok (.istore_n 3, 1) := by decide +kernel
theorem dX5_isTold_8 : decode cX5_isTold 8 = .ok (.iconst 0, 1) := by decide +kernel
theorem dX5_isTold_9 : decode cX5_isTold 9 = .ok (.istore 4, 2) := by decide +kernel
theorem dX5_isTold_11 : decode cX5_isTold 11 = .ok (.iload 4, 2) := by decide +kernel
theorem dX5_isTold_13 : decode cX5_isTold 13 = .ok (.aload_n 0, 1) := by decide +kernel
theorem dX5_isTold_14 : decode cX5_isTold 14 = .ok (.getfield 25, 3) := by decide +kernel
theorem dX5_isTold_17 : decode cX5_isTold 17 = .ok (.getfield 38, 3) := by decide +kernel
theorem dX5_isTold_20 : decode cX5_isTold 20 = .ok (.if_icmp .ge 31, 3) := by decide +kernel
theorem dX5_isTold_23 : decode cX5_isTold 23 = .ok (.iload_n 2, 1) := by decide +kernel
theorem dX5_isTold_24 : decode cX5_isTold 24 = .ok (.iload 4, 2) := by decide +kernel
theorem dX5_isTold_26 : decode cX5_isTold 26 = .ok (.ishr, 1) := by decide +kernel
theorem dX5_isTold_27 : decode cX5_isTold 27 = .ok (.iconst 1, 1) := by decide +kernel
theorem dX5_isTold_28 : decode cX5_isTold 28 = .ok (.iand, 1) := by decide +kernel
theorem dX5_isTold_29 : decode cX5_isTold 29 = .ok (.ifCond .eq 16, 3) := by decide +kernel
theorem dX5_isTold_32 : decode cX5_isTold 32 = .ok (.aload_n 0, 1) := by decide +kernel
theorem dX5_isTold_33 : decode cX5_isTold 33 = .ok (.aload_n 1, 1) := by decide +kernel
theorem dX5_isTold_34 : decode cX5_isTold 34 = .ok (.iload 4, 2) := by decide +kernel
theorem dX5_isTold_36 : decode cX5_isTold 36 = .ok (.invokevirtual 81, 3) := by decide +kernel
theorem dX5_isTold_39 : decode cX5_isTold 39 = .ok (.iload_n 3, 1) := by decide +kernel
theorem dX5_isTold_40 : decode cX5_isTold 40 = .ok (.if_icmp .ge 5, 3) := by decide +kernel
theorem dX5_isTold_43 : decode cX5_isTold 43 = .ok (.iconst 0, 1) := by decide +kernel
theorem dX5_isTold_44 : decode cX5_isTold 44 = .ok (.ireturn, 1) := by decide +kernel
theorem dX5_isTold_45 : decode cX5_isTold 45 = .ok (.iinc 4 1, 3) := by decide +kernel
theorem dX5_isTold_48 : decode cX5_isTold 48 = .ok (.goto (-37), 3) := by decide +kernel
theorem dX5_isTold_51 : decode cX5_isTold 51 = .ok (.iconst 1, 1) := by decide +kernel
theorem dX5_isTold_52 : decode cX5_isTold 52 = .ok (.ireturn, 1) := by decide +kernel
def m_X5_isTold_11 (a1 : Nat) (n1 : Nat) : Nat → Int32 → Int32 → Int32 → Mm → Option (Int32 × Mm)
  | 0, _, _, _, _ => none
  | n + 1, x2, x3, x4, g => (if (rdI g 1 1) ≤ x4 then some ((1 : Int32), g) else (if ((shrI x2 x4) &&& (1 : Int32)) = (0 : Int32) then m_X5_isTold_11 a1 n1 n x2 x3 (x4 + (1 : Int32)) g else bdd (m_X5_differences a1 n1 x4 g) (fun ra3 ga4 => (if x3 ≤ ra3 then m_X5_isTold_11 a1 n1 n x2 x3 (x4 + (1 : Int32)) ga4 else some ((0 : Int32), ga4)))))
set_option maxHeartbeats 2000000 in
theorem t_X5_isTold_11 {r2 : Int32} {g2 : Mm} (X : gx_X p R s m args meth c D al cI cJ A RX5 cX5_isTold 5 (some .boolean) d 0 0) (hd : 4 ≤ d) {a1 : Nat} {n1 : Nat} (h1 : ia_ a1 n1) : ∀ (n : Nat) (x2 : Int32) (x3 : Int32) (x4 : Int32) (g : Mm), m_X5_isTold_11 a1 n1 n x2 x3 x4 g = some (r2, g2) → gx_G p l e R s m args below meth c (gx_Q below args s D al cI cJ A (some (.int r2)) g2) D al cI cJ A 5 0 0 11 [(0, .ref (al (25))), (1, .ref (al (a1))), (2, .int (x2)), (3, .int (x3)), (4, .int (x4))] [] g := by
  intro n
  induction n with
  | zero => intro x2 x3 x4 g h; cases h
  | succ n ih =>
    intro x2 x3 x4 g h
    rw [m_X5_isTold_11] at h
    refine gx_iload X 4 rfl dX5_isTold_11 ?_
    refine gx_aload_n X 0 rfl dX5_isTold_13 ?_
    refine gx_getf X (25) lf_X5_25 (by decide) (cl_25 _ _) (v := .ref (al (1))) rfl dX5_isTold_14 ?_
    refine gx_getn X (1) lf_X5_38 (by decide) (cl_1 _ _) (v := .int ((rdI g 1 1))) rfl dX5_isTold_17 ?_
    refine gx_icmp_ge X 51 dX5_isTold_20 (by decide) (fun q1 => ?_) (fun q1 => ?_)
    · replace h := (if_pos q1).symm.trans h
      refine gx_iconst X (v := (1 : Int32)) dX5_isTold_51 (by decide) ?_
      obtain ⟨rfl, rfl⟩ := ret_eq h
      exact gx_iret X rfl dX5_isTold_52
    · replace h := (if_neg q1).symm.trans h
      refine gx_iload_n X 2 rfl dX5_isTold_23 ?_
      refine gx_iload X 4 rfl dX5_isTold_24 ?_
      refine gx_ishr X dX5_isTold_26 ?_
      refine gx_iconst X (v := (1 : Int32)) dX5_isTold_27 (by decide) ?_
      refine gx_iand X dX5_isTold_28 ?_
      refine gx_if_eq X 45 dX5_isTold_29 (by decide) (fun q2 => ?_) (fun q2 => ?_)
      · replace h := (if_pos q2).symm.trans h
        refine gx_iinc X [(4, .int ((x4 + (1 : Int32)))), (0, .ref (al (25))), (1, .ref (al (a1))), (2, .int (x2)), (3, .int (x3))] 4 dX5_isTold_45 rfl rfl (by decide) rfl ?_
        refine gx_goto X 11 dX5_isTold_48 (by decide) ?_
        exact gx_sub [1, 2, 3, 4, 0] rfl (ih x2 x3 (x4 + (1 : Int32)) g h)
      · replace h := (if_neg q2).symm.trans h
        refine gx_aload_n X 0 rfl dX5_isTold_32 ?_
        refine gx_aload_n X 1 rfl dX5_isTold_33 ?_
        refine gx_iload X 4 rfl dX5_isTold_34 ?_
        obtain ⟨ra3, ga4, ca5, h⟩ := bdd_eq h
        refine gx_callVi X (25) (c_X5_differences h1 ca5) lc_X5_differences li_X5_differences lm_X5_81 (by decide) (cl_25 _ _) rfl rfl rfl (Nat.le_trans (by decide) hd) rfl (Nat.le_of_ble_eq_true rfl) dX5_isTold_36 ?_
        refine gx_iload_n X 3 rfl dX5_isTold_39 ?_
        refine gx_icmp_ge X 45 dX5_isTold_40 (by decide) (fun q6 => ?_) (fun q6 => ?_)
        · replace h := (if_pos q6).symm.trans h
          refine gx_iinc X [(4, .int ((x4 + (1 : Int32)))), (0, .ref (al (25))), (1, .ref (al (a1))), (2, .int (x2)), (3, .int (x3))] 4 dX5_isTold_45 rfl rfl (by decide) rfl ?_
          refine gx_goto X 11 dX5_isTold_48 (by decide) ?_
          exact gx_sub [1, 2, 3, 4, 0] rfl (ih x2 x3 (x4 + (1 : Int32)) ga4 h)
        · replace h := (if_neg q6).symm.trans h
          refine gx_iconst X (v := (0 : Int32)) dX5_isTold_43 (by decide) ?_
          obtain ⟨rfl, rfl⟩ := ret_eq h
          exact gx_iret X rfl dX5_isTold_44
def m_X5_isTold (a1 : Nat) (n1 : Nat) (a2 : Int32) (g : Mm) : Option (Int32 × Mm) := bdd (m_X8_differencesWanted  g) (fun ra1 ga2 => m_X5_isTold_11 a1 n1 fuL a2 ra1 (0 : Int32) ga2)
set_option maxHeartbeats 2000000 in
theorem c_X5_isTold {r2 : Int32} {g g2 : Mm} {a1 : Nat} {n1 : Nat} {a2 : Int32} (h1 : ia_ a1 n1) (h : m_X5_isTold a1 n1 a2 g = some (r2, g2)) : gx_M 4 yX5_isTold cX5_isTold 5 (some .boolean) (fun al => [.ref (al (25)), .ref (al (a1)), .int (a2)]) g (some (.int r2)) g2 := by
  have hd : 4 ≤ 4 := Nat.le_refl _
  refine gx_M.of (by decide +kernel) (fun _ => Nat.le_of_ble_eq_true rfl) ?_
  intro p l e R s m args below meth c D al cI cJ A X
  refine gx_eq (pc' := 0) (ls' := [(0, .ref (al (25))), (1, .ref (al (a1))), (2, .int (a2))]) (st' := []) (g' := g) ⟨rfl, rfl, rfl, rfl⟩ ?_
  unfold m_X5_isTold at h
  refine gx_aload_n X 0 rfl dX5_isTold_0 ?_
  refine gx_getf X (25) lf_X5_25 (by decide) (cl_25 _ _) (v := .ref (al (1))) rfl dX5_isTold_1 ?_
  obtain ⟨ra1, ga2, ca3, h⟩ := bdd_eq h
  refine gx_callNi X (1) (c_X8_differencesWanted ca3) lc_X8_differencesWanted li_X8_differencesWanted lm_X5_78 (by decide) (cl_1 _ _) rfl rfl rfl (Nat.le_trans (by decide) hd) rfl (Nat.le_of_ble_eq_true rfl) dX5_isTold_4 ?_
  refine gx_istore_n X [(3, .int (ra1)), (0, .ref (al (25))), (1, .ref (al (a1))), (2, .int (a2))] dX5_isTold_7 (by decide) rfl ?_
  refine gx_iconst X (v := (0 : Int32)) dX5_isTold_8 (by decide) ?_
  refine gx_istore X [(4, .int ((0 : Int32))), (3, .int (ra1)), (0, .ref (al (25))), (1, .ref (al (a1))), (2, .int (a2))] dX5_isTold_9 (by decide) rfl ?_
  exact gx_sub [2, 3, 4, 1, 0] rfl (t_X5_isTold_11 X hd h1 fuL a2 ra1 (0 : Int32) ga2 h)
theorem dX5_spell_0 : decode cX5_spell 0 = .ok (.iload_n 1, 1) := by decide +kernel
theorem dX5_spell_1 : decode cX5_spell 1 = .ok (.istore_n 2, 1) := by decide +kernel
theorem dX5_spell_2 : decode cX5_spell 2 = .ok (.iconst 0, 1) := by decide +kernel
theorem dX5_spell_3 : decode cX5_spell 3 = .ok (.istore_n 3, 1) := by decide +kernel
theorem dX5_spell_4 : decode cX5_spell 4 = .ok (.aload_n 0, 1) := by decide +kernel
theorem dX5_spell_5 : decode cX5_spell 5 = .ok (.getfield 25, 3) := by decide +kernel
theorem dX5_spell_8 : decode cX5_spell 8 = .ok (.getfield 29, 3) := by decide +kernel
theorem dX5_spell_11 : decode cX5_spell 11 = .ok (.iconst 1, 1) := by decide +kernel
theorem dX5_spell_12 : decode cX5_spell 12 = .ok (.isub, 1) := by decide +kernel
theorem dX5_spell_13 : decode cX5_spell 13 = .ok (.istore 4, 2) := by decide +kernel
theorem dX5_spell_15 : decode cX5_spell 15 = .ok (.iload 4, 2) := by decide +kernel
theorem dX5_spell_17 : decode cX5_spell 17 = .ok (.ifCond .lt 49, 3) := by decide +kernel
theorem dX5_spell_20 : decode cX5_spell 20 = .ok (.aload_n 0, 1) := by decide +kernel
theorem dX5_spell_21 : decode cX5_spell 21 = .ok (.getfield 25, 3) := by decide +kernel
theorem dX5_spell_24 : decode cX5_spell 24 = .ok (.getfield 47, 3) := by decide +kernel
theorem dX5_spell_27 : decode cX5_spell 27 = .ok (.iload 4, 2) := by decide +kernel
theorem dX5_spell_29 : decode cX5_spell 29 = .ok (.iaload, 1) := by decide +kernel
theorem dX5_spell_30 : decode cX5_spell 30 = .ok (.iconst 1, 1) := by decide +kernel
theorem dX5_spell_31 : decode cX5_spell 31 = .ok (.iadd, 1) := by decide +kernel
theorem dX5_spell_32 : decode cX5_spell 32 = .ok (.istore 5, 2) := by decide +kernel
theorem dX5_spell_34 : decode cX5_spell 34 = .ok (.aload_n 0, 1) := by decide +kernel
theorem dX5_spell_35 : decode cX5_spell 35 = .ok (.getfield 9, 3) := by decide +kernel
theorem dX5_spell_38 : decode cX5_spell 38 = .ok (.iload 4, 2) := by decide +kernel
theorem dX5_spell_40 : decode cX5_spell 40 = .ok (.iload_n 2, 1) := by decide +kernel
theorem dX5_spell_41 : decode cX5_spell 41 = .ok (.iload 5, 2) := by decide +kernel
theorem dX5_spell_43 : decode cX5_spell 43 = .ok (.irem, 1) := by decide +kernel
theorem dX5_spell_44 : decode cX5_spell 44 = .ok (.iastore, 1) := by decide +kernel
theorem dX5_spell_45 : decode cX5_spell 45 = .ok (.iload_n 2, 1) := by decide +kernel
theorem dX5_spell_46 : decode cX5_spell 46 = .ok (.iload 5, 2) := by decide +kernel
theorem dX5_spell_48 : decode cX5_spell 48 = .ok (.idiv, 1) := by decide +kernel
theorem dX5_spell_49 : decode cX5_spell 49 = .ok (.istore_n 2, 1) := by decide +kernel
theorem dX5_spell_50 : decode cX5_spell 50 = .ok (.iload_n 3, 1) := by decide +kernel
theorem dX5_spell_51 : decode cX5_spell 51 = .ok (.aload_n 0, 1) := by decide +kernel
theorem dX5_spell_52 : decode cX5_spell 52 = .ok (.getfield 9, 3) := by decide +kernel
theorem dX5_spell_55 : decode cX5_spell 55 = .ok (.iload 4, 2) := by decide +kernel
theorem dX5_spell_57 : decode cX5_spell 57 = .ok (.iaload, 1) := by decide +kernel
theorem dX5_spell_58 : decode cX5_spell 58 = .ok (.iadd, 1) := by decide +kernel
theorem dX5_spell_59 : decode cX5_spell 59 = .ok (.istore_n 3, 1) := by decide +kernel
theorem dX5_spell_60 : decode cX5_spell 60 = .ok (.iinc 4 (-1), 3) := by decide +kernel
theorem dX5_spell_63 : decode cX5_spell 63 = .ok (.goto (-48), 3) := by decide +kernel
theorem dX5_spell_66 : decode cX5_spell 66 = .ok (.iload_n 3, 1) := by decide +kernel
theorem dX5_spell_67 : decode cX5_spell 67 = .ok (.ireturn, 1) := by decide +kernel
def m_X5_spell_15 : Nat → Int32 → Int32 → Int32 → Mm → Option (Int32 × Mm)
  | 0, _, _, _, _ => none
  | n + 1, x2, x3, x4, g => (if x4 < (0 : Int32) then some (x3, g) else gdd (ixo x4 6) (lti ((rdI g 2 x4.toNatClampNeg) + (1 : Int32)) (fun v3 => gdd (decide (¬ v3 = 0)) (gdd (ixo x4 6) (gdd (decide (¬ v3 = 0)) (gdd (ixo x4 6) (lti (x3 + (rdI (wrI g 26 x4.toNatClampNeg (rmI x2 v3)) 26 x4.toNatClampNeg)) (fun v8 => m_X5_spell_15 n (x2 / v3) v8 (x4 + (-1 : Int32)) (wrI g 26 x4.toNatClampNeg (rmI x2 v3))))))))))
set_option maxHeartbeats 2000000 in
theorem t_X5_spell_15 {r2 : Int32} {g2 : Mm} (X : gx_X p R s m args meth c D al cI cJ A RX5 cX5_spell 6 (some .int) d 0 0) (hd : 1 ≤ d) : ∀ (n : Nat) (x2 : Int32) (x3 : Int32) (x4 : Int32) (g : Mm), m_X5_spell_15 n x2 x3 x4 g = some (r2, g2) → gx_G p l e R s m args below meth c (gx_Q below args s D al cI cJ A (some (.int r2)) g2) D al cI cJ A 6 0 0 15 [(0, .ref (al (25))), (2, .int (x2)), (3, .int (x3)), (4, .int (x4))] [] g := by
  intro n
  induction n with
  | zero => intro x2 x3 x4 g h; cases h
  | succ n ih =>
    intro x2 x3 x4 g h
    rw [m_X5_spell_15] at h
    refine gx_iload X 3 rfl dX5_spell_15 ?_
    refine gx_if_lt X 66 dX5_spell_17 (by decide) (fun q1 => ?_) (fun q1 => ?_)
    · replace h := (if_pos q1).symm.trans h
      refine gx_iload_n X 2 rfl dX5_spell_66 ?_
      obtain ⟨rfl, rfl⟩ := ret_eq h
      exact gx_iret X rfl dX5_spell_67
    · replace h := (if_neg q1).symm.trans h
      refine gx_aload_n X 0 rfl dX5_spell_20 ?_
      refine gx_getf X (25) lf_X5_25 (by decide) (cl_25 _ _) (v := .ref (al (1))) rfl dX5_spell_21 ?_
      refine gx_getn X (1) lf_X5_47 (by decide) (cl_1 _ _) (v := .ref (al (2))) rfl dX5_spell_24 ?_
      refine gx_iload X 3 rfl dX5_spell_27 ?_
      obtain ⟨q2, h⟩ := gdd_eq h
      refine gx_iald X (2) 6 (by decide) (cl_2 _ _) q2 dX5_spell_29 ?_
      refine gx_iconst X (v := (1 : Int32)) dX5_spell_30 (by decide) ?_
      refine gx_iadd X dX5_spell_31 ?_
      obtain ⟨v3, ev3, h⟩ := lti_eq h
      refine gx_topi ev3 ?_
      refine gx_istore X [(5, .int (v3)), (0, .ref (al (25))), (2, .int (x2)), (3, .int (x3)), (4, .int (x4))] dX5_spell_32 (by decide) rfl ?_
      refine gx_aload_n X 1 rfl dX5_spell_34 ?_
      refine gx_getf X (25) lf_X5_9 (by decide) (cl_25 _ _) (v := .ref (al (26))) rfl dX5_spell_35 ?_
      refine gx_iload X 4 rfl dX5_spell_38 ?_
      refine gx_iload_n X 2 rfl dX5_spell_40 ?_
      refine gx_iload X 0 rfl dX5_spell_41 ?_
      obtain ⟨q4, h⟩ := gdd_eq h
      refine gx_irem X dX5_spell_43 (of_decide_eq_true q4) ?_
      obtain ⟨q5, h⟩ := gdd_eq h
      refine gx_iast X (26) 6 (by decide) (fun r => cl_26 r _) q5 dX5_spell_44 ?_
      refine gx_iload_n X 2 rfl dX5_spell_45 ?_
      refine gx_iload X 0 rfl dX5_spell_46 ?_
      obtain ⟨q6, h⟩ := gdd_eq h
      refine gx_idiv X dX5_spell_48 (of_decide_eq_true q6) ?_
      refine gx_istore_n X [(2, .int ((x2 / v3))), (5, .int (v3)), (0, .ref (al (25))), (3, .int (x3)), (4, .int (x4))] dX5_spell_49 (by decide) rfl ?_
      refine gx_iload_n X 3 rfl dX5_spell_50 ?_
      refine gx_aload_n X 2 rfl dX5_spell_51 ?_
      refine gx_getf X (25) lf_X5_9 (by decide) (cl_25 _ _) (v := .ref (al (26))) rfl dX5_spell_52 ?_
      refine gx_iload X 4 rfl dX5_spell_55 ?_
      obtain ⟨q7, h⟩ := gdd_eq h
      refine gx_iald X (26) 6 (by decide) (cl_26 _ _) q7 dX5_spell_57 ?_
      refine gx_iadd X dX5_spell_58 ?_
      obtain ⟨v8, ev8, h⟩ := lti_eq h
      refine gx_topi ev8 ?_
      refine gx_istore_n X [(3, .int (v8)), (2, .int ((x2 / v3))), (5, .int (v3)), (0, .ref (al (25))), (4, .int (x4))] dX5_spell_59 (by decide) rfl ?_
      refine gx_iinc X [(4, .int ((x4 + (-1 : Int32)))), (3, .int (v8)), (2, .int ((x2 / v3))), (5, .int (v3)), (0, .ref (al (25)))] 4 dX5_spell_60 rfl rfl (by decide) rfl ?_
      refine gx_goto X 15 dX5_spell_63 (by decide) ?_
      exact gx_sub [4, 2, 1, 0] rfl (ih (x2 / v3) v8 (x4 + (-1 : Int32)) (wrI g 26 x4.toNatClampNeg (rmI x2 v3)) h)
def m_X5_spell (a1 : Int32) (g : Mm) : Option (Int32 × Mm) := m_X5_spell_15 fuL a1 (0 : Int32) ((rdI g 1 0) - (1 : Int32)) g
set_option maxHeartbeats 2000000 in
theorem c_X5_spell {r2 : Int32} {g g2 : Mm} {a1 : Int32} (h : m_X5_spell a1 g = some (r2, g2)) : gx_M 1 yX5_spell cX5_spell 6 (some .int) (fun al => [.ref (al (25)), .int (a1)]) g (some (.int r2)) g2 := by
  have hd : 1 ≤ 1 := Nat.le_refl _
  refine gx_M.of (by decide +kernel) (fun _ => Nat.le_of_ble_eq_true rfl) ?_
  intro p l e R s m args below meth c D al cI cJ A X
  refine gx_eq (pc' := 0) (ls' := [(0, .ref (al (25))), (1, .int (a1))]) (st' := []) (g' := g) ⟨rfl, rfl, rfl, rfl⟩ ?_
  unfold m_X5_spell at h
  refine gx_iload_n X 1 rfl dX5_spell_0 ?_
  refine gx_istore_n X [(2, .int (a1)), (0, .ref (al (25))), (1, .int (a1))] dX5_spell_1 (by decide) rfl ?_
  refine gx_iconst X (v := (0 : Int32)) dX5_spell_2 (by decide) ?_
  refine gx_istore_n X [(3, .int ((0 : Int32))), (2, .int (a1)), (0, .ref (al (25))), (1, .int (a1))] dX5_spell_3 (by decide) rfl ?_
  refine gx_aload_n X 2 rfl dX5_spell_4 ?_
  refine gx_getf X (25) lf_X5_25 (by decide) (cl_25 _ _) (v := .ref (al (1))) rfl dX5_spell_5 ?_
  refine gx_getn X (1) lf_X5_29 (by decide) (cl_1 _ _) (v := .int ((rdI g 1 0))) rfl dX5_spell_8 ?_
  refine gx_iconst X (v := (1 : Int32)) dX5_spell_11 (by decide) ?_
  refine gx_isub X dX5_spell_12 ?_
  refine gx_istore X [(4, .int (((rdI g 1 0) - (1 : Int32)))), (3, .int ((0 : Int32))), (2, .int (a1)), (0, .ref (al (25))), (1, .int (a1))] dX5_spell_13 (by decide) rfl ?_
  exact gx_sub [3, 2, 1, 0] rfl (t_X5_spell_15 X hd fuL a1 (0 : Int32) ((rdI g 1 0) - (1 : Int32)) g h)
theorem dX5_fillFrom_0 : decode cX5_fillFrom 0 = .ok (.iload_n 1, 1) := by decide +kernel
theorem dX5_fillFrom_1 : decode cX5_fillFrom 1 = .ok (.aload_n 0, 1) := by decide +kernel
theorem dX5_fillFrom_2 : decode cX5_fillFrom 2 = .ok (.getfield 25, 3) := by decide +kernel
theorem dX5_fillFrom_5 : decode cX5_fillFrom 5 = .ok (.getfield 38, 3) := by decide +kernel
theorem dX5_fillFrom_8 : decode cX5_fillFrom 8 = .ok (.if_icmp .ge 8, 3) := by decide +kernel
theorem dX5_fillFrom_11 : decode cX5_fillFrom 11 = .ok (.iload_n 1, 1) := by decide +kernel
theorem dX5_fillFrom_12 : decode cX5_fillFrom 12 = .ok (.iconst 4, 1) := by decide +kernel
theorem dX5_fillFrom_13 : decode cX5_fillFrom 13 = .ok (.if_icmp .lt 27, 3) := by decide +kernel
theorem dX5_fillFrom_16 : decode cX5_fillFrom 16 = .ok (.aload_n 0, 1) := by decide +kernel
theorem dX5_fillFrom_17 : decode cX5_fillFrom 17 = .ok (.iload_n 2, 1) := by decide +kernel
theorem dX5_fillFrom_18 : decode cX5_fillFrom 18 = .ok (.putfield 21, 3) := by decide +kernel
theorem dX5_fillFrom_21 : decode cX5_fillFrom 21 = .ok (.aload_n 0, 1) := by decide +kernel
theorem dX5_fillFrom_22 : decode cX5_fillFrom 22 = .ok (.getfield 15, 3) := by decide +kernel
theorem dX5_fillFrom_25 : decode cX5_fillFrom 25 = .ok (.iconst 0, 1) := by decide +kernel
theorem dX5_fillFrom_26 : decode cX5_fillFrom 26 = .ok (.aload_n 0, 1) := by decide +kernel
theorem dX5_fillFrom_27 : decode cX5_fillFrom 27 = .ok (.getfield 18, 3) := by decide +kernel
theorem dX5_fillFrom_30 : decode cX5_fillFrom 30 = .ok (.iconst 0, 1) := by decide +kernel
theorem dX5_fillFrom_31 : decode cX5_fillFrom 31 = .ok (.aload_n 0, 1) := by decide +kernel
theorem dX5_fillFrom_32 : decode cX5_fillFrom 32 = .ok (.getfield 18, 3) := by decide +kernel
theorem dX5_fillFrom_35 : decode cX5_fillFrom 35 = .ok (.arraylength, 1) := by decide +kernel
theorem dX5_fillFrom_36 : decode cX5_fillFrom 36 = .ok (.invokestatic 54, 3) := by decide +kernel
theorem dX5_fillFrom_39 : decode cX5_fillFrom 39 = .ok (.return_, 1) := by decide +kernel
theorem dX5_fillFrom_40 : decode cX5_fillFrom 40 = .ok (.aload_n 0, 1) := by decide +kernel
theorem dX5_fillFrom_41 : decode cX5_fillFrom 41 = .ok (.invokevirtual 41, 3) := by decide +kernel
theorem dX5_fillFrom_44 : decode cX5_fillFrom 44 = .ok (.istore_n 3, 1) := by decide +kernel
theorem dX5_fillFrom_45 : decode cX5_fillFrom 45 = .ok (.iconst 0, 1) := by decide +kernel
theorem dX5_fillFrom_46 : decode cX5_fillFrom 46 = .ok (.istore 4, 2) := by decide +kernel
theorem dX5_fillFrom_48 : decode cX5_fillFrom 48 = .ok (.iload 4, 2) := by decide +kernel
theorem dX5_fillFrom_50 : decode cX5_fillFrom 50 = .ok (.iload_n 3, 1) := by decide +kernel
theorem dX5_fillFrom_51 : decode cX5_fillFrom 51 = .ok (.if_icmp .ge 17, 3) := by decide +kernel
theorem dX5_fillFrom_54 : decode cX5_fillFrom 54 = .ok (.aload_n 0, 1) := by decide +kernel
theorem dX5_fillFrom_55 : decode cX5_fillFrom 55 = .ok (.iload_n 1, 1) := by decide +kernel
theorem dX5_fillFrom_56 : decode cX5_fillFrom 56 = .ok (.iload 4, 2) := by decide +kernel
theorem dX5_fillFrom_58 : decode cX5_fillFrom 58 = .ok (.iload_n 2, 1) := by decide +kernel
theorem dX5_fillFrom_59 : decode cX5_fillFrom 59 = .ok (.invokevirtual 60, 3) := by decide +kernel
theorem dX5_fillFrom_62 : decode cX5_fillFrom 62 = .ok (.iinc 4 1, 3) := by decide +kernel
theorem dX5_fillFrom_65 : decode cX5_fillFrom 65 = .ok (.goto (-17), 3) := by decide +kernel
theorem dX5_fillFrom_68 : decode cX5_fillFrom 68 = .ok (.return_, 1) := by decide +kernel
def m_X5_fillFrom_16 (C : Nat → Int32 → Int32 → Int32 → Int32 → Mm → Option (Int32 × Mm)) (x2 : Int32) (g : Mm) : Option (Int32 × Mm) := gdd (acp (0 : Int32) (144 : Int32) 144) (gdd (acp (0 : Int32) (144 : Int32) 144) (some ((0 : Int32), (cpI (wrI g 25 4 x2) 27 (0 : Int32).toNatClampNeg 28 (0 : Int32).toNatClampNeg (144 : Int32).toNatClampNeg))))
set_option maxHeartbeats 2000000 in
theorem t_X5_fillFrom_16 {r2 : Int32} {g2 : Mm} (X : gx_X p R s m args meth c D al cI cJ A RX5 cX5_fillFrom 5 none d 0 0) (hd : 5 ≤ d) {dn : Nat} {C : Nat → Int32 → Int32 → Int32 → Int32 → Mm → Option (Int32 × Mm)} (hdn : dn + 1 ≤ d) (hC0 : ∀ (b0 b1 b2 b3 : Int32) (g : Mm) (rr : Int32) (gg : Mm), C 0 b0 b1 b2 b3 g = some (rr, gg) → gx_M dn yX5_fillFrom cX5_fillFrom 5 none (fun al => [.ref (al (25)), .int (b0), .int (b1)]) g none gg) (hC1 : ∀ (b0 b1 b2 b3 : Int32) (g : Mm) (rr : Int32) (gg : Mm), C 1 b0 b1 b2 b3 g = some (rr, gg) → gx_M dn yX5_tryRow cX5_tryRow 5 none (fun al => [.ref (al (25)), .int (b0), .int (b1), .int (b2)]) g none gg) : ∀ (x2 : Int32) (g : Mm), m_X5_fillFrom_16 C x2 g = some (r2, g2) → gx_G p l e R s m args below meth c (gx_Q below args s D al cI cJ A none g2) D al cI cJ A 5 0 0 16 [(0, .ref (al (25))), (2, .int (x2))] [] g := by
  intro x2 g h
  unfold m_X5_fillFrom_16 at h
  refine gx_aload_n X 0 rfl dX5_fillFrom_16 ?_
  refine gx_iload_n X 1 rfl dX5_fillFrom_17 ?_
  refine gx_putf X (25) x2 lf_X5_21 lp_X5_4 (by decide) (cl_25 _ _) (Nat.le_of_ble_eq_true rfl) rfl rfl rfl dX5_fillFrom_18 ?_
  refine gx_aload_n X 0 rfl dX5_fillFrom_21 ?_
  refine gx_getf X (25) lf_X5_15 (by decide) (cl_25 _ _) (v := .ref (al (27))) rfl dX5_fillFrom_22 ?_
  refine gx_iconst X (v := (0 : Int32)) dX5_fillFrom_25 (by decide) ?_
  refine gx_aload_n X 0 rfl dX5_fillFrom_26 ?_
  refine gx_getf X (25) lf_X5_18 (by decide) (cl_25 _ _) (v := .ref (al (28))) rfl dX5_fillFrom_27 ?_
  refine gx_iconst X (v := (0 : Int32)) dX5_fillFrom_30 (by decide) ?_
  refine gx_aload_n X 0 rfl dX5_fillFrom_31 ?_
  refine gx_getf X (25) lf_X5_18 (by decide) (cl_25 _ _) (v := .ref (al (28))) rfl dX5_fillFrom_32 ?_
  refine gx_alen X (28) 144 (v := (144 : Int32)) (by decide) (cl_28 _ _) (by decide) dX5_fillFrom_35 ?_
  obtain ⟨q1, h⟩ := gdd_eq h
  obtain ⟨q2, h⟩ := gdd_eq h
  refine gx_cpyI X (27) (28) 144 144 lm_X5_54 lx_nat lx_stat lx_ini (Nat.le_trans (by decide) hd) (by decide) (by decide) (cl_27 _ _) (fun r => cl_28 r _) q1 q2 (Nat.le_of_ble_eq_true rfl) dX5_fillFrom_36 ?_
  obtain ⟨rfl, rfl⟩ := ret_eq h
  exact gx_vret X dX5_fillFrom_39
def m_X5_fillFrom_48 (C : Nat → Int32 → Int32 → Int32 → Int32 → Mm → Option (Int32 × Mm)) : Nat → Int32 → Int32 → Int32 → Int32 → Mm → Option (Int32 × Mm)
  | 0, _, _, _, _, _ => none
  | n + 1, x1, x2, x3, x4, g => (if x3 ≤ x4 then some ((0 : Int32), g) else bdd (C 1 x1 x4 x2 (0 : Int32) g) (fun ra2 ga3 => m_X5_fillFrom_48 C n x1 x2 x3 (x4 + (1 : Int32)) ga3))
set_option maxHeartbeats 2000000 in
theorem t_X5_fillFrom_48 {r2 : Int32} {g2 : Mm} (X : gx_X p R s m args meth c D al cI cJ A RX5 cX5_fillFrom 5 none d 0 0) (hd : 5 ≤ d) {dn : Nat} {C : Nat → Int32 → Int32 → Int32 → Int32 → Mm → Option (Int32 × Mm)} (hdn : dn + 1 ≤ d) (hC0 : ∀ (b0 b1 b2 b3 : Int32) (g : Mm) (rr : Int32) (gg : Mm), C 0 b0 b1 b2 b3 g = some (rr, gg) → gx_M dn yX5_fillFrom cX5_fillFrom 5 none (fun al => [.ref (al (25)), .int (b0), .int (b1)]) g none gg) (hC1 : ∀ (b0 b1 b2 b3 : Int32) (g : Mm) (rr : Int32) (gg : Mm), C 1 b0 b1 b2 b3 g = some (rr, gg) → gx_M dn yX5_tryRow cX5_tryRow 5 none (fun al => [.ref (al (25)), .int (b0), .int (b1), .int (b2)]) g none gg) : ∀ (n : Nat) (x1 : Int32) (x2 : Int32) (x3 : Int32) (x4 : Int32) (g : Mm), m_X5_fillFrom_48 C n x1 x2 x3 x4 g = some (r2, g2) → gx_G p l e R s m args below meth c (gx_Q below args s D al cI cJ A none g2) D al cI cJ A 5 0 0 48 [(0, .ref (al (25))), (1, .int (x1)), (2, .int (x2)), (3, .int (x3)), (4, .int (x4))] [] g := by
  intro n
  induction n with
  | zero => intro x1 x2 x3 x4 g h; cases h
  | succ n ih =>
    intro x1 x2 x3 x4 g h
    rw [m_X5_fillFrom_48] at h
    refine gx_iload X 4 rfl dX5_fillFrom_48 ?_
    refine gx_iload_n X 3 rfl dX5_fillFrom_50 ?_
    refine gx_icmp_ge X 68 dX5_fillFrom_51 (by decide) (fun q1 => ?_) (fun q1 => ?_)
    · replace h := (if_pos q1).symm.trans h
      obtain ⟨rfl, rfl⟩ := ret_eq h
      exact gx_vret X dX5_fillFrom_68
    · replace h := (if_neg q1).symm.trans h
      refine gx_aload_n X 0 rfl dX5_fillFrom_54 ?_
      refine gx_iload_n X 1 rfl dX5_fillFrom_55 ?_
      refine gx_iload X 4 rfl dX5_fillFrom_56 ?_
      refine gx_iload_n X 2 rfl dX5_fillFrom_58 ?_
      obtain ⟨ra2, ga3, ca4, h⟩ := bdd_eq h
      refine gx_callVv X (25) (hC1 _ _ _ _ _ _ _ ca4) lc_X5_tryRow li_X5_tryRow lm_X5_60 (by decide) (cl_25 _ _) rfl rfl rfl hdn rfl (Nat.le_of_ble_eq_true rfl) dX5_fillFrom_59 ?_
      refine gx_iinc X [(4, .int ((x4 + (1 : Int32)))), (0, .ref (al (25))), (1, .int (x1)), (2, .int (x2)), (3, .int (x3))] 4 dX5_fillFrom_62 rfl rfl (by decide) rfl ?_
      refine gx_goto X 48 dX5_fillFrom_65 (by decide) ?_
      exact gx_sub [1, 2, 3, 4, 0] rfl (ih x1 x2 x3 (x4 + (1 : Int32)) ga3 h)
def m_X5_fillFrom (C : Nat → Int32 → Int32 → Int32 → Int32 → Mm → Option (Int32 × Mm)) (a1 : Int32) (a2 : Int32) (g : Mm) : Option (Int32 × Mm) := (if (rdI g 1 1) ≤ a1 then m_X5_fillFrom_16 C a2 g else (if a1 < (4 : Int32) then bdd (m_X5_rowsThereAre  g) (fun ra3 ga4 => m_X5_fillFrom_48 C fuL a1 a2 ra3 (0 : Int32) ga4) else m_X5_fillFrom_16 C a2 g))
set_option maxHeartbeats 2000000 in
theorem b_X5_fillFrom {d : Nat} {r2 : Int32} {g g2 : Mm} (hd : 5 ≤ d) {dn : Nat} {C : Nat → Int32 → Int32 → Int32 → Int32 → Mm → Option (Int32 × Mm)} (hdn : dn + 1 ≤ d) (hC0 : ∀ (b0 b1 b2 b3 : Int32) (g : Mm) (rr : Int32) (gg : Mm), C 0 b0 b1 b2 b3 g = some (rr, gg) → gx_M dn yX5_fillFrom cX5_fillFrom 5 none (fun al => [.ref (al (25)), .int (b0), .int (b1)]) g none gg) (hC1 : ∀ (b0 b1 b2 b3 : Int32) (g : Mm) (rr : Int32) (gg : Mm), C 1 b0 b1 b2 b3 g = some (rr, gg) → gx_M dn yX5_tryRow cX5_tryRow 5 none (fun al => [.ref (al (25)), .int (b0), .int (b1), .int (b2)]) g none gg) {a1 : Int32} {a2 : Int32} (h : m_X5_fillFrom C a1 a2 g = some (r2, g2)) : gx_M d yX5_fillFrom cX5_fillFrom 5 none (fun al => [.ref (al (25)), .int (a1), .int (a2)]) g none g2 := by
  refine gx_M.of (by decide +kernel) (fun _ => Nat.le_of_ble_eq_true rfl) ?_
  intro p l e R s m args below meth c D al cI cJ A X
  refine gx_eq (pc' := 0) (ls' := [(0, .ref (al (25))), (1, .int (a1)), (2, .int (a2))]) (st' := []) (g' := g) ⟨rfl, rfl, rfl, rfl⟩ ?_
  unfold m_X5_fillFrom at h
  refine gx_iload_n X 1 rfl dX5_fillFrom_0 ?_
  refine gx_aload_n X 0 rfl dX5_fillFrom_1 ?_
  refine gx_getf X (25) lf_X5_25 (by decide) (cl_25 _ _) (v := .ref (al (1))) rfl dX5_fillFrom_2 ?_
  refine gx_getn X (1) lf_X5_38 (by decide) (cl_1 _ _) (v := .int ((rdI g 1 1))) rfl dX5_fillFrom_5 ?_
  refine gx_icmp_ge X 16 dX5_fillFrom_8 (by decide) (fun q1 => ?_) (fun q1 => ?_)
  · replace h := (if_pos q1).symm.trans h
    exact gx_sub [0, 2] rfl (t_X5_fillFrom_16 X hd hdn hC0 hC1 a2 g h)
  · replace h := (if_neg q1).symm.trans h
    refine gx_iload_n X 1 rfl dX5_fillFrom_11 ?_
    refine gx_iconst X (v := (4 : Int32)) dX5_fillFrom_12 (by decide) ?_
    refine gx_icmp_lt X 40 dX5_fillFrom_13 (by decide) (fun q2 => ?_) (fun q2 => ?_)
    · replace h := (if_pos q2).symm.trans h
      refine gx_aload_n X 0 rfl dX5_fillFrom_40 ?_
      obtain ⟨ra3, ga4, ca5, h⟩ := bdd_eq h
      refine gx_callVi X (25) (c_X5_rowsThereAre ca5) lc_X5_rowsThereAre li_X5_rowsThereAre lm_X5_41 (by decide) (cl_25 _ _) rfl rfl rfl (Nat.le_trans (by decide) hd) rfl (Nat.le_of_ble_eq_true rfl) dX5_fillFrom_41 ?_
      refine gx_istore_n X [(3, .int (ra3)), (0, .ref (al (25))), (1, .int (a1)), (2, .int (a2))] dX5_fillFrom_44 (by decide) rfl ?_
      refine gx_iconst X (v := (0 : Int32)) dX5_fillFrom_45 (by decide) ?_
      refine gx_istore X [(4, .int ((0 : Int32))), (3, .int (ra3)), (0, .ref (al (25))), (1, .int (a1)), (2, .int (a2))] dX5_fillFrom_46 (by decide) rfl ?_
      exact gx_sub [2, 3, 4, 1, 0] rfl (t_X5_fillFrom_48 X hd hdn hC0 hC1 fuL a1 a2 ra3 (0 : Int32) ga4 h)
    · replace h := (if_neg q2).symm.trans h
      exact gx_sub [0, 2] rfl (t_X5_fillFrom_16 X hd hdn hC0 hC1 a2 g h)
theorem dX5_tryRow_0 : decode cX5_tryRow 0 = .ok (.iload_n 3, 1) := by decide +kernel
theorem dX5_tryRow_1 : decode cX5_tryRow 1 = .ok (.aload_n 0, 1) := by decide +kernel
theorem dX5_tryRow_2 : decode cX5_tryRow 2 = .ok (.iload_n 2, 1) := by decide +kernel
theorem dX5_tryRow_3 : decode cX5_tryRow 3 = .ok (.invokevirtual 64, 3) := by decide +kernel
theorem dX5_tryRow_6 : decode cX5_tryRow 6 = .ok (.iadd, 1) := by decide +kernel
theorem dX5_tryRow_7 : decode cX5_tryRow 7 = .ok (.istore 4, 2) := by decide +kernel
theorem dX5_tryRow_9 : decode cX5_tryRow 9 = .ok (.aload_n 0, 1) := by decide +kernel
theorem dX5_tryRow_10 : decode cX5_tryRow 10 = .ok (.getfield 21, 3) := by decide +kernel
theorem dX5_tryRow_13 : decode cX5_tryRow 13 = .ok (.ifCond .lt 12, 3) := by decide +kernel
theorem dX5_tryRow_16 : decode cX5_tryRow 16 = .ok (.iload 4, 2) := by decide +kernel
theorem dX5_tryRow_18 : decode cX5_tryRow 18 = .ok (.aload_n 0, 1) := by decide +kernel
theorem dX5_tryRow_19 : decode cX5_tryRow 19 = .ok (.getfield 21, 3) := by decide +kernel
theorem dX5_tryRow_22 : decode cX5_tryRow 22 = .ok (.if_icmp .ge 46, 3) := by decide +kernel
theorem dX5_tryRow_25 : decode cX5_tryRow 25 = .ok (.aload_n 0, 1) := by decide +kernel
theorem dX5_tryRow_26 : decode cX5_tryRow 26 = .ok (.aload_n 0, 1) := by decide +kernel
theorem dX5_tryRow_27 : decode cX5_tryRow 27 = .ok (.getfield 15, 3) := by decide +kernel
theorem dX5_tryRow_30 : decode cX5_tryRow 30 = .ok (.aload_n 0, 1) := by decide +kernel
theorem dX5_tryRow_31 : decode cX5_tryRow 31 = .ok (.iload_n 1, 1) := by decide +kernel
theorem dX5_tryRow_32 : decode cX5_tryRow 32 = .ok (.invokevirtual 68, 3) := by decide +kernel
theorem dX5_tryRow_35 : decode cX5_tryRow 35 = .ok (.invokevirtual 71, 3) := by decide +kernel
theorem dX5_tryRow_38 : decode cX5_tryRow 38 = .ok (.ifCond .eq 30, 3) := by decide +kernel
theorem dX5_tryRow_41 : decode cX5_tryRow 41 = .ok (.aload_n 0, 1) := by decide +kernel
theorem dX5_tryRow_42 : decode cX5_tryRow 42 = .ok (.getfield 9, 3) := by decide +kernel
theorem dX5_tryRow_45 : decode cX5_tryRow 45 = .ok (.iconst 0, 1) := by decide +kernel
theorem dX5_tryRow_46 : decode cX5_tryRow 46 = .ok (.aload_n 0, 1) := by decide +kernel
theorem dX5_tryRow_47 : decode cX5_tryRow 47 = .ok (.getfield 15, 3) := by decide +kernel
theorem dX5_tryRow_50 : decode cX5_tryRow 50 = .ok (.iload_n 1, 1) := by decide +kernel
theorem dX5_tryRow_51 : decode cX5_tryRow 51 = .ok (.bipush 6, 2) := by decide +kernel
theorem dX5_tryRow_53 : decode cX5_tryRow 53 = .ok (.imul, 1) := by decide +kernel
theorem dX5_tryRow_54 : decode cX5_tryRow 54 = .ok (.bipush 6, 2) := by decide +kernel
theorem dX5_tryRow_56 : decode cX5_tryRow 56 = .ok (.invokestatic 54, 3) := by decide +kernel
theorem dX5_tryRow_59 : decode cX5_tryRow 59 = .ok (.aload_n 0, 1) := by decide +kernel
theorem dX5_tryRow_60 : decode cX5_tryRow 60 = .ok (.iload_n 1, 1) := by decide +kernel
theorem dX5_tryRow_61 : decode cX5_tryRow 61 = .ok (.iconst 1, 1) := by decide +kernel
theorem dX5_tryRow_62 : decode cX5_tryRow 62 = .ok (.iadd, 1) := by decide +kernel
theorem dX5_tryRow_63 : decode cX5_tryRow 63 = .ok (.iload 4, 2) := by decide +kernel
theorem dX5_tryRow_65 : decode cX5_tryRow 65 = .ok (.invokevirtual 50, 3) := by decide +kernel
theorem dX5_tryRow_68 : decode cX5_tryRow 68 = .ok (.return_, 1) := by decide +kernel
def m_X5_tryRow_25 (C : Nat → Int32 → Int32 → Int32 → Int32 → Mm → Option (Int32 × Mm)) (x1 : Int32) (x4 : Int32) (g : Mm) : Option (Int32 × Mm) := bdd (m_X5_hoursAhead x1 g) (fun ra1 ga2 => bdd (m_X5_isTold 27 144 ra1 ga2) (fun ra4 ga5 => (if ra4 = (0 : Int32) then some ((0 : Int32), ga5) else gdd (acp (0 : Int32) (6 : Int32) 6) (gdd (acp (x1 * (6 : Int32)) (6 : Int32) 144) (bdd (C 0 (x1 + (1 : Int32)) x4 (0 : Int32) (0 : Int32) (cpI ga5 26 (0 : Int32).toNatClampNeg 27 (x1 * (6 : Int32)).toNatClampNeg (6 : Int32).toNatClampNeg)) (fun ra10 ga11 => some ((0 : Int32), ga11)))))))
set_option maxHeartbeats 2000000 in
theorem t_X5_tryRow_25 {r2 : Int32} {g2 : Mm} (X : gx_X p R s m args meth c D al cI cJ A RX5 cX5_tryRow 5 none d 0 0) (hd : 5 ≤ d) {dn : Nat} {C : Nat → Int32 → Int32 → Int32 → Int32 → Mm → Option (Int32 × Mm)} (hdn : dn + 1 ≤ d) (hC0 : ∀ (b0 b1 b2 b3 : Int32) (g : Mm) (rr : Int32) (gg : Mm), C 0 b0 b1 b2 b3 g = some (rr, gg) → gx_M dn yX5_fillFrom cX5_fillFrom 5 none (fun al => [.ref (al (25)), .int (b0), .int (b1)]) g none gg) (hC1 : ∀ (b0 b1 b2 b3 : Int32) (g : Mm) (rr : Int32) (gg : Mm), C 1 b0 b1 b2 b3 g = some (rr, gg) → gx_M dn yX5_tryRow cX5_tryRow 5 none (fun al => [.ref (al (25)), .int (b0), .int (b1), .int (b2)]) g none gg) : ∀ (x1 : Int32) (x4 : Int32) (g : Mm), m_X5_tryRow_25 C x1 x4 g = some (r2, g2) → gx_G p l e R s m args below meth c (gx_Q below args s D al cI cJ A none g2) D al cI cJ A 5 0 0 25 [(0, .ref (al (25))), (1, .int (x1)), (4, .int (x4))] [] g := by
  intro x1 x4 g h
  unfold m_X5_tryRow_25 at h
  refine gx_aload_n X 0 rfl dX5_tryRow_25 ?_
  refine gx_aload_n X 0 rfl dX5_tryRow_26 ?_
  refine gx_getf X (25) lf_X5_15 (by decide) (cl_25 _ _) (v := .ref (al (27))) rfl dX5_tryRow_27 ?_
  refine gx_aload_n X 0 rfl dX5_tryRow_30 ?_
  refine gx_iload_n X 1 rfl dX5_tryRow_31 ?_
  obtain ⟨ra1, ga2, ca3, h⟩ := bdd_eq h
  refine gx_callVi X (25) (c_X5_hoursAhead ca3) lc_X5_hoursAhead li_X5_hoursAhead lm_X5_68 (by decide) (cl_25 _ _) rfl rfl rfl (Nat.le_trans (by decide) hd) rfl (Nat.le_of_ble_eq_true rfl) dX5_tryRow_32 ?_
  obtain ⟨ra4, ga5, ca6, h⟩ := bdd_eq h
  refine gx_callVi X (25) (c_X5_isTold ⟨(by decide), fun _ _ _ _ _ => (cl_27 _ _)⟩ ca6) lc_X5_isTold li_X5_isTold lm_X5_71 (by decide) (cl_25 _ _) rfl rfl rfl (Nat.le_trans (by decide) hd) rfl (Nat.le_of_ble_eq_true rfl) dX5_tryRow_35 ?_
  refine gx_if_eq X 68 dX5_tryRow_38 (by decide) (fun q7 => ?_) (fun q7 => ?_)
  · replace h := (if_pos q7).symm.trans h
    obtain ⟨rfl, rfl⟩ := ret_eq h
    exact gx_vret X dX5_tryRow_68
  · replace h := (if_neg q7).symm.trans h
    refine gx_aload_n X 0 rfl dX5_tryRow_41 ?_
    refine gx_getf X (25) lf_X5_9 (by decide) (cl_25 _ _) (v := .ref (al (26))) rfl dX5_tryRow_42 ?_
    refine gx_iconst X (v := (0 : Int32)) dX5_tryRow_45 (by decide) ?_
    refine gx_aload_n X 0 rfl dX5_tryRow_46 ?_
    refine gx_getf X (25) lf_X5_15 (by decide) (cl_25 _ _) (v := .ref (al (27))) rfl dX5_tryRow_47 ?_
    refine gx_iload_n X 1 rfl dX5_tryRow_50 ?_
    refine gx_bipush X (v := (6 : Int32)) dX5_tryRow_51 (by decide) ?_
    refine gx_imul X dX5_tryRow_53 ?_
    refine gx_bipush X (v := (6 : Int32)) dX5_tryRow_54 (by decide) ?_
    obtain ⟨q8, h⟩ := gdd_eq h
    obtain ⟨q9, h⟩ := gdd_eq h
    refine gx_cpyI X (26) (27) 6 144 lm_X5_54 lx_nat lx_stat lx_ini (Nat.le_trans (by decide) hd) (by decide) (by decide) (cl_26 _ _) (fun r => cl_27 r _) q8 q9 (Nat.le_of_ble_eq_true rfl) dX5_tryRow_56 ?_
    refine gx_aload_n X 0 rfl dX5_tryRow_59 ?_
    refine gx_iload_n X 1 rfl dX5_tryRow_60 ?_
    refine gx_iconst X (v := (1 : Int32)) dX5_tryRow_61 (by decide) ?_
    refine gx_iadd X dX5_tryRow_62 ?_
    refine gx_iload X 2 rfl dX5_tryRow_63 ?_
    obtain ⟨ra10, ga11, ca12, h⟩ := bdd_eq h
    refine gx_callVv X (25) (hC0 _ _ _ _ _ _ _ ca12) lc_X5_fillFrom li_X5_fillFrom lm_X5_50 (by decide) (cl_25 _ _) rfl rfl rfl hdn rfl (Nat.le_of_ble_eq_true rfl) dX5_tryRow_65 ?_
    obtain ⟨rfl, rfl⟩ := ret_eq h
    exact gx_vret X dX5_tryRow_68
def m_X5_tryRow (C : Nat → Int32 → Int32 → Int32 → Int32 → Mm → Option (Int32 × Mm)) (a1 : Int32) (a2 : Int32) (a3 : Int32) (g : Mm) : Option (Int32 × Mm) := bdd (m_X5_spell a2 g) (fun ra1 ga2 => (if (rdI ga2 25 4) < (0 : Int32) then m_X5_tryRow_25 C a1 (a3 + ra1) ga2 else (if (rdI ga2 25 4) ≤ (a3 + ra1) then some ((0 : Int32), ga2) else m_X5_tryRow_25 C a1 (a3 + ra1) ga2)))
set_option maxHeartbeats 2000000 in
theorem b_X5_tryRow {d : Nat} {r2 : Int32} {g g2 : Mm} (hd : 5 ≤ d) {dn : Nat} {C : Nat → Int32 → Int32 → Int32 → Int32 → Mm → Option (Int32 × Mm)} (hdn : dn + 1 ≤ d) (hC0 : ∀ (b0 b1 b2 b3 : Int32) (g : Mm) (rr : Int32) (gg : Mm), C 0 b0 b1 b2 b3 g = some (rr, gg) → gx_M dn yX5_fillFrom cX5_fillFrom 5 none (fun al => [.ref (al (25)), .int (b0), .int (b1)]) g none gg) (hC1 : ∀ (b0 b1 b2 b3 : Int32) (g : Mm) (rr : Int32) (gg : Mm), C 1 b0 b1 b2 b3 g = some (rr, gg) → gx_M dn yX5_tryRow cX5_tryRow 5 none (fun al => [.ref (al (25)), .int (b0), .int (b1), .int (b2)]) g none gg) {a1 : Int32} {a2 : Int32} {a3 : Int32} (h : m_X5_tryRow C a1 a2 a3 g = some (r2, g2)) : gx_M d yX5_tryRow cX5_tryRow 5 none (fun al => [.ref (al (25)), .int (a1), .int (a2), .int (a3)]) g none g2 := by
  refine gx_M.of (by decide +kernel) (fun _ => Nat.le_of_ble_eq_true rfl) ?_
  intro p l e R s m args below meth c D al cI cJ A X
  refine gx_eq (pc' := 0) (ls' := [(0, .ref (al (25))), (1, .int (a1)), (2, .int (a2)), (3, .int (a3))]) (st' := []) (g' := g) ⟨rfl, rfl, rfl, rfl⟩ ?_
  unfold m_X5_tryRow at h
  refine gx_iload_n X 3 rfl dX5_tryRow_0 ?_
  refine gx_aload_n X 0 rfl dX5_tryRow_1 ?_
  refine gx_iload_n X 2 rfl dX5_tryRow_2 ?_
  obtain ⟨ra1, ga2, ca3, h⟩ := bdd_eq h
  refine gx_callVi X (25) (c_X5_spell ca3) lc_X5_spell li_X5_spell lm_X5_64 (by decide) (cl_25 _ _) rfl rfl rfl (Nat.le_trans (by decide) hd) rfl (Nat.le_of_ble_eq_true rfl) dX5_tryRow_3 ?_
  refine gx_iadd X dX5_tryRow_6 ?_
  refine gx_istore X [(4, .int ((a3 + ra1))), (0, .ref (al (25))), (1, .int (a1)), (2, .int (a2)), (3, .int (a3))] dX5_tryRow_7 (by decide) rfl ?_
  refine gx_aload_n X 1 rfl dX5_tryRow_9 ?_
  refine gx_getf X (25) lf_X5_21 (by decide) (cl_25 _ _) (v := .int ((rdI ga2 25 4))) rfl dX5_tryRow_10 ?_
  refine gx_if_lt X 25 dX5_tryRow_13 (by decide) (fun q4 => ?_) (fun q4 => ?_)
  · replace h := (if_pos q4).symm.trans h
    exact gx_sub [1, 2, 0] rfl (t_X5_tryRow_25 X hd hdn hC0 hC1 a1 (a3 + ra1) ga2 h)
  · replace h := (if_neg q4).symm.trans h
    refine gx_iload X 0 rfl dX5_tryRow_16 ?_
    refine gx_aload_n X 1 rfl dX5_tryRow_18 ?_
    refine gx_getf X (25) lf_X5_21 (by decide) (cl_25 _ _) (v := .int ((rdI ga2 25 4))) rfl dX5_tryRow_19 ?_
    refine gx_icmp_ge X 68 dX5_tryRow_22 (by decide) (fun q5 => ?_) (fun q5 => ?_)
    · replace h := (if_pos q5).symm.trans h
      obtain ⟨rfl, rfl⟩ := ret_eq h
      exact gx_vret X dX5_tryRow_68
    · replace h := (if_neg q5).symm.trans h
      exact gx_sub [1, 2, 0] rfl (t_X5_tryRow_25 X hd hdn hC0 hC1 a1 (a3 + ra1) ga2 h)
def gs_ : Nat → Nat → Int32 → Int32 → Int32 → Int32 → Mm → Option (Int32 × Mm)
  | 0, _, _, _, _, _, _ => none
  | n + 1, t, b0, b1, b2, b3, g => if t = 0 then m_X5_fillFrom (gs_ n) b0 b1 g else if t = 1 then m_X5_tryRow (gs_ n) b0 b1 b2 g else none
set_option maxHeartbeats 2000000 in
theorem gs_all : ∀ n : Nat, (∀ (b0 b1 b2 b3 : Int32) (g : Mm) (rr : Int32) (gg : Mm), gs_ n 0 b0 b1 b2 b3 g = some (rr, gg) → gx_M (5 + n) yX5_fillFrom cX5_fillFrom 5 none (fun al => [.ref (al (25)), .int (b0), .int (b1)]) g none gg) ∧ (∀ (b0 b1 b2 b3 : Int32) (g : Mm) (rr : Int32) (gg : Mm), gs_ n 1 b0 b1 b2 b3 g = some (rr, gg) → gx_M (5 + n) yX5_tryRow cX5_tryRow 5 none (fun al => [.ref (al (25)), .int (b0), .int (b1), .int (b2)]) g none gg) := by
  intro n
  induction n with
  | zero => exact ⟨fun b0 b1 b2 b3 g rr gg h => (by cases h), fun b0 b1 b2 b3 g rr gg h => (by cases h)⟩
  | succ n ih =>
    obtain ⟨i0, i1⟩ := ih
    have hd : 5 ≤ 5 + (n + 1) := Nat.le_add_right _ _
    have hdn : (5 + n) + 1 ≤ 5 + (n + 1) := Nat.le_refl _
    exact ⟨fun b0 b1 b2 b3 g rr gg h => b_X5_fillFrom hd hdn i0 i1 h, fun b0 b1 b2 b3 g rr gg h => b_X5_tryRow hd hdn i0 i1 h⟩
theorem c_X5_fillFrom {b0 b1 b2 b3 : Int32} {g : Mm} {rr : Int32} {gg : Mm} (h : gs_ 14 0 b0 b1 b2 b3 g = some (rr, gg)) : gx_M 19 yX5_fillFrom cX5_fillFrom 5 none (fun al => [.ref (al (25)), .int (b0), .int (b1)]) g none gg := (gs_all 14).1 _ _ _ _ _ _ _ h
theorem c_X5_tryRow {b0 b1 b2 b3 : Int32} {g : Mm} {rr : Int32} {gg : Mm} (h : gs_ 14 1 b0 b1 b2 b3 g = some (rr, gg)) : gx_M 19 yX5_tryRow cX5_tryRow 5 none (fun al => [.ref (al (25)), .int (b0), .int (b1), .int (b2)]) g none gg := (gs_all 14).2 _ _ _ _ _ _ _ h
theorem dX5_greatest_0 : decode cX5_greatest 0 = .ok (.iload_n 1, 1) := by decide +kernel
theorem dX5_greatest_1 : decode cX5_greatest 1 = .ok (.aload_n 0, 1) := by decide +kernel
theorem dX5_greatest_2 : decode cX5_greatest 2 = .ok (.getfield 25, 3) := by decide +kernel
theorem dX5_greatest_5 : decode cX5_greatest 5 = .ok (.getfield 29, 3) := by decide +kernel
theorem dX5_greatest_8 : decode cX5_greatest 8 = .ok (.if_icmp .ge 15, 3) := by decide +kernel
theorem dX5_greatest_11 : decode cX5_greatest 11 = .ok (.aload_n 0, 1) := by decide +kernel
theorem dX5_greatest_12 : decode cX5_greatest 12 = .ok (.getfield 25, 3) := by decide +kernel
theorem dX5_greatest_15 : decode cX5_greatest 15 = .ok (.getfield 47, 3) := by decide +kernel
theorem dX5_greatest_18 : decode cX5_greatest 18 = .ok (.iload_n 1, 1) := by decide +kernel
theorem dX5_greatest_19 : decode cX5_greatest 19 = .ok (.iaload, 1) := by decide +kernel
theorem dX5_greatest_20 : decode cX5_greatest 20 = .ok (.goto 4, 3) := by decide +kernel
theorem dX5_greatest_23 : decode cX5_greatest 23 = .ok (.iconst 0, 1) := by decide +kernel
theorem dX5_greatest_24 : decode cX5_greatest 24 = .ok (.ireturn, 1) := by decide +kernel
def m_X5_greatest (a1 : Int32) (g : Mm) : Option (Int32 × Mm) := (if (rdI g 1 0) ≤ a1 then some ((0 : Int32), g) else gdd (ixo a1 6) (some ((rdI g 2 a1.toNatClampNeg), g)))
set_option maxHeartbeats 2000000 in
theorem c_X5_greatest {r2 : Int32} {g g2 : Mm} {a1 : Int32} (h : m_X5_greatest a1 g = some (r2, g2)) : gx_M 1 yX5_greatest cX5_greatest 2 (some .int) (fun al => [.ref (al (25)), .int (a1)]) g (some (.int r2)) g2 := by
  have hd : 1 ≤ 1 := Nat.le_refl _
  refine gx_M.of (by decide +kernel) (fun _ => Nat.le_of_ble_eq_true rfl) ?_
  intro p l e R s m args below meth c D al cI cJ A X
  refine gx_eq (pc' := 0) (ls' := [(0, .ref (al (25))), (1, .int (a1))]) (st' := []) (g' := g) ⟨rfl, rfl, rfl, rfl⟩ ?_
  unfold m_X5_greatest at h
  refine gx_iload_n X 1 rfl dX5_greatest_0 ?_
  refine gx_aload_n X 0 rfl dX5_greatest_1 ?_
  refine gx_getf X (25) lf_X5_25 (by decide) (cl_25 _ _) (v := .ref (al (1))) rfl dX5_greatest_2 ?_
  refine gx_getn X (1) lf_X5_29 (by decide) (cl_1 _ _) (v := .int ((rdI g 1 0))) rfl dX5_greatest_5 ?_
  refine gx_icmp_ge X 23 dX5_greatest_8 (by decide) (fun q1 => ?_) (fun q1 => ?_)
  · replace h := (if_pos q1).symm.trans h
    refine gx_iconst X (v := (0 : Int32)) dX5_greatest_23 (by decide) ?_
    obtain ⟨rfl, rfl⟩ := ret_eq h
    exact gx_iret X rfl dX5_greatest_24
  · replace h := (if_neg q1).symm.trans h
    refine gx_aload_n X 0 rfl dX5_greatest_11 ?_
    refine gx_getf X (25) lf_X5_25 (by decide) (cl_25 _ _) (v := .ref (al (1))) rfl dX5_greatest_12 ?_
    refine gx_getn X (1) lf_X5_47 (by decide) (cl_1 _ _) (v := .ref (al (2))) rfl dX5_greatest_15 ?_
    refine gx_iload_n X 1 rfl dX5_greatest_18 ?_
    obtain ⟨q2, h⟩ := gdd_eq h
    refine gx_iald X (2) 6 (by decide) (cl_2 _ _) q2 dX5_greatest_19 ?_
    refine gx_goto X 24 dX5_greatest_20 (by decide) ?_
    obtain ⟨rfl, rfl⟩ := ret_eq h
    exact gx_iret X rfl dX5_greatest_24
theorem dX5_firstRowTold_0 : decode cX5_firstRowTold 0 = .ok (.aload_n 0, 1) := by decide +kernel
theorem dX5_firstRowTold_1 : decode cX5_firstRowTold 1 = .ok (.iconst 0, 1) := by decide +kernel
theorem dX5_firstRowTold_2 : decode cX5_firstRowTold 2 = .ok (.invokevirtual 91, 3) := by decide +kernel
theorem dX5_firstRowTold_5 : decode cX5_firstRowTold 5 = .ok (.aload_n 0, 1) := by decide +kernel
theorem dX5_firstRowTold_6 : decode cX5_firstRowTold 6 = .ok (.iconst 1, 1) := by decide +kernel
theorem dX5_firstRowTold_7 : decode cX5_firstRowTold 7 = .ok (.invokevirtual 91, 3) := by decide +kernel
theorem dX5_firstRowTold_10 : decode cX5_firstRowTold 10 = .ok (.iadd, 1) := by decide +kernel
theorem dX5_firstRowTold_11 : decode cX5_firstRowTold 11 = .ok (.aload_n 0, 1) := by decide +kernel
theorem dX5_firstRowTold_12 : decode cX5_firstRowTold 12 = .ok (.iconst 2, 1) := by decide +kernel
theorem dX5_firstRowTold_13 : decode cX5_firstRowTold 13 = .ok (.invokevirtual 91, 3) := by decide +kernel
theorem dX5_firstRowTold_16 : decode cX5_firstRowTold 16 = .ok (.iadd, 1) := by decide +kernel
theorem dX5_firstRowTold_17 : decode cX5_firstRowTold 17 = .ok (.istore_n 3, 1) := by decide +kernel
theorem dX5_firstRowTold_18 : decode cX5_firstRowTold 18 = .ok (.iconst 0, 1) := by decide +kernel
theorem dX5_firstRowTold_19 : decode cX5_firstRowTold 19 = .ok (.istore 4, 2) := by decide +kernel
theorem dX5_firstRowTold_21 : decode cX5_firstRowTold 21 = .ok (.iload 4, 2) := by decide +kernel
theorem dX5_firstRowTold_23 : decode cX5_firstRowTold 23 = .ok (.iload_n 3, 1) := by decide +kernel
theorem dX5_firstRowTold_24 : decode cX5_firstRowTold 24 = .ok (.if_icmp .gt 119, 3) := by decide +kernel
theorem dX5_firstRowTold_27 : decode cX5_firstRowTold 27 = .ok (.iconst 0, 1) := by decide +kernel
theorem dX5_firstRowTold_28 : decode cX5_firstRowTold 28 = .ok (.istore 5, 2) := by decide +kernel
theorem dX5_firstRowTold_30 : decode cX5_firstRowTold 30 = .ok (.iload 5, 2) := by decide +kernel
theorem dX5_firstRowTold_32 : decode cX5_firstRowTold 32 = .ok (.aload_n 0, 1) := by decide +kernel
theorem dX5_firstRowTold_33 : decode cX5_firstRowTold 33 = .ok (.iconst 0, 1) := by decide +kernel
theorem dX5_firstRowTold_34 : decode cX5_firstRowTold 34 = .ok (.invokevirtual 91, 3) := by decide +kernel
theorem dX5_firstRowTold_37 : decode cX5_firstRowTold 37 = .ok (.if_icmp .gt 100, 3) := by decide +kernel
theorem dX5_firstRowTold_40 : decode cX5_firstRowTold 40 = .ok (.iload 5, 2) := by decide +kernel
theorem dX5_firstRowTold_42 : decode cX5_firstRowTold 42 = .ok (.iload 4, 2) := by decide +kernel
theorem dX5_firstRowTold_44 : decode cX5_firstRowTold 44 = .ok (.if_icmp .gt 93, 3) := by decide +kernel
theorem dX5_firstRowTold_47 : decode cX5_firstRowTold 47 = .ok (.iconst 0, 1) := by decide +kernel
theorem dX5_firstRowTold_48 : decode cX5_firstRowTold 48 = .ok (.istore 6, 2) := by decide +kernel
theorem dX5_firstRowTold_50 : decode cX5_firstRowTold 50 = .ok (.iload 6, 2) := by decide +kernel
theorem dX5_firstRowTold_52 : decode cX5_firstRowTold 52 = .ok (.aload_n 0, 1) := by decide +kernel
theorem dX5_firstRowTold_53 : decode cX5_firstRowTold 53 = .ok (.iconst 1, 1) := by decide +kernel
theorem dX5_firstRowTold_54 : decode cX5_firstRowTold 54 = .ok (.invokevirtual 91, 3) := by decide +kernel
theorem dX5_firstRowTold_57 : decode cX5_firstRowTold 57 = .ok (.if_icmp .gt 74, 3) := by decide +kernel
theorem dX5_firstRowTold_60 : decode cX5_firstRowTold 60 = .ok (.iload 5, 2) := by decide +kernel
theorem dX5_firstRowTold_62 : decode cX5_firstRowTold 62 = .ok (.iload 6, 2) := by decide +kernel
theorem dX5_firstRowTold_64 : decode cX5_firstRowTold 64 = .ok (.iadd, 1) := by decide +kernel
theorem dX5_firstRowTold_65 : decode cX5_firstRowTold 65 = .ok (.iload 4, 2) := by decide +kernel
theorem dX5_firstRowTold_67 : decode cX5_firstRowTold 67 = .ok (.if_icmp .gt 64, 3) := by decide +kernel
theorem dX5_firstRowTold_70 : decode cX5_firstRowTold 70 = .ok (.aload_n 0, 1) := by decide +kernel
theorem dX5_firstRowTold_71 : decode cX5_firstRowTold 71 = .ok (.getfield 9, 3) := by decide +kernel
theorem dX5_firstRowTold_74 : decode cX5_firstRowTold 74 = .ok (.iconst 0, 1) := by decide +kernel
theorem dX5_firstRowTold_75 : decode cX5_firstRowTold 75 = .ok (.iload 5, 2) := by decide +kernel
theorem dX5_firstRowTold_77 : decode cX5_firstRowTold 77 = .ok (.iastore, 1) := by decide +kernel
theorem dX5_firstRowTold_78 : decode cX5_firstRowTold 78 = .ok (.aload_n 0, 1) := by decide +kernel
theorem dX5_firstRowTold_79 : decode cX5_firstRowTold 79 = .ok (.getfield 9, 3) := by decide +kernel
theorem dX5_firstRowTold_82 : decode cX5_firstRowTold 82 = .ok (.iconst 1, 1) := by decide +kernel
theorem dX5_firstRowTold_83 : decode cX5_firstRowTold 83 = .ok (.iload 6, 2) := by decide +kernel
theorem dX5_firstRowTold_85 : decode cX5_firstRowTold 85 = .ok (.iastore, 1) := by decide +kernel
theorem dX5_firstRowTold_86 : decode cX5_firstRowTold 86 = .ok (.aload_n 0, 1) := by decide +kernel
theorem dX5_firstRowTold_87 : decode cX5_firstRowTold 87 = .ok (.getfield 9, 3) := by decide +kernel
theorem dX5_firstRowTold_90 : decode cX5_firstRowTold 90 = .ok (.iconst 2, 1) := by decide +kernel
theorem dX5_firstRowTold_91 : decode cX5_firstRowTold 91 = .ok (.iload 4, 2) := by decide +kernel
theorem dX5_firstRowTold_93 : decode cX5_firstRowTold 93 = .ok (.iload 5, 2) := by decide +kernel
theorem dX5_firstRowTold_95 : decode cX5_firstRowTold 95 = .ok (.isub, 1) := by decide +kernel
theorem dX5_firstRowTold_96 : decode cX5_firstRowTold 96 = .ok (.iload 6, 2) := by decide +kernel
theorem dX5_firstRowTold_98 : decode cX5_firstRowTold 98 = .ok (.isub, 1) := by decide +kernel
theorem dX5_firstRowTold_99 : decode cX5_firstRowTold 99 = .ok (.iastore, 1) := by decide +kernel
theorem dX5_firstRowTold_100 : decode cX5_firstRowTold 100 = .ok (.aload_n 0, 1) := by decide +kernel
theorem dX5_firstRowTold_101 : decode cX5_firstRowTold 101 = .ok (.getfield 9, 3) := by decide +kernel
theorem dX5_firstRowTold_104 : decode cX5_firstRowTold 104 = .ok (.iconst 2, 1) := by decide +kernel
theorem dX5_firstRowTold_105 : decode cX5_firstRowTold 105 = .ok (.iaload, 1) := by decide +kernel
theorem dX5_firstRowTold_106 : decode cX5_firstRowTold 106 = .ok (.aload_n 0, 1) := by decide +kernel
theorem dX5_firstRowTold_107 : decode cX5_firstRowTold 107 = .ok (.iconst 2, 1) := by decide +kernel
theorem dX5_firstRowTold_108 : decode cX5_firstRowTold 108 = .ok (.invokevirtual 91, 3) := by decide +kernel
theorem dX5_firstRowTold_111 : decode cX5_firstRowTold 111 = .ok (.if_icmp .gt 14, 3) := by decide +kernel
theorem dX5_firstRowTold_114 : decode cX5_firstRowTold 114 = .ok (.aload_n 0, 1) := by decide +kernel
theorem dX5_firstRowTold_115 : decode cX5_firstRowTold 115 = .ok (.aload_n 1, 1) := by decide +kernel
theorem dX5_firstRowTold_116 : decode cX5_firstRowTold 116 = .ok (.iload_n 2, 1) := by decide +kernel
theorem dX5_firstRowTold_117 : decode cX5_firstRowTold 117 = .ok (.invokevirtual 71, 3) := by decide +kernel
theorem dX5_firstRowTold_120 : decode cX5_firstRowTold 120 = .ok (.ifCond .eq 5, 3) := by decide +kernel
theorem dX5_firstRowTold_123 : decode cX5_firstRowTold 123 = .ok (.iconst 1, 1) := by decide +kernel
theorem dX5_firstRowTold_124 : decode cX5_firstRowTold 124 = .ok (.ireturn, 1) := by decide +kernel
theorem dX5_firstRowTold_125 : decode cX5_firstRowTold 125 = .ok (.iinc 6 1, 3) := by decide +kernel
theorem dX5_firstRowTold_128 : decode cX5_firstRowTold 128 = .ok (.goto (-78), 3) := by decide +kernel
theorem dX5_firstRowTold_131 : decode cX5_firstRowTold 131 = .ok (.iinc 5 1, 3) := by decide +kernel
theorem dX5_firstRowTold_134 : decode cX5_firstRowTold 134 = .ok (.goto (-104), 3) := by decide +kernel
theorem dX5_firstRowTold_137 : decode cX5_firstRowTold 137 = .ok (.iinc 4 1, 3) := by decide +kernel
theorem dX5_firstRowTold_140 : decode cX5_firstRowTold 140 = .ok (.goto (-119), 3) := by decide +kernel
theorem dX5_firstRowTold_143 : decode cX5_firstRowTold 143 = .ok (.iconst 0, 1) := by decide +kernel
theorem dX5_firstRowTold_144 : decode cX5_firstRowTold 144 = .ok (.ireturn, 1) := by decide +kernel
def m_X5_firstRowTold_50 (a1 : Nat) (n1 : Nat) (K30 : Int32 → Int32 → Int32 → Int32 → Mm → Option (Int32 × Mm)) : Nat → Int32 → Int32 → Int32 → Int32 → Int32 → Mm → Option (Int32 × Mm)
  | 0, _, _, _, _, _, _ => none
  | n + 1, x2, x3, x4, x5, x6, g => bdd (m_X5_greatest (1 : Int32) g) (fun ra1 ga2 => (if ra1 < x6 then K30 x2 x3 x4 (x5 + (1 : Int32)) ga2 else (if x4 < (x5 + x6) then K30 x2 x3 x4 (x5 + (1 : Int32)) ga2 else gdd (ixo (0 : Int32) 6) (gdd (ixo (1 : Int32) 6) (gdd (ixo (2 : Int32) 6) (gdd (ixo (2 : Int32) 6) (bdd (m_X5_greatest (2 : Int32) (wrI (wrI (wrI ga2 26 (0 : Int32).toNatClampNeg x5) 26 (1 : Int32).toNatClampNeg x6) 26 (2 : Int32).toNatClampNeg ((x4 - x5) - x6))) (fun ra10 ga11 => (if ra10 < (rdI (wrI (wrI (wrI ga2 26 (0 : Int32).toNatClampNeg x5) 26 (1 : Int32).toNatClampNeg x6) 26 (2 : Int32).toNatClampNeg ((x4 - x5) - x6)) 26 (2 : Int32).toNatClampNeg) then m_X5_firstRowTold_50 a1 n1 K30 n x2 x3 x4 x5 (x6 + (1 : Int32)) ga11 else bdd (m_X5_isTold a1 n1 x2 ga11) (fun ra14 ga15 => (if ra14 = (0 : Int32) then m_X5_firstRowTold_50 a1 n1 K30 n x2 x3 x4 x5 (x6 + (1 : Int32)) ga15 else some ((1 : Int32), ga15))))))))))))
set_option maxHeartbeats 2000000 in
theorem t_X5_firstRowTold_50 {r2 : Int32} {g2 : Mm} (X : gx_X p R s m args meth c D al cI cJ A RX5 cX5_firstRowTold 7 (some .boolean) d 0 0) (hd : 5 ≤ d) {a1 : Nat} {n1 : Nat} (h1 : ia_ a1 n1) {K30 : Int32 → Int32 → Int32 → Int32 → Mm → Option (Int32 × Mm)} (hK30 : ∀ (u0 : Int32) (u1 : Int32) (u2 : Int32) (u3 : Int32) (g : Mm), K30 u0 u1 u2 u3 g = some (r2, g2) → gx_G p l e R s m args below meth c (gx_Q below args s D al cI cJ A (some (.int r2)) g2) D al cI cJ A 7 0 0 30 [(0, .ref (al (25))), (1, .ref (al (a1))), (2, .int (u0)), (3, .int (u1)), (4, .int (u2)), (5, .int (u3))] [] g) : ∀ (n : Nat) (x2 : Int32) (x3 : Int32) (x4 : Int32) (x5 : Int32) (x6 : Int32) (g : Mm), m_X5_firstRowTold_50 a1 n1 K30 n x2 x3 x4 x5 x6 g = some (r2, g2) → gx_G p l e R s m args below meth c (gx_Q below args s D al cI cJ A (some (.int r2)) g2) D al cI cJ A 7 0 0 50 [(0, .ref (al (25))), (1, .ref (al (a1))), (2, .int (x2)), (3, .int (x3)), (4, .int (x4)), (5, .int (x5)), (6, .int (x6))] [] g := by
  intro n
  induction n with
  | zero => intro x2 x3 x4 x5 x6 g h; cases h
  | succ n ih =>
    intro x2 x3 x4 x5 x6 g h
    rw [m_X5_firstRowTold_50] at h
    refine gx_iload X 6 rfl dX5_firstRowTold_50 ?_
    refine gx_aload_n X 0 rfl dX5_firstRowTold_52 ?_
    refine gx_iconst X (v := (1 : Int32)) dX5_firstRowTold_53 (by decide) ?_
    obtain ⟨ra1, ga2, ca3, h⟩ := bdd_eq h
    refine gx_callVi X (25) (c_X5_greatest ca3) lc_X5_greatest li_X5_greatest lm_X5_91 (by decide) (cl_25 _ _) rfl rfl rfl (Nat.le_trans (by decide) hd) rfl (Nat.le_of_ble_eq_true rfl) dX5_firstRowTold_54 ?_
    refine gx_icmp_gt X 131 dX5_firstRowTold_57 (by decide) (fun q4 => ?_) (fun q4 => ?_)
    · replace h := (if_pos q4).symm.trans h
      refine gx_iinc X [(5, .int ((x5 + (1 : Int32)))), (0, .ref (al (25))), (1, .ref (al (a1))), (2, .int (x2)), (3, .int (x3)), (4, .int (x4)), (6, .int (x6))] 5 dX5_firstRowTold_131 rfl rfl (by decide) rfl ?_
      refine gx_goto X 30 dX5_firstRowTold_134 (by decide) ?_
      exact gx_sub [1, 2, 3, 4, 5, 0] rfl (hK30 x2 x3 x4 (x5 + (1 : Int32)) ga2 h)
    · replace h := (if_neg q4).symm.trans h
      refine gx_iload X 5 rfl dX5_firstRowTold_60 ?_
      refine gx_iload X 6 rfl dX5_firstRowTold_62 ?_
      refine gx_iadd X dX5_firstRowTold_64 ?_
      refine gx_iload X 4 rfl dX5_firstRowTold_65 ?_
      refine gx_icmp_gt X 131 dX5_firstRowTold_67 (by decide) (fun q5 => ?_) (fun q5 => ?_)
      · replace h := (if_pos q5).symm.trans h
        refine gx_iinc X [(5, .int ((x5 + (1 : Int32)))), (0, .ref (al (25))), (1, .ref (al (a1))), (2, .int (x2)), (3, .int (x3)), (4, .int (x4)), (6, .int (x6))] 5 dX5_firstRowTold_131 rfl rfl (by decide) rfl ?_
        refine gx_goto X 30 dX5_firstRowTold_134 (by decide) ?_
        exact gx_sub [1, 2, 3, 4, 5, 0] rfl (hK30 x2 x3 x4 (x5 + (1 : Int32)) ga2 h)
      · replace h := (if_neg q5).symm.trans h
        refine gx_aload_n X 0 rfl dX5_firstRowTold_70 ?_
        refine gx_getf X (25) lf_X5_9 (by decide) (cl_25 _ _) (v := .ref (al (26))) rfl dX5_firstRowTold_71 ?_
        refine gx_iconst X (v := (0 : Int32)) dX5_firstRowTold_74 (by decide) ?_
        refine gx_iload X 5 rfl dX5_firstRowTold_75 ?_
        obtain ⟨q6, h⟩ := gdd_eq h
        refine gx_iast X (26) 6 (by decide) (fun r => cl_26 r _) q6 dX5_firstRowTold_77 ?_
        refine gx_aload_n X 0 rfl dX5_firstRowTold_78 ?_
        refine gx_getf X (25) lf_X5_9 (by decide) (cl_25 _ _) (v := .ref (al (26))) rfl dX5_firstRowTold_79 ?_
        refine gx_iconst X (v := (1 : Int32)) dX5_firstRowTold_82 (by decide) ?_
        refine gx_iload X 6 rfl dX5_firstRowTold_83 ?_
        obtain ⟨q7, h⟩ := gdd_eq h
        refine gx_iast X (26) 6 (by decide) (fun r => cl_26 r _) q7 dX5_firstRowTold_85 ?_
        refine gx_aload_n X 0 rfl dX5_firstRowTold_86 ?_
        refine gx_getf X (25) lf_X5_9 (by decide) (cl_25 _ _) (v := .ref (al (26))) rfl dX5_firstRowTold_87 ?_
        refine gx_iconst X (v := (2 : Int32)) dX5_firstRowTold_90 (by decide) ?_
        refine gx_iload X 4 rfl dX5_firstRowTold_91 ?_
        refine gx_iload X 5 rfl dX5_firstRowTold_93 ?_
        refine gx_isub X dX5_firstRowTold_95 ?_
        refine gx_iload X 6 rfl dX5_firstRowTold_96 ?_
        refine gx_isub X dX5_firstRowTold_98 ?_
        obtain ⟨q8, h⟩ := gdd_eq h
        refine gx_iast X (26) 6 (by decide) (fun r => cl_26 r _) q8 dX5_firstRowTold_99 ?_
        refine gx_aload_n X 0 rfl dX5_firstRowTold_100 ?_
        refine gx_getf X (25) lf_X5_9 (by decide) (cl_25 _ _) (v := .ref (al (26))) rfl dX5_firstRowTold_101 ?_
        refine gx_iconst X (v := (2 : Int32)) dX5_firstRowTold_104 (by decide) ?_
        obtain ⟨q9, h⟩ := gdd_eq h
        refine gx_iald X (26) 6 (by decide) (cl_26 _ _) q9 dX5_firstRowTold_105 ?_
        refine gx_aload_n X 0 rfl dX5_firstRowTold_106 ?_
        refine gx_iconst X (v := (2 : Int32)) dX5_firstRowTold_107 (by decide) ?_
        obtain ⟨ra10, ga11, ca12, h⟩ := bdd_eq h
        refine gx_callVi X (25) (c_X5_greatest ca12) lc_X5_greatest li_X5_greatest lm_X5_91 (by decide) (cl_25 _ _) rfl rfl rfl (Nat.le_trans (by decide) hd) rfl (Nat.le_of_ble_eq_true rfl) dX5_firstRowTold_108 ?_
        refine gx_icmp_gt X 125 dX5_firstRowTold_111 (by decide) (fun q13 => ?_) (fun q13 => ?_)
        · replace h := (if_pos q13).symm.trans h
          refine gx_iinc X [(6, .int ((x6 + (1 : Int32)))), (0, .ref (al (25))), (1, .ref (al (a1))), (2, .int (x2)), (3, .int (x3)), (4, .int (x4)), (5, .int (x5))] 6 dX5_firstRowTold_125 rfl rfl (by decide) rfl ?_
          refine gx_goto X 50 dX5_firstRowTold_128 (by decide) ?_
          exact gx_sub [1, 2, 3, 4, 5, 6, 0] rfl (ih x2 x3 x4 x5 (x6 + (1 : Int32)) ga11 h)
        · replace h := (if_neg q13).symm.trans h
          refine gx_aload_n X 0 rfl dX5_firstRowTold_114 ?_
          refine gx_aload_n X 1 rfl dX5_firstRowTold_115 ?_
          refine gx_iload_n X 2 rfl dX5_firstRowTold_116 ?_
          obtain ⟨ra14, ga15, ca16, h⟩ := bdd_eq h
          refine gx_callVi X (25) (c_X5_isTold h1 ca16) lc_X5_isTold li_X5_isTold lm_X5_71 (by decide) (cl_25 _ _) rfl rfl rfl (Nat.le_trans (by decide) hd) rfl (Nat.le_of_ble_eq_true rfl) dX5_firstRowTold_117 ?_
          refine gx_if_eq X 125 dX5_firstRowTold_120 (by decide) (fun q17 => ?_) (fun q17 => ?_)
          · replace h := (if_pos q17).symm.trans h
            refine gx_iinc X [(6, .int ((x6 + (1 : Int32)))), (0, .ref (al (25))), (1, .ref (al (a1))), (2, .int (x2)), (3, .int (x3)), (4, .int (x4)), (5, .int (x5))] 6 dX5_firstRowTold_125 rfl rfl (by decide) rfl ?_
            refine gx_goto X 50 dX5_firstRowTold_128 (by decide) ?_
            exact gx_sub [1, 2, 3, 4, 5, 6, 0] rfl (ih x2 x3 x4 x5 (x6 + (1 : Int32)) ga15 h)
          · replace h := (if_neg q17).symm.trans h
            refine gx_iconst X (v := (1 : Int32)) dX5_firstRowTold_123 (by decide) ?_
            obtain ⟨rfl, rfl⟩ := ret_eq h
            exact gx_iret X rfl dX5_firstRowTold_124
def m_X5_firstRowTold_30 (a1 : Nat) (n1 : Nat) (K21 : Int32 → Int32 → Int32 → Mm → Option (Int32 × Mm)) : Nat → Int32 → Int32 → Int32 → Int32 → Mm → Option (Int32 × Mm)
  | 0, _, _, _, _, _ => none
  | n + 1, x2, x3, x4, x5, g => bdd (m_X5_greatest (0 : Int32) g) (fun ra1 ga2 => (if ra1 < x5 then K21 x2 x3 (x4 + (1 : Int32)) ga2 else (if x4 < x5 then K21 x2 x3 (x4 + (1 : Int32)) ga2 else m_X5_firstRowTold_50 a1 n1 (m_X5_firstRowTold_30 a1 n1 K21 n) fuL x2 x3 x4 x5 (0 : Int32) ga2)))
set_option maxHeartbeats 2000000 in
theorem t_X5_firstRowTold_30 {r2 : Int32} {g2 : Mm} (X : gx_X p R s m args meth c D al cI cJ A RX5 cX5_firstRowTold 7 (some .boolean) d 0 0) (hd : 5 ≤ d) {a1 : Nat} {n1 : Nat} (h1 : ia_ a1 n1) {K21 : Int32 → Int32 → Int32 → Mm → Option (Int32 × Mm)} (hK21 : ∀ (u0 : Int32) (u1 : Int32) (u2 : Int32) (g : Mm), K21 u0 u1 u2 g = some (r2, g2) → gx_G p l e R s m args below meth c (gx_Q below args s D al cI cJ A (some (.int r2)) g2) D al cI cJ A 7 0 0 21 [(0, .ref (al (25))), (1, .ref (al (a1))), (2, .int (u0)), (3, .int (u1)), (4, .int (u2))] [] g) : ∀ (n : Nat) (x2 : Int32) (x3 : Int32) (x4 : Int32) (x5 : Int32) (g : Mm), m_X5_firstRowTold_30 a1 n1 K21 n x2 x3 x4 x5 g = some (r2, g2) → gx_G p l e R s m args below meth c (gx_Q below args s D al cI cJ A (some (.int r2)) g2) D al cI cJ A 7 0 0 30 [(0, .ref (al (25))), (1, .ref (al (a1))), (2, .int (x2)), (3, .int (x3)), (4, .int (x4)), (5, .int (x5))] [] g := by
  intro n
  induction n with
  | zero => intro x2 x3 x4 x5 g h; cases h
  | succ n ih =>
    intro x2 x3 x4 x5 g h
    rw [m_X5_firstRowTold_30] at h
    refine gx_iload X 5 rfl dX5_firstRowTold_30 ?_
    refine gx_aload_n X 0 rfl dX5_firstRowTold_32 ?_
    refine gx_iconst X (v := (0 : Int32)) dX5_firstRowTold_33 (by decide) ?_
    obtain ⟨ra1, ga2, ca3, h⟩ := bdd_eq h
    refine gx_callVi X (25) (c_X5_greatest ca3) lc_X5_greatest li_X5_greatest lm_X5_91 (by decide) (cl_25 _ _) rfl rfl rfl (Nat.le_trans (by decide) hd) rfl (Nat.le_of_ble_eq_true rfl) dX5_firstRowTold_34 ?_
    refine gx_icmp_gt X 137 dX5_firstRowTold_37 (by decide) (fun q4 => ?_) (fun q4 => ?_)
    · replace h := (if_pos q4).symm.trans h
      refine gx_iinc X [(4, .int ((x4 + (1 : Int32)))), (0, .ref (al (25))), (1, .ref (al (a1))), (2, .int (x2)), (3, .int (x3)), (5, .int (x5))] 4 dX5_firstRowTold_137 rfl rfl (by decide) rfl ?_
      refine gx_goto X 21 dX5_firstRowTold_140 (by decide) ?_
      exact gx_sub [1, 2, 3, 4, 0] rfl (hK21 x2 x3 (x4 + (1 : Int32)) ga2 h)
    · replace h := (if_neg q4).symm.trans h
      refine gx_iload X 5 rfl dX5_firstRowTold_40 ?_
      refine gx_iload X 4 rfl dX5_firstRowTold_42 ?_
      refine gx_icmp_gt X 137 dX5_firstRowTold_44 (by decide) (fun q5 => ?_) (fun q5 => ?_)
      · replace h := (if_pos q5).symm.trans h
        refine gx_iinc X [(4, .int ((x4 + (1 : Int32)))), (0, .ref (al (25))), (1, .ref (al (a1))), (2, .int (x2)), (3, .int (x3)), (5, .int (x5))] 4 dX5_firstRowTold_137 rfl rfl (by decide) rfl ?_
        refine gx_goto X 21 dX5_firstRowTold_140 (by decide) ?_
        exact gx_sub [1, 2, 3, 4, 0] rfl (hK21 x2 x3 (x4 + (1 : Int32)) ga2 h)
      · replace h := (if_neg q5).symm.trans h
        refine gx_iconst X (v := (0 : Int32)) dX5_firstRowTold_47 (by decide) ?_
        refine gx_istore X [(6, .int ((0 : Int32))), (0, .ref (al (25))), (1, .ref (al (a1))), (2, .int (x2)), (3, .int (x3)), (4, .int (x4)), (5, .int (x5))] dX5_firstRowTold_48 (by decide) rfl ?_
        exact gx_sub [1, 2, 3, 4, 5, 6, 0] rfl (t_X5_firstRowTold_50 X hd h1 (fun u0 u1 u2 u3 g h => ih u0 u1 u2 u3 g h) fuL x2 x3 x4 x5 (0 : Int32) ga2 h)
def m_X5_firstRowTold_21 (a1 : Nat) (n1 : Nat) : Nat → Int32 → Int32 → Int32 → Mm → Option (Int32 × Mm)
  | 0, _, _, _, _ => none
  | n + 1, x2, x3, x4, g => (if x3 < x4 then some ((0 : Int32), g) else m_X5_firstRowTold_30 a1 n1 (m_X5_firstRowTold_21 a1 n1 n) fuL x2 x3 x4 (0 : Int32) g)
set_option maxHeartbeats 2000000 in
theorem t_X5_firstRowTold_21 {r2 : Int32} {g2 : Mm} (X : gx_X p R s m args meth c D al cI cJ A RX5 cX5_firstRowTold 7 (some .boolean) d 0 0) (hd : 5 ≤ d) {a1 : Nat} {n1 : Nat} (h1 : ia_ a1 n1) : ∀ (n : Nat) (x2 : Int32) (x3 : Int32) (x4 : Int32) (g : Mm), m_X5_firstRowTold_21 a1 n1 n x2 x3 x4 g = some (r2, g2) → gx_G p l e R s m args below meth c (gx_Q below args s D al cI cJ A (some (.int r2)) g2) D al cI cJ A 7 0 0 21 [(0, .ref (al (25))), (1, .ref (al (a1))), (2, .int (x2)), (3, .int (x3)), (4, .int (x4))] [] g := by
  intro n
  induction n with
  | zero => intro x2 x3 x4 g h; cases h
  | succ n ih =>
    intro x2 x3 x4 g h
    rw [m_X5_firstRowTold_21] at h
    refine gx_iload X 4 rfl dX5_firstRowTold_21 ?_
    refine gx_iload_n X 3 rfl dX5_firstRowTold_23 ?_
    refine gx_icmp_gt X 143 dX5_firstRowTold_24 (by decide) (fun q1 => ?_) (fun q1 => ?_)
    · replace h := (if_pos q1).symm.trans h
      refine gx_iconst X (v := (0 : Int32)) dX5_firstRowTold_143 (by decide) ?_
      obtain ⟨rfl, rfl⟩ := ret_eq h
      exact gx_iret X rfl dX5_firstRowTold_144
    · replace h := (if_neg q1).symm.trans h
      refine gx_iconst X (v := (0 : Int32)) dX5_firstRowTold_27 (by decide) ?_
      refine gx_istore X [(5, .int ((0 : Int32))), (0, .ref (al (25))), (1, .ref (al (a1))), (2, .int (x2)), (3, .int (x3)), (4, .int (x4))] dX5_firstRowTold_28 (by decide) rfl ?_
      exact gx_sub [1, 2, 3, 4, 5, 0] rfl (t_X5_firstRowTold_30 X hd h1 (fun u0 u1 u2 g h => ih u0 u1 u2 g h) fuL x2 x3 x4 (0 : Int32) g h)
def m_X5_firstRowTold (a1 : Nat) (n1 : Nat) (a2 : Int32) (g : Mm) : Option (Int32 × Mm) := bdd (m_X5_greatest (0 : Int32) g) (fun ra1 ga2 => bdd (m_X5_greatest (1 : Int32) ga2) (fun ra4 ga5 => bdd (m_X5_greatest (2 : Int32) ga5) (fun ra7 ga8 => m_X5_firstRowTold_21 a1 n1 fuL a2 ((ra1 + ra4) + ra7) (0 : Int32) ga8)))
set_option maxHeartbeats 2000000 in
theorem c_X5_firstRowTold {r2 : Int32} {g g2 : Mm} {a1 : Nat} {n1 : Nat} {a2 : Int32} (h1 : ia_ a1 n1) (h : m_X5_firstRowTold a1 n1 a2 g = some (r2, g2)) : gx_M 5 yX5_firstRowTold cX5_firstRowTold 7 (some .boolean) (fun al => [.ref (al (25)), .ref (al (a1)), .int (a2)]) g (some (.int r2)) g2 := by
  have hd : 5 ≤ 5 := Nat.le_refl _
  refine gx_M.of (by decide +kernel) (fun _ => Nat.le_of_ble_eq_true rfl) ?_
  intro p l e R s m args below meth c D al cI cJ A X
  refine gx_eq (pc' := 0) (ls' := [(0, .ref (al (25))), (1, .ref (al (a1))), (2, .int (a2))]) (st' := []) (g' := g) ⟨rfl, rfl, rfl, rfl⟩ ?_
  unfold m_X5_firstRowTold at h
  refine gx_aload_n X 0 rfl dX5_firstRowTold_0 ?_
  refine gx_iconst X (v := (0 : Int32)) dX5_firstRowTold_1 (by decide) ?_
  obtain ⟨ra1, ga2, ca3, h⟩ := bdd_eq h
  refine gx_callVi X (25) (c_X5_greatest ca3) lc_X5_greatest li_X5_greatest lm_X5_91 (by decide) (cl_25 _ _) rfl rfl rfl (Nat.le_trans (by decide) hd) rfl (Nat.le_of_ble_eq_true rfl) dX5_firstRowTold_2 ?_
  refine gx_aload_n X 0 rfl dX5_firstRowTold_5 ?_
  refine gx_iconst X (v := (1 : Int32)) dX5_firstRowTold_6 (by decide) ?_
  obtain ⟨ra4, ga5, ca6, h⟩ := bdd_eq h
  refine gx_callVi X (25) (c_X5_greatest ca6) lc_X5_greatest li_X5_greatest lm_X5_91 (by decide) (cl_25 _ _) rfl rfl rfl (Nat.le_trans (by decide) hd) rfl (Nat.le_of_ble_eq_true rfl) dX5_firstRowTold_7 ?_
  refine gx_iadd X dX5_firstRowTold_10 ?_
  refine gx_aload_n X 0 rfl dX5_firstRowTold_11 ?_
  refine gx_iconst X (v := (2 : Int32)) dX5_firstRowTold_12 (by decide) ?_
  obtain ⟨ra7, ga8, ca9, h⟩ := bdd_eq h
  refine gx_callVi X (25) (c_X5_greatest ca9) lc_X5_greatest li_X5_greatest lm_X5_91 (by decide) (cl_25 _ _) rfl rfl rfl (Nat.le_trans (by decide) hd) rfl (Nat.le_of_ble_eq_true rfl) dX5_firstRowTold_13 ?_
  refine gx_iadd X dX5_firstRowTold_16 ?_
  refine gx_istore_n X [(3, .int (((ra1 + ra4) + ra7))), (0, .ref (al (25))), (1, .ref (al (a1))), (2, .int (a2))] dX5_firstRowTold_17 (by decide) rfl ?_
  refine gx_iconst X (v := (0 : Int32)) dX5_firstRowTold_18 (by decide) ?_
  refine gx_istore X [(4, .int ((0 : Int32))), (3, .int (((ra1 + ra4) + ra7))), (0, .ref (al (25))), (1, .ref (al (a1))), (2, .int (a2))] dX5_firstRowTold_19 (by decide) rfl ?_
  exact gx_sub [2, 3, 4, 1, 0] rfl (t_X5_firstRowTold_21 X hd h1 fuL a2 ((ra1 + ra4) + ra7) (0 : Int32) ga8 h)
theorem dX5_firstAlarm_0 : decode cX5_firstAlarm 0 = .ok (.aload_n 0, 1) := by decide +kernel
theorem dX5_firstAlarm_1 : decode cX5_firstAlarm 1 = .ok (.aload_n 0, 1) := by decide +kernel
theorem dX5_firstAlarm_2 : decode cX5_firstAlarm 2 = .ok (.getfield 25, 3) := by decide +kernel
theorem dX5_firstAlarm_5 : decode cX5_firstAlarm 5 = .ok (.getfield 88, 3) := by decide +kernel
theorem dX5_firstAlarm_8 : decode cX5_firstAlarm 8 = .ok (.iconst 1, 1) := by decide +kernel
theorem dX5_firstAlarm_9 : decode cX5_firstAlarm 9 = .ok (.aload_n 0, 1) := by decide +kernel
theorem dX5_firstAlarm_10 : decode cX5_firstAlarm 10 = .ok (.getfield 25, 3) := by decide +kernel
theorem dX5_firstAlarm_13 : decode cX5_firstAlarm 13 = .ok (.getfield 38, 3) := by decide +kernel
theorem dX5_firstAlarm_16 : decode cX5_firstAlarm 16 = .ok (.ishl, 1) := by decide +kernel
theorem dX5_firstAlarm_17 : decode cX5_firstAlarm 17 = .ok (.iconst 1, 1) := by decide +kernel
theorem dX5_firstAlarm_18 : decode cX5_firstAlarm 18 = .ok (.isub, 1) := by decide +kernel
theorem dX5_firstAlarm_19 : decode cX5_firstAlarm 19 = .ok (.invokevirtual 85, 3) := by decide +kernel
theorem dX5_firstAlarm_22 : decode cX5_firstAlarm 22 = .ok (.ireturn, 1) := by decide +kernel
def m_X5_firstAlarm (g : Mm) : Option (Int32 × Mm) := bdd (m_X5_firstRowTold 5 144 ((shlI (1 : Int32) (rdI g 1 1)) - (1 : Int32)) g) (fun ra1 ga2 => gdd (zbI ra1) (some (ra1, ga2)))
set_option maxHeartbeats 2000000 in
theorem c_X5_firstAlarm {r2 : Int32} {g g2 : Mm} (h : m_X5_firstAlarm g = some (r2, g2)) : gx_M 6 yX5_firstAlarm cX5_firstAlarm 1 (some .boolean) (fun al => [.ref (al (25))]) g (some (.int r2)) g2 := by
  have hd : 6 ≤ 6 := Nat.le_refl _
  refine gx_M.of (by decide +kernel) (fun _ => Nat.le_of_ble_eq_true rfl) ?_
  intro p l e R s m args below meth c D al cI cJ A X
  refine gx_eq (pc' := 0) (ls' := [(0, .ref (al (25)))]) (st' := []) (g' := g) ⟨rfl, rfl, rfl, rfl⟩ ?_
  unfold m_X5_firstAlarm at h
  refine gx_aload_n X 0 rfl dX5_firstAlarm_0 ?_
  refine gx_aload_n X 0 rfl dX5_firstAlarm_1 ?_
  refine gx_getf X (25) lf_X5_25 (by decide) (cl_25 _ _) (v := .ref (al (1))) rfl dX5_firstAlarm_2 ?_
  refine gx_getn X (1) lf_X5_88 (by decide) (cl_1 _ _) (v := .ref (al (5))) rfl dX5_firstAlarm_5 ?_
  refine gx_iconst X (v := (1 : Int32)) dX5_firstAlarm_8 (by decide) ?_
  refine gx_aload_n X 0 rfl dX5_firstAlarm_9 ?_
  refine gx_getf X (25) lf_X5_25 (by decide) (cl_25 _ _) (v := .ref (al (1))) rfl dX5_firstAlarm_10 ?_
  refine gx_getn X (1) lf_X5_38 (by decide) (cl_1 _ _) (v := .int ((rdI g 1 1))) rfl dX5_firstAlarm_13 ?_
  refine gx_ishl X dX5_firstAlarm_16 ?_
  refine gx_iconst X (v := (1 : Int32)) dX5_firstAlarm_17 (by decide) ?_
  refine gx_isub X dX5_firstAlarm_18 ?_
  obtain ⟨ra1, ga2, ca3, h⟩ := bdd_eq h
  refine gx_callVi X (25) (c_X5_firstRowTold ⟨(by decide), fun _ _ _ _ _ => (cl_5 _ _)⟩ ca3) lc_X5_firstRowTold li_X5_firstRowTold lm_X5_85 (by decide) (cl_25 _ _) rfl rfl rfl (Nat.le_trans (by decide) hd) rfl (Nat.le_of_ble_eq_true rfl) dX5_firstAlarm_19 ?_
  obtain ⟨q4, h⟩ := gdd_eq h
  obtain ⟨rfl, rfl⟩ := ret_eq h
  exact gx_iret X (zbI_n q4) dX5_firstAlarm_22
theorem dX5_greedyTable_0 : decode cX5_greedyTable 0 = .ok (.iconst 0, 1) := by decide +kernel
theorem dX5_greedyTable_1 : decode cX5_greedyTable 1 = .ok (.istore_n 1, 1) := by decide +kernel
theorem dX5_greedyTable_2 : decode cX5_greedyTable 2 = .ok (.iconst 0, 1) := by decide +kernel
theorem dX5_greedyTable_3 : decode cX5_greedyTable 3 = .ok (.istore_n 2, 1) := by decide +kernel
theorem dX5_greedyTable_4 : decode cX5_greedyTable 4 = .ok (.iload_n 2, 1) := by decide +kernel
theorem dX5_greedyTable_5 : decode cX5_greedyTable 5 = .ok (.aload_n 0, 1) := by decide +kernel
theorem dX5_greedyTable_6 : decode cX5_greedyTable 6 = .ok (.getfield 25, 3) := by decide +kernel
theorem dX5_greedyTable_9 : decode cX5_greedyTable 9 = .ok (.getfield 38, 3) := by decide +kernel
theorem dX5_greedyTable_12 : decode cX5_greedyTable 12 = .ok (.if_icmp .ge 68, 3) := by decide +kernel
theorem dX5_greedyTable_15 : decode cX5_greedyTable 15 = .ok (.aload_n 0, 1) := by decide +kernel
theorem dX5_greedyTable_16 : decode cX5_greedyTable 16 = .ok (.aload_n 0, 1) := by decide +kernel
theorem dX5_greedyTable_17 : decode cX5_greedyTable 17 = .ok (.getfield 18, 3) := by decide +kernel
theorem dX5_greedyTable_20 : decode cX5_greedyTable 20 = .ok (.aload_n 0, 1) := by decide +kernel
theorem dX5_greedyTable_21 : decode cX5_greedyTable 21 = .ok (.iload_n 2, 1) := by decide +kernel
theorem dX5_greedyTable_22 : decode cX5_greedyTable 22 = .ok (.invokevirtual 68, 3) := by decide +kernel
theorem dX5_greedyTable_25 : decode cX5_greedyTable 25 = .ok (.invokevirtual 85, 3) := by decide +kernel
theorem dX5_greedyTable_28 : decode cX5_greedyTable 28 = .ok (.ifCond .ne 5, 3) := by decide +kernel
theorem dX5_greedyTable_31 : decode cX5_greedyTable 31 = .ok (.iconst (-1), 1) := by decide +kernel
theorem dX5_greedyTable_32 : decode cX5_greedyTable 32 = .ok (.ireturn, 1) := by decide +kernel
theorem dX5_greedyTable_33 : decode cX5_greedyTable 33 = .ok (.aload_n 0, 1) := by decide +kernel
theorem dX5_greedyTable_34 : decode cX5_greedyTable 34 = .ok (.getfield 9, 3) := by decide +kernel
theorem dX5_greedyTable_37 : decode cX5_greedyTable 37 = .ok (.iconst 0, 1) := by decide +kernel
theorem dX5_greedyTable_38 : decode cX5_greedyTable 38 = .ok (.aload_n 0, 1) := by decide +kernel
theorem dX5_greedyTable_39 : decode cX5_greedyTable 39 = .ok (.getfield 18, 3) := by decide +kernel
theorem dX5_greedyTable_42 : decode cX5_greedyTable 42 = .ok (.iload_n 2, 1) := by decide +kernel
theorem dX5_greedyTable_43 : decode cX5_greedyTable 43 = .ok (.bipush 6, 2) := by decide +kernel
theorem dX5_greedyTable_45 : decode cX5_greedyTable 45 = .ok (.imul, 1) := by decide +kernel
theorem dX5_greedyTable_46 : decode cX5_greedyTable 46 = .ok (.bipush 6, 2) := by decide +kernel
theorem dX5_greedyTable_48 : decode cX5_greedyTable 48 = .ok (.invokestatic 54, 3) := by decide +kernel
theorem dX5_greedyTable_51 : decode cX5_greedyTable 51 = .ok (.iload_n 1, 1) := by decide +kernel
theorem dX5_greedyTable_52 : decode cX5_greedyTable 52 = .ok (.aload_n 0, 1) := by decide +kernel
theorem dX5_greedyTable_53 : decode cX5_greedyTable 53 = .ok (.getfield 9, 3) := by decide +kernel
theorem dX5_greedyTable_56 : decode cX5_greedyTable 56 = .ok (.iconst 0, 1) := by decide +kernel
theorem dX5_greedyTable_57 : decode cX5_greedyTable 57 = .ok (.iaload, 1) := by decide +kernel
theorem dX5_greedyTable_58 : decode cX5_greedyTable 58 = .ok (.aload_n 0, 1) := by decide +kernel
theorem dX5_greedyTable_59 : decode cX5_greedyTable 59 = .ok (.getfield 9, 3) := by decide +kernel
theorem dX5_greedyTable_62 : decode cX5_greedyTable 62 = .ok (.iconst 1, 1) := by decide +kernel
theorem dX5_greedyTable_63 : decode cX5_greedyTable 63 = .ok (.iaload, 1) := by decide +kernel
theorem dX5_greedyTable_64 : decode cX5_greedyTable 64 = .ok (.iadd, 1) := by decide +kernel
theorem dX5_greedyTable_65 : decode cX5_greedyTable 65 = .ok (.aload_n 0, 1) := by decide +kernel
theorem dX5_greedyTable_66 : decode cX5_greedyTable 66 = .ok (.getfield 9, 3) := by decide +kernel
theorem dX5_greedyTable_69 : decode cX5_greedyTable 69 = .ok (.iconst 2, 1) := by decide +kernel
theorem dX5_greedyTable_70 : decode cX5_greedyTable 70 = .ok (.iaload, 1) := by decide +kernel
theorem dX5_greedyTable_71 : decode cX5_greedyTable 71 = .ok (.iadd, 1) := by decide +kernel
theorem dX5_greedyTable_72 : decode cX5_greedyTable 72 = .ok (.iadd, 1) := by decide +kernel
theorem dX5_greedyTable_73 : decode cX5_greedyTable 73 = .ok (.istore_n 1, 1) := by decide +kernel
theorem dX5_greedyTable_74 : decode cX5_greedyTable 74 = .ok (.iinc 2 1, 3) := by decide +kernel
theorem dX5_greedyTable_77 : decode cX5_greedyTable 77 = .ok (.goto (-73), 3) := by decide +kernel
theorem dX5_greedyTable_80 : decode cX5_greedyTable 80 = .ok (.iload_n 1, 1) := by decide +kernel
theorem dX5_greedyTable_81 : decode cX5_greedyTable 81 = .ok (.ireturn, 1) := by decide +kernel
def m_X5_greedyTable_4 : Nat → Int32 → Int32 → Mm → Option (Int32 × Mm)
  | 0, _, _, _ => none
  | n + 1, x1, x2, g => (if (rdI g 1 1) ≤ x2 then some (x1, g) else bdd (m_X5_hoursAhead x2 g) (fun ra2 ga3 => bdd (m_X5_firstRowTold 28 144 ra2 ga3) (fun ra5 ga6 => (if ra5 = (0 : Int32) then some ((-1 : Int32), ga6) else gdd (acp (0 : Int32) (6 : Int32) 6) (gdd (acp (x2 * (6 : Int32)) (6 : Int32) 144) (gdd (ixo (0 : Int32) 6) (gdd (ixo (1 : Int32) 6) (gdd (ixo (2 : Int32) 6) (lti (x1 + (((rdI (cpI ga6 26 (0 : Int32).toNatClampNeg 28 (x2 * (6 : Int32)).toNatClampNeg (6 : Int32).toNatClampNeg) 26 (0 : Int32).toNatClampNeg) + (rdI (cpI ga6 26 (0 : Int32).toNatClampNeg 28 (x2 * (6 : Int32)).toNatClampNeg (6 : Int32).toNatClampNeg) 26 (1 : Int32).toNatClampNeg)) + (rdI (cpI ga6 26 (0 : Int32).toNatClampNeg 28 (x2 * (6 : Int32)).toNatClampNeg (6 : Int32).toNatClampNeg) 26 (2 : Int32).toNatClampNeg))) (fun v14 => m_X5_greedyTable_4 n v14 (x2 + (1 : Int32)) (cpI ga6 26 (0 : Int32).toNatClampNeg 28 (x2 * (6 : Int32)).toNatClampNeg (6 : Int32).toNatClampNeg)))))))))))
set_option maxHeartbeats 2000000 in
theorem t_X5_greedyTable_4 {r2 : Int32} {g2 : Mm} (X : gx_X p R s m args meth c D al cI cJ A RX5 cX5_greedyTable 3 (some .int) d 0 0) (hd : 6 ≤ d) : ∀ (n : Nat) (x1 : Int32) (x2 : Int32) (g : Mm), m_X5_greedyTable_4 n x1 x2 g = some (r2, g2) → gx_G p l e R s m args below meth c (gx_Q below args s D al cI cJ A (some (.int r2)) g2) D al cI cJ A 3 0 0 4 [(0, .ref (al (25))), (1, .int (x1)), (2, .int (x2))] [] g := by
  intro n
  induction n with
  | zero => intro x1 x2 g h; cases h
  | succ n ih =>
    intro x1 x2 g h
    rw [m_X5_greedyTable_4] at h
    refine gx_iload_n X 2 rfl dX5_greedyTable_4 ?_
    refine gx_aload_n X 0 rfl dX5_greedyTable_5 ?_
    refine gx_getf X (25) lf_X5_25 (by decide) (cl_25 _ _) (v := .ref (al (1))) rfl dX5_greedyTable_6 ?_
    refine gx_getn X (1) lf_X5_38 (by decide) (cl_1 _ _) (v := .int ((rdI g 1 1))) rfl dX5_greedyTable_9 ?_
    refine gx_icmp_ge X 80 dX5_greedyTable_12 (by decide) (fun q1 => ?_) (fun q1 => ?_)
    · replace h := (if_pos q1).symm.trans h
      refine gx_iload_n X 1 rfl dX5_greedyTable_80 ?_
      obtain ⟨rfl, rfl⟩ := ret_eq h
      exact gx_iret X rfl dX5_greedyTable_81
    · replace h := (if_neg q1).symm.trans h
      refine gx_aload_n X 0 rfl dX5_greedyTable_15 ?_
      refine gx_aload_n X 0 rfl dX5_greedyTable_16 ?_
      refine gx_getf X (25) lf_X5_18 (by decide) (cl_25 _ _) (v := .ref (al (28))) rfl dX5_greedyTable_17 ?_
      refine gx_aload_n X 0 rfl dX5_greedyTable_20 ?_
      refine gx_iload_n X 2 rfl dX5_greedyTable_21 ?_
      obtain ⟨ra2, ga3, ca4, h⟩ := bdd_eq h
      refine gx_callVi X (25) (c_X5_hoursAhead ca4) lc_X5_hoursAhead li_X5_hoursAhead lm_X5_68 (by decide) (cl_25 _ _) rfl rfl rfl (Nat.le_trans (by decide) hd) rfl (Nat.le_of_ble_eq_true rfl) dX5_greedyTable_22 ?_
      obtain ⟨ra5, ga6, ca7, h⟩ := bdd_eq h
      refine gx_callVi X (25) (c_X5_firstRowTold ⟨(by decide), fun _ _ _ _ _ => (cl_28 _ _)⟩ ca7) lc_X5_firstRowTold li_X5_firstRowTold lm_X5_85 (by decide) (cl_25 _ _) rfl rfl rfl (Nat.le_trans (by decide) hd) rfl (Nat.le_of_ble_eq_true rfl) dX5_greedyTable_25 ?_
      refine gx_if_ne X 33 dX5_greedyTable_28 (by decide) (fun q8 => ?_) (fun q8 => ?_)
      · replace h := (if_neg q8).symm.trans h
        refine gx_aload_n X 0 rfl dX5_greedyTable_33 ?_
        refine gx_getf X (25) lf_X5_9 (by decide) (cl_25 _ _) (v := .ref (al (26))) rfl dX5_greedyTable_34 ?_
        refine gx_iconst X (v := (0 : Int32)) dX5_greedyTable_37 (by decide) ?_
        refine gx_aload_n X 0 rfl dX5_greedyTable_38 ?_
        refine gx_getf X (25) lf_X5_18 (by decide) (cl_25 _ _) (v := .ref (al (28))) rfl dX5_greedyTable_39 ?_
        refine gx_iload_n X 2 rfl dX5_greedyTable_42 ?_
        refine gx_bipush X (v := (6 : Int32)) dX5_greedyTable_43 (by decide) ?_
        refine gx_imul X dX5_greedyTable_45 ?_
        refine gx_bipush X (v := (6 : Int32)) dX5_greedyTable_46 (by decide) ?_
        obtain ⟨q9, h⟩ := gdd_eq h
        obtain ⟨q10, h⟩ := gdd_eq h
        refine gx_cpyI X (26) (28) 6 144 lm_X5_54 lx_nat lx_stat lx_ini (Nat.le_trans (by decide) hd) (by decide) (by decide) (cl_26 _ _) (fun r => cl_28 r _) q9 q10 (Nat.le_of_ble_eq_true rfl) dX5_greedyTable_48 ?_
        refine gx_iload_n X 1 rfl dX5_greedyTable_51 ?_
        refine gx_aload_n X 0 rfl dX5_greedyTable_52 ?_
        refine gx_getf X (25) lf_X5_9 (by decide) (cl_25 _ _) (v := .ref (al (26))) rfl dX5_greedyTable_53 ?_
        refine gx_iconst X (v := (0 : Int32)) dX5_greedyTable_56 (by decide) ?_
        obtain ⟨q11, h⟩ := gdd_eq h
        refine gx_iald X (26) 6 (by decide) (cl_26 _ _) q11 dX5_greedyTable_57 ?_
        refine gx_aload_n X 0 rfl dX5_greedyTable_58 ?_
        refine gx_getf X (25) lf_X5_9 (by decide) (cl_25 _ _) (v := .ref (al (26))) rfl dX5_greedyTable_59 ?_
        refine gx_iconst X (v := (1 : Int32)) dX5_greedyTable_62 (by decide) ?_
        obtain ⟨q12, h⟩ := gdd_eq h
        refine gx_iald X (26) 6 (by decide) (cl_26 _ _) q12 dX5_greedyTable_63 ?_
        refine gx_iadd X dX5_greedyTable_64 ?_
        refine gx_aload_n X 0 rfl dX5_greedyTable_65 ?_
        refine gx_getf X (25) lf_X5_9 (by decide) (cl_25 _ _) (v := .ref (al (26))) rfl dX5_greedyTable_66 ?_
        refine gx_iconst X (v := (2 : Int32)) dX5_greedyTable_69 (by decide) ?_
        obtain ⟨q13, h⟩ := gdd_eq h
        refine gx_iald X (26) 6 (by decide) (cl_26 _ _) q13 dX5_greedyTable_70 ?_
        refine gx_iadd X dX5_greedyTable_71 ?_
        refine gx_iadd X dX5_greedyTable_72 ?_
        obtain ⟨v14, ev14, h⟩ := lti_eq h
        refine gx_topi ev14 ?_
        refine gx_istore_n X [(1, .int (v14)), (0, .ref (al (25))), (2, .int (x2))] dX5_greedyTable_73 (by decide) rfl ?_
        refine gx_iinc X [(2, .int ((x2 + (1 : Int32)))), (1, .int (v14)), (0, .ref (al (25)))] 2 dX5_greedyTable_74 rfl rfl (by decide) rfl ?_
        refine gx_goto X 4 dX5_greedyTable_77 (by decide) ?_
        exact gx_sub [2, 1, 0] rfl (ih v14 (x2 + (1 : Int32)) (cpI ga6 26 (0 : Int32).toNatClampNeg 28 (x2 * (6 : Int32)).toNatClampNeg (6 : Int32).toNatClampNeg) h)
      · replace h := (if_pos q8).symm.trans h
        refine gx_iconst X (v := (-1 : Int32)) dX5_greedyTable_31 (by decide) ?_
        obtain ⟨rfl, rfl⟩ := ret_eq h
        exact gx_iret X rfl dX5_greedyTable_32
def m_X5_greedyTable (g : Mm) : Option (Int32 × Mm) := m_X5_greedyTable_4 fuL (0 : Int32) (0 : Int32) g
set_option maxHeartbeats 2000000 in
theorem c_X5_greedyTable {r2 : Int32} {g g2 : Mm} (h : m_X5_greedyTable g = some (r2, g2)) : gx_M 6 yX5_greedyTable cX5_greedyTable 3 (some .int) (fun al => [.ref (al (25))]) g (some (.int r2)) g2 := by
  have hd : 6 ≤ 6 := Nat.le_refl _
  refine gx_M.of (by decide +kernel) (fun _ => Nat.le_of_ble_eq_true rfl) ?_
  intro p l e R s m args below meth c D al cI cJ A X
  refine gx_eq (pc' := 0) (ls' := [(0, .ref (al (25)))]) (st' := []) (g' := g) ⟨rfl, rfl, rfl, rfl⟩ ?_
  unfold m_X5_greedyTable at h
  refine gx_iconst X (v := (0 : Int32)) dX5_greedyTable_0 (by decide) ?_
  refine gx_istore_n X [(1, .int ((0 : Int32))), (0, .ref (al (25)))] dX5_greedyTable_1 (by decide) rfl ?_
  refine gx_iconst X (v := (0 : Int32)) dX5_greedyTable_2 (by decide) ?_
  refine gx_istore_n X [(2, .int ((0 : Int32))), (1, .int ((0 : Int32))), (0, .ref (al (25)))] dX5_greedyTable_3 (by decide) rfl ?_
  exact gx_sub [2, 1, 0] rfl (t_X5_greedyTable_4 X hd fuL (0 : Int32) (0 : Int32) g h)
theorem dX5_leastTable_0 : decode cX5_leastTable 0 = .ok (.aload_n 0, 1) := by decide +kernel
theorem dX5_leastTable_1 : decode cX5_leastTable 1 = .ok (.iconst (-1), 1) := by decide +kernel
theorem dX5_leastTable_2 : decode cX5_leastTable 2 = .ok (.putfield 21, 3) := by decide +kernel
theorem dX5_leastTable_5 : decode cX5_leastTable 5 = .ok (.aload_n 0, 1) := by decide +kernel
theorem dX5_leastTable_6 : decode cX5_leastTable 6 = .ok (.iconst 0, 1) := by decide +kernel
theorem dX5_leastTable_7 : decode cX5_leastTable 7 = .ok (.iconst 0, 1) := by decide +kernel
theorem dX5_leastTable_8 : decode cX5_leastTable 8 = .ok (.invokevirtual 50, 3) := by decide +kernel
theorem dX5_leastTable_11 : decode cX5_leastTable 11 = .ok (.aload_n 0, 1) := by decide +kernel
theorem dX5_leastTable_12 : decode cX5_leastTable 12 = .ok (.getfield 21, 3) := by decide +kernel
theorem dX5_leastTable_15 : decode cX5_leastTable 15 = .ok (.ireturn, 1) := by decide +kernel
def m_X5_leastTable (g : Mm) : Option (Int32 × Mm) := bdd (gs_ 14 0 (0 : Int32) (0 : Int32) (0 : Int32) (0 : Int32) (wrI g 25 4 (-1 : Int32))) (fun ra1 ga2 => some ((rdI ga2 25 4), ga2))
set_option maxHeartbeats 2000000 in
theorem c_X5_leastTable {r2 : Int32} {g g2 : Mm} (h : m_X5_leastTable g = some (r2, g2)) : gx_M 20 yX5_leastTable cX5_leastTable 1 (some .int) (fun al => [.ref (al (25))]) g (some (.int r2)) g2 := by
  have hd : 20 ≤ 20 := Nat.le_refl _
  refine gx_M.of (by decide +kernel) (fun _ => Nat.le_of_ble_eq_true rfl) ?_
  intro p l e R s m args below meth c D al cI cJ A X
  refine gx_eq (pc' := 0) (ls' := [(0, .ref (al (25)))]) (st' := []) (g' := g) ⟨rfl, rfl, rfl, rfl⟩ ?_
  unfold m_X5_leastTable at h
  refine gx_aload_n X 0 rfl dX5_leastTable_0 ?_
  refine gx_iconst X (v := (-1 : Int32)) dX5_leastTable_1 (by decide) ?_
  refine gx_putf X (25) (-1 : Int32) lf_X5_21 lp_X5_4 (by decide) (cl_25 _ _) (Nat.le_of_ble_eq_true rfl) rfl rfl rfl dX5_leastTable_2 ?_
  refine gx_aload_n X 0 rfl dX5_leastTable_5 ?_
  refine gx_iconst X (v := (0 : Int32)) dX5_leastTable_6 (by decide) ?_
  refine gx_iconst X (v := (0 : Int32)) dX5_leastTable_7 (by decide) ?_
  obtain ⟨ra1, ga2, ca3, h⟩ := bdd_eq h
  refine gx_callVv X (25) (c_X5_fillFrom ca3) lc_X5_fillFrom li_X5_fillFrom lm_X5_50 (by decide) (cl_25 _ _) rfl rfl rfl (Nat.le_trans (by decide) hd) rfl (Nat.le_of_ble_eq_true rfl) dX5_leastTable_8 ?_
  refine gx_aload_n X 0 rfl dX5_leastTable_11 ?_
  refine gx_getf X (25) lf_X5_21 (by decide) (cl_25 _ _) (v := .int ((rdI ga2 25 4))) rfl dX5_leastTable_12 ?_
  obtain ⟨rfl, rfl⟩ := ret_eq h
  exact gx_iret X rfl dX5_leastTable_15
theorem dX5_mayTryAllRows_0 : decode cX5_mayTryAllRows 0 = .ok (.aload_n 0, 1) := by decide +kernel
theorem dX5_mayTryAllRows_1 : decode cX5_mayTryAllRows 1 = .ok (.getfield 25, 3) := by decide +kernel
theorem dX5_mayTryAllRows_4 : decode cX5_mayTryAllRows 4 = .ok (.getfield 29, 3) := by decide +kernel
theorem dX5_mayTryAllRows_7 : decode cX5_mayTryAllRows 7 = .ok (.iconst 1, 1) := by decide +kernel
theorem dX5_mayTryAllRows_8 : decode cX5_mayTryAllRows 8 = .ok (.if_icmp .lt 18, 3) := by decide +kernel
theorem dX5_mayTryAllRows_11 : decode cX5_mayTryAllRows 11 = .ok (.aload_n 0, 1) := by decide +kernel
theorem dX5_mayTryAllRows_12 : decode cX5_mayTryAllRows 12 = .ok (.getfield 25, 3) := by decide +kernel
theorem dX5_mayTryAllRows_15 : decode cX5_mayTryAllRows 15 = .ok (.getfield 29, 3) := by decide +kernel
theorem dX5_mayTryAllRows_18 : decode cX5_mayTryAllRows 18 = .ok (.iconst 3, 1) := by decide +kernel
theorem dX5_mayTryAllRows_19 : decode cX5_mayTryAllRows 19 = .ok (.if_icmp .gt 7, 3) := by decide +kernel
theorem dX5_mayTryAllRows_22 : decode cX5_mayTryAllRows 22 = .ok (.iconst 1, 1) := by decide +kernel
theorem dX5_mayTryAllRows_23 : decode cX5_mayTryAllRows 23 = .ok (.goto 4, 3) := by decide +kernel
theorem dX5_mayTryAllRows_26 : decode cX5_mayTryAllRows 26 = .ok (.iconst 0, 1) := by decide +kernel
theorem dX5_mayTryAllRows_27 : decode cX5_mayTryAllRows 27 = .ok (.ireturn, 1) := by decide +kernel
def m_X5_mayTryAllRows (g : Mm) : Option (Int32 × Mm) := (if (rdI g 1 0) < (1 : Int32) then some ((0 : Int32), g) else (if (3 : Int32) < (rdI g 1 0) then some ((0 : Int32), g) else some ((1 : Int32), g)))
set_option maxHeartbeats 2000000 in
theorem c_X5_mayTryAllRows {r2 : Int32} {g g2 : Mm} (h : m_X5_mayTryAllRows g = some (r2, g2)) : gx_M 1 yX5_mayTryAllRows cX5_mayTryAllRows 1 (some .boolean) (fun al => [.ref (al (25))]) g (some (.int r2)) g2 := by
  have hd : 1 ≤ 1 := Nat.le_refl _
  refine gx_M.of (by decide +kernel) (fun _ => Nat.le_of_ble_eq_true rfl) ?_
  intro p l e R s m args below meth c D al cI cJ A X
  refine gx_eq (pc' := 0) (ls' := [(0, .ref (al (25)))]) (st' := []) (g' := g) ⟨rfl, rfl, rfl, rfl⟩ ?_
  unfold m_X5_mayTryAllRows at h
  refine gx_aload_n X 0 rfl dX5_mayTryAllRows_0 ?_
  refine gx_getf X (25) lf_X5_25 (by decide) (cl_25 _ _) (v := .ref (al (1))) rfl dX5_mayTryAllRows_1 ?_
  refine gx_getn X (1) lf_X5_29 (by decide) (cl_1 _ _) (v := .int ((rdI g 1 0))) rfl dX5_mayTryAllRows_4 ?_
  refine gx_iconst X (v := (1 : Int32)) dX5_mayTryAllRows_7 (by decide) ?_
  refine gx_icmp_lt X 26 dX5_mayTryAllRows_8 (by decide) (fun q1 => ?_) (fun q1 => ?_)
  · replace h := (if_pos q1).symm.trans h
    refine gx_iconst X (v := (0 : Int32)) dX5_mayTryAllRows_26 (by decide) ?_
    obtain ⟨rfl, rfl⟩ := ret_eq h
    exact gx_iret X rfl dX5_mayTryAllRows_27
  · replace h := (if_neg q1).symm.trans h
    refine gx_aload_n X 0 rfl dX5_mayTryAllRows_11 ?_
    refine gx_getf X (25) lf_X5_25 (by decide) (cl_25 _ _) (v := .ref (al (1))) rfl dX5_mayTryAllRows_12 ?_
    refine gx_getn X (1) lf_X5_29 (by decide) (cl_1 _ _) (v := .int ((rdI g 1 0))) rfl dX5_mayTryAllRows_15 ?_
    refine gx_iconst X (v := (3 : Int32)) dX5_mayTryAllRows_18 (by decide) ?_
    refine gx_icmp_gt X 26 dX5_mayTryAllRows_19 (by decide) (fun q2 => ?_) (fun q2 => ?_)
    · replace h := (if_pos q2).symm.trans h
      refine gx_iconst X (v := (0 : Int32)) dX5_mayTryAllRows_26 (by decide) ?_
      obtain ⟨rfl, rfl⟩ := ret_eq h
      exact gx_iret X rfl dX5_mayTryAllRows_27
    · replace h := (if_neg q2).symm.trans h
      refine gx_iconst X (v := (1 : Int32)) dX5_mayTryAllRows_22 (by decide) ?_
      refine gx_goto X 27 dX5_mayTryAllRows_23 (by decide) ?_
      obtain ⟨rfl, rfl⟩ := ret_eq h
      exact gx_iret X rfl dX5_mayTryAllRows_27
theorem dX5_mayTryAllTables_0 : decode cX5_mayTryAllTables 0 = .ok (.aload_n 0, 1) := by decide +kernel
theorem dX5_mayTryAllTables_1 : decode cX5_mayTryAllTables 1 = .ok (.invokevirtual 34, 3) := by decide +kernel
theorem dX5_mayTryAllTables_4 : decode cX5_mayTryAllTables 4 = .ok (.ifCond .eq 14, 3) := by decide +kernel
theorem dX5_mayTryAllTables_7 : decode cX5_mayTryAllTables 7 = .ok (.aload_n 0, 1) := by decide +kernel
theorem dX5_mayTryAllTables_8 : decode cX5_mayTryAllTables 8 = .ok (.getfield 25, 3) := by decide +kernel
theorem dX5_mayTryAllTables_11 : decode cX5_mayTryAllTables 11 = .ok (.getfield 38, 3) := by decide +kernel
theorem dX5_mayTryAllTables_14 : decode cX5_mayTryAllTables 14 = .ok (.iconst 4, 1) := by decide +kernel
theorem dX5_mayTryAllTables_15 : decode cX5_mayTryAllTables 15 = .ok (.if_icmp .le 5, 3) := by decide +kernel
theorem dX5_mayTryAllTables_18 : decode cX5_mayTryAllTables 18 = .ok (.iconst 0, 1) := by decide +kernel
theorem dX5_mayTryAllTables_19 : decode cX5_mayTryAllTables 19 = .ok (.ireturn, 1) := by decide +kernel
theorem dX5_mayTryAllTables_20 : decode cX5_mayTryAllTables 20 = .ok (.lconst 1, 1) := by decide +kernel
theorem dX5_mayTryAllTables_21 : decode cX5_mayTryAllTables 21 = .ok (.lstore_n 1, 1) := by decide +kernel
theorem dX5_mayTryAllTables_22 : decode cX5_mayTryAllTables 22 = .ok (.iconst 0, 1) := by decide +kernel
theorem dX5_mayTryAllTables_23 : decode cX5_mayTryAllTables 23 = .ok (.istore_n 3, 1) := by decide +kernel
theorem dX5_mayTryAllTables_24 : decode cX5_mayTryAllTables 24 = .ok (.iload_n 3, 1) := by decide +kernel
theorem dX5_mayTryAllTables_25 : decode cX5_mayTryAllTables 25 = .ok (.aload_n 0, 1) := by decide +kernel
theorem dX5_mayTryAllTables_26 : decode cX5_mayTryAllTables 26 = .ok (.getfield 25, 3) := by decide +kernel
theorem dX5_mayTryAllTables_29 : decode cX5_mayTryAllTables 29 = .ok (.getfield 38, 3) := by decide +kernel
theorem dX5_mayTryAllTables_32 : decode cX5_mayTryAllTables 32 = .ok (.if_icmp .ge 17, 3) := by decide +kernel
theorem dX5_mayTryAllTables_35 : decode cX5_mayTryAllTables 35 = .ok (.lload_n 1, 1) := by decide +kernel
theorem dX5_mayTryAllTables_36 : decode cX5_mayTryAllTables 36 = .ok (.aload_n 0, 1) := by decide +kernel
theorem dX5_mayTryAllTables_37 : decode cX5_mayTryAllTables 37 = .ok (.invokevirtual 41, 3) := by decide +kernel
theorem dX5_mayTryAllTables_40 : decode cX5_mayTryAllTables 40 = .ok (.i2l, 1) := by decide +kernel
theorem dX5_mayTryAllTables_41 : decode cX5_mayTryAllTables 41 = .ok (.lmul, 1) := by decide +kernel
theorem dX5_mayTryAllTables_42 : decode cX5_mayTryAllTables 42 = .ok (.lstore_n 1, 1) := by decide +kernel
theorem dX5_mayTryAllTables_43 : decode cX5_mayTryAllTables 43 = .ok (.iinc 3 1, 3) := by decide +kernel
theorem dX5_mayTryAllTables_46 : decode cX5_mayTryAllTables 46 = .ok (.goto (-22), 3) := by decide +kernel
theorem dX5_mayTryAllTables_49 : decode cX5_mayTryAllTables 49 = .ok (.lload_n 1, 1) := by decide +kernel
theorem dX5_mayTryAllTables_50 : decode cX5_mayTryAllTables 50 = .ok (.ldc2_w 45, 3) := by decide +kernel
theorem dX5_mayTryAllTables_53 : decode cX5_mayTryAllTables 53 = .ok (.lcmp, 1) := by decide +kernel
theorem dX5_mayTryAllTables_54 : decode cX5_mayTryAllTables 54 = .ok (.ifCond .gt 7, 3) := by decide +kernel
theorem dX5_mayTryAllTables_57 : decode cX5_mayTryAllTables 57 = .ok (.iconst 1, 1) := by decide +kernel
theorem dX5_mayTryAllTables_58 : decode cX5_mayTryAllTables 58 = .ok (.goto 4, 3) := by decide +kernel
theorem dX5_mayTryAllTables_61 : decode cX5_mayTryAllTables 61 = .ok (.iconst 0, 1) := by decide +kernel
theorem dX5_mayTryAllTables_62 : decode cX5_mayTryAllTables 62 = .ok (.ireturn, 1) := by decide +kernel
def m_X5_mayTryAllTables_24 : Nat → Int64 → Int32 → Mm → Option (Int32 × Mm)
  | 0, _, _, _ => none
  | n + 1, x1, x3, g => (if (rdI g 1 1) ≤ x3 then (if (0 : Int32) < (lg_cmp x1 (65536 : Int64)) then some ((0 : Int32), g) else some ((1 : Int32), g)) else bdd (m_X5_rowsThereAre  g) (fun ra3 ga4 => m_X5_mayTryAllTables_24 n (x1 * (ra3.toInt64)) (x3 + (1 : Int32)) ga4))
set_option maxHeartbeats 2000000 in
theorem t_X5_mayTryAllTables_24 {r2 : Int32} {g2 : Mm} (X : gx_X p R s m args meth c D al cI cJ A RX5 cX5_mayTryAllTables 4 (some .boolean) d 0 0) (hd : 2 ≤ d) : ∀ (n : Nat) (x1 : Int64) (x3 : Int32) (g : Mm), m_X5_mayTryAllTables_24 n x1 x3 g = some (r2, g2) → gx_G p l e R s m args below meth c (gx_Q below args s D al cI cJ A (some (.int r2)) g2) D al cI cJ A 4 0 0 24 [(0, .ref (al (25))), (1, .long (x1)), (3, .int (x3))] [] g := by
  intro n
  induction n with
  | zero => intro x1 x3 g h; cases h
  | succ n ih =>
    intro x1 x3 g h
    rw [m_X5_mayTryAllTables_24] at h
    refine gx_iload_n X 2 rfl dX5_mayTryAllTables_24 ?_
    refine gx_aload_n X 0 rfl dX5_mayTryAllTables_25 ?_
    refine gx_getf X (25) lf_X5_25 (by decide) (cl_25 _ _) (v := .ref (al (1))) rfl dX5_mayTryAllTables_26 ?_
    refine gx_getn X (1) lf_X5_38 (by decide) (cl_1 _ _) (v := .int ((rdI g 1 1))) rfl dX5_mayTryAllTables_29 ?_
    refine gx_icmp_ge X 49 dX5_mayTryAllTables_32 (by decide) (fun q1 => ?_) (fun q1 => ?_)
    · replace h := (if_pos q1).symm.trans h
      refine gx_lload_n X 1 rfl dX5_mayTryAllTables_49 ?_
      refine gx_ldc2 X (v := (65536 : Int64)) lk_X5_45 dX5_mayTryAllTables_50 ?_
      refine gx_lcmp X dX5_mayTryAllTables_53 ?_
      refine gx_if_gt X 61 dX5_mayTryAllTables_54 (by decide) (fun q2 => ?_) (fun q2 => ?_)
      · replace h := (if_pos q2).symm.trans h
        refine gx_iconst X (v := (0 : Int32)) dX5_mayTryAllTables_61 (by decide) ?_
        obtain ⟨rfl, rfl⟩ := ret_eq h
        exact gx_iret X rfl dX5_mayTryAllTables_62
      · replace h := (if_neg q2).symm.trans h
        refine gx_iconst X (v := (1 : Int32)) dX5_mayTryAllTables_57 (by decide) ?_
        refine gx_goto X 62 dX5_mayTryAllTables_58 (by decide) ?_
        obtain ⟨rfl, rfl⟩ := ret_eq h
        exact gx_iret X rfl dX5_mayTryAllTables_62
    · replace h := (if_neg q1).symm.trans h
      refine gx_lload_n X 1 rfl dX5_mayTryAllTables_35 ?_
      refine gx_aload_n X 0 rfl dX5_mayTryAllTables_36 ?_
      obtain ⟨ra3, ga4, ca5, h⟩ := bdd_eq h
      refine gx_callVi X (25) (c_X5_rowsThereAre ca5) lc_X5_rowsThereAre li_X5_rowsThereAre lm_X5_41 (by decide) (cl_25 _ _) rfl rfl rfl (Nat.le_trans (by decide) hd) rfl (Nat.le_of_ble_eq_true rfl) dX5_mayTryAllTables_37 ?_
      refine gx_i2l X dX5_mayTryAllTables_40 ?_
      refine gx_lmul X dX5_mayTryAllTables_41 ?_
      refine gx_lstore_n X [(1, .long ((x1 * (ra3.toInt64)))), (0, .ref (al (25))), (3, .int (x3))] dX5_mayTryAllTables_42 (by decide) rfl ?_
      refine gx_iinc X [(3, .int ((x3 + (1 : Int32)))), (1, .long ((x1 * (ra3.toInt64)))), (0, .ref (al (25)))] 2 dX5_mayTryAllTables_43 rfl rfl (by decide) rfl ?_
      refine gx_goto X 24 dX5_mayTryAllTables_46 (by decide) ?_
      exact gx_sub [2, 1, 0] rfl (ih (x1 * (ra3.toInt64)) (x3 + (1 : Int32)) ga4 h)
def m_X5_mayTryAllTables (g : Mm) : Option (Int32 × Mm) := bdd (m_X5_mayTryAllRows  g) (fun ra1 ga2 => (if ra1 = (0 : Int32) then some ((0 : Int32), ga2) else (if (rdI ga2 1 1) ≤ (4 : Int32) then m_X5_mayTryAllTables_24 fuL (1 : Int64) (0 : Int32) ga2 else some ((0 : Int32), ga2))))
set_option maxHeartbeats 2000000 in
theorem c_X5_mayTryAllTables {r2 : Int32} {g g2 : Mm} (h : m_X5_mayTryAllTables g = some (r2, g2)) : gx_M 2 yX5_mayTryAllTables cX5_mayTryAllTables 4 (some .boolean) (fun al => [.ref (al (25))]) g (some (.int r2)) g2 := by
  have hd : 2 ≤ 2 := Nat.le_refl _
  refine gx_M.of (by decide +kernel) (fun _ => Nat.le_of_ble_eq_true rfl) ?_
  intro p l e R s m args below meth c D al cI cJ A X
  refine gx_eq (pc' := 0) (ls' := [(0, .ref (al (25)))]) (st' := []) (g' := g) ⟨rfl, rfl, rfl, rfl⟩ ?_
  unfold m_X5_mayTryAllTables at h
  refine gx_aload_n X 0 rfl dX5_mayTryAllTables_0 ?_
  obtain ⟨ra1, ga2, ca3, h⟩ := bdd_eq h
  refine gx_callVi X (25) (c_X5_mayTryAllRows ca3) lc_X5_mayTryAllRows li_X5_mayTryAllRows lm_X5_34 (by decide) (cl_25 _ _) rfl rfl rfl (Nat.le_trans (by decide) hd) rfl (Nat.le_of_ble_eq_true rfl) dX5_mayTryAllTables_1 ?_
  refine gx_if_eq X 18 dX5_mayTryAllTables_4 (by decide) (fun q4 => ?_) (fun q4 => ?_)
  · replace h := (if_pos q4).symm.trans h
    refine gx_iconst X (v := (0 : Int32)) dX5_mayTryAllTables_18 (by decide) ?_
    obtain ⟨rfl, rfl⟩ := ret_eq h
    exact gx_iret X rfl dX5_mayTryAllTables_19
  · replace h := (if_neg q4).symm.trans h
    refine gx_aload_n X 0 rfl dX5_mayTryAllTables_7 ?_
    refine gx_getf X (25) lf_X5_25 (by decide) (cl_25 _ _) (v := .ref (al (1))) rfl dX5_mayTryAllTables_8 ?_
    refine gx_getn X (1) lf_X5_38 (by decide) (cl_1 _ _) (v := .int ((rdI ga2 1 1))) rfl dX5_mayTryAllTables_11 ?_
    refine gx_iconst X (v := (4 : Int32)) dX5_mayTryAllTables_14 (by decide) ?_
    refine gx_icmp_le X 20 dX5_mayTryAllTables_15 (by decide) (fun q5 => ?_) (fun q5 => ?_)
    · replace h := (if_pos q5).symm.trans h
      refine gx_lconst X (v := (1 : Int64)) dX5_mayTryAllTables_20 (by decide) ?_
      refine gx_lstore_n X [(1, .long ((1 : Int64))), (0, .ref (al (25)))] dX5_mayTryAllTables_21 (by decide) rfl ?_
      refine gx_iconst X (v := (0 : Int32)) dX5_mayTryAllTables_22 (by decide) ?_
      refine gx_istore_n X [(3, .int ((0 : Int32))), (1, .long ((1 : Int64))), (0, .ref (al (25)))] dX5_mayTryAllTables_23 (by decide) rfl ?_
      exact gx_sub [2, 1, 0] rfl (t_X5_mayTryAllTables_24 X hd fuL (1 : Int64) (0 : Int32) ga2 h)
    · replace h := (if_neg q5).symm.trans h
      refine gx_iconst X (v := (0 : Int32)) dX5_mayTryAllTables_18 (by decide) ?_
      obtain ⟨rfl, rfl⟩ := ret_eq h
      exact gx_iret X rfl dX5_mayTryAllTables_19
end DC
