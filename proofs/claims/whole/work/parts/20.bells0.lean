section DC
variable {p : Program} {l : Launch} {e : Env} {R : Room} {s : State} {m : MethodId} {args : Array Value} {below : List Frame} {meth : Method} {c : Code} {D : va_G} {al : Nat → Nat} {cI cJ : ClassId} {A : Nat → Prop} {d : Nat}
theorem dX9_act_0 : decode cX9_act 0 = .ok (.aload_n 0, 1) := by decide +kernel
theorem dX9_act_1 : decode cX9_act 1 = .ok (.getfield 56, 3) := by decide +kernel
theorem dX9_act_4 : decode cX9_act 4 = .ok (.iload_n 1, 1) := by decide +kernel
theorem dX9_act_5 : decode cX9_act 5 = .ok (.iload_n 2, 1) := by decide +kernel
theorem dX9_act_6 : decode cX9_act 6 = .ok (.iload_n 3, 1) := by decide +kernel
theorem dX9_act_7 : decode cX9_act 7 = .ok (.invokevirtual 299, 3) := by decide +kernel
theorem dX9_act_10 : decode cX9_act 10 = .ok (.ireturn, 1) := by decide +kernel
def m_X9_act (a1 : Int32) (a2 : Int32) (a3 : Int32) (g : Mm) : Option (Int32 × Mm) := bdd (m_X0_perform a1 a2 a3 g) (fun ra1 ga2 => some (ra1, ga2))
set_option maxHeartbeats 2000000 in
theorem c_X9_act {r2 : Int32} {g g2 : Mm} {a1 : Int32} {a2 : Int32} {a3 : Int32} (h : m_X9_act a1 a2 a3 g = some (r2, g2)) : gx_M 63 yX9_act cX9_act 4 (some .int) (fun al => [.ref (al (0)), .int (a1), .int (a2), .int (a3)]) g (some (.int r2)) g2 := by
  have hd : 63 ≤ 63 := Nat.le_refl _
  refine gx_M.of (by decide +kernel) (fun _ => Nat.le_of_ble_eq_true rfl) ?_
  intro p l e R s m args below meth c D al cI cJ A X
  refine gx_eq (pc' := 0) (ls' := [(0, .ref (al (0))), (1, .int (a1)), (2, .int (a2)), (3, .int (a3))]) (st' := []) (g' := g) ⟨rfl, rfl, rfl, rfl⟩ ?_
  unfold m_X9_act at h
  refine gx_aload_n X 0 rfl dX9_act_0 ?_
  refine gx_getf X (0) lf_X9_56 (by decide) (cl_0 _ _) (v := .ref (al (32))) rfl dX9_act_1 ?_
  refine gx_iload_n X 1 rfl dX9_act_4 ?_
  refine gx_iload_n X 2 rfl dX9_act_5 ?_
  refine gx_iload_n X 3 rfl dX9_act_6 ?_
  obtain ⟨ra1, ga2, ca3, h⟩ := bdd_eq h
  refine gx_callNi X (32) (c_X0_perform ca3) lc_X0_perform li_X0_perform lm_X9_299 (by decide) (cl_32 _ _) rfl rfl rfl (Nat.le_trans (by decide) hd) rfl (Nat.le_of_ble_eq_true rfl) dX9_act_7 ?_
  obtain ⟨rfl, rfl⟩ := ret_eq h
  exact gx_iret X rfl dX9_act_10
theorem dX9_alarm_0 : decode cX9_alarm 0 = .ok (.aload_n 0, 1) := by decide +kernel
theorem dX9_alarm_1 : decode cX9_alarm 1 = .ok (.getfield 10, 3) := by decide +kernel
theorem dX9_alarm_4 : decode cX9_alarm 4 = .ok (.iload_n 1, 1) := by decide +kernel
theorem dX9_alarm_5 : decode cX9_alarm 5 = .ok (.invokevirtual 110, 3) := by decide +kernel
theorem dX9_alarm_8 : decode cX9_alarm 8 = .ok (.ifCond .ne 5, 3) := by decide +kernel
theorem dX9_alarm_11 : decode cX9_alarm 11 = .ok (.iconst (-1), 1) := by decide +kernel
theorem dX9_alarm_12 : decode cX9_alarm 12 = .ok (.ireturn, 1) := by decide +kernel
theorem dX9_alarm_13 : decode cX9_alarm 13 = .ok (.aload_n 0, 1) := by decide +kernel
theorem dX9_alarm_14 : decode cX9_alarm 14 = .ok (.getfield 42, 3) := by decide +kernel
theorem dX9_alarm_17 : decode cX9_alarm 17 = .ok (.invokevirtual 243, 3) := by decide +kernel
theorem dX9_alarm_20 : decode cX9_alarm 20 = .ok (.ifCond .ne 6, 3) := by decide +kernel
theorem dX9_alarm_23 : decode cX9_alarm 23 = .ok (.bipush (-5), 2) := by decide +kernel
theorem dX9_alarm_25 : decode cX9_alarm 25 = .ok (.ireturn, 1) := by decide +kernel
theorem dX9_alarm_26 : decode cX9_alarm 26 = .ok (.aload_n 0, 1) := by decide +kernel
theorem dX9_alarm_27 : decode cX9_alarm 27 = .ok (.getfield 42, 3) := by decide +kernel
theorem dX9_alarm_30 : decode cX9_alarm 30 = .ok (.invokevirtual 249, 3) := by decide +kernel
theorem dX9_alarm_33 : decode cX9_alarm 33 = .ok (.ifCond .eq 15, 3) := by decide +kernel
theorem dX9_alarm_36 : decode cX9_alarm 36 = .ok (.aload_n 0, 1) := by decide +kernel
theorem dX9_alarm_37 : decode cX9_alarm 37 = .ok (.getfield 42, 3) := by decide +kernel
theorem dX9_alarm_40 : decode cX9_alarm 40 = .ok (.getfield 252, 3) := by decide +kernel
theorem dX9_alarm_43 : decode cX9_alarm 43 = .ok (.iload_n 1, 1) := by decide +kernel
theorem dX9_alarm_44 : decode cX9_alarm 44 = .ok (.iaload, 1) := by decide +kernel
theorem dX9_alarm_45 : decode cX9_alarm 45 = .ok (.goto 5, 3) := by decide +kernel
theorem dX9_alarm_48 : decode cX9_alarm 48 = .ok (.bipush (-2), 2) := by decide +kernel
theorem dX9_alarm_50 : decode cX9_alarm 50 = .ok (.ireturn, 1) := by decide +kernel
def m_X9_alarm (a1 : Int32) (g : Mm) : Option (Int32 × Mm) := bdd (m_X8_hasBell a1 g) (fun ra1 ga2 => (if ra1 = (0 : Int32) then some ((-1 : Int32), ga2) else bdd (m_X5_mayTryAllRows  ga2) (fun ra5 ga6 => (if ra5 = (0 : Int32) then some ((-5 : Int32), ga6) else bdd (m_X5_firstAlarm  ga6) (fun ra9 ga10 => (if ra9 = (0 : Int32) then some ((-2 : Int32), ga10) else gdd (ixo a1 6) (some ((rdI ga10 26 a1.toNatClampNeg), ga10))))))))
set_option maxHeartbeats 2000000 in
theorem c_X9_alarm {r2 : Int32} {g g2 : Mm} {a1 : Int32} (h : m_X9_alarm a1 g = some (r2, g2)) : gx_M 7 yX9_alarm cX9_alarm 2 (some .int) (fun al => [.ref (al (0)), .int (a1)]) g (some (.int r2)) g2 := by
  have hd : 7 ≤ 7 := Nat.le_refl _
  refine gx_M.of (by decide +kernel) (fun _ => Nat.le_of_ble_eq_true rfl) ?_
  intro p l e R s m args below meth c D al cI cJ A X
  refine gx_eq (pc' := 0) (ls' := [(0, .ref (al (0))), (1, .int (a1))]) (st' := []) (g' := g) ⟨rfl, rfl, rfl, rfl⟩ ?_
  unfold m_X9_alarm at h
  refine gx_aload_n X 0 rfl dX9_alarm_0 ?_
  refine gx_getf X (0) lf_X9_10 (by decide) (cl_0 _ _) (v := .ref (al (1))) rfl dX9_alarm_1 ?_
  refine gx_iload_n X 1 rfl dX9_alarm_4 ?_
  obtain ⟨ra1, ga2, ca3, h⟩ := bdd_eq h
  refine gx_callNi X (1) (c_X8_hasBell ca3) lc_X8_hasBell li_X8_hasBell lm_X9_110 (by decide) (cl_1 _ _) rfl rfl rfl (Nat.le_trans (by decide) hd) rfl (Nat.le_of_ble_eq_true rfl) dX9_alarm_5 ?_
  refine gx_if_ne X 13 dX9_alarm_8 (by decide) (fun q4 => ?_) (fun q4 => ?_)
  · replace h := (if_neg q4).symm.trans h
    refine gx_aload_n X 0 rfl dX9_alarm_13 ?_
    refine gx_getf X (0) lf_X9_42 (by decide) (cl_0 _ _) (v := .ref (al (25))) rfl dX9_alarm_14 ?_
    obtain ⟨ra5, ga6, ca7, h⟩ := bdd_eq h
    refine gx_callNi X (25) (c_X5_mayTryAllRows ca7) lc_X5_mayTryAllRows li_X5_mayTryAllRows lm_X9_243 (by decide) (cl_25 _ _) rfl rfl rfl (Nat.le_trans (by decide) hd) rfl (Nat.le_of_ble_eq_true rfl) dX9_alarm_17 ?_
    refine gx_if_ne X 26 dX9_alarm_20 (by decide) (fun q8 => ?_) (fun q8 => ?_)
    · replace h := (if_neg q8).symm.trans h
      refine gx_aload_n X 0 rfl dX9_alarm_26 ?_
      refine gx_getf X (0) lf_X9_42 (by decide) (cl_0 _ _) (v := .ref (al (25))) rfl dX9_alarm_27 ?_
      obtain ⟨ra9, ga10, ca11, h⟩ := bdd_eq h
      refine gx_callNi X (25) (c_X5_firstAlarm ca11) lc_X5_firstAlarm li_X5_firstAlarm lm_X9_249 (by decide) (cl_25 _ _) rfl rfl rfl (Nat.le_trans (by decide) hd) rfl (Nat.le_of_ble_eq_true rfl) dX9_alarm_30 ?_
      refine gx_if_eq X 48 dX9_alarm_33 (by decide) (fun q12 => ?_) (fun q12 => ?_)
      · replace h := (if_pos q12).symm.trans h
        refine gx_bipush X (v := (-2 : Int32)) dX9_alarm_48 (by decide) ?_
        obtain ⟨rfl, rfl⟩ := ret_eq h
        exact gx_iret X rfl dX9_alarm_50
      · replace h := (if_neg q12).symm.trans h
        refine gx_aload_n X 0 rfl dX9_alarm_36 ?_
        refine gx_getf X (0) lf_X9_42 (by decide) (cl_0 _ _) (v := .ref (al (25))) rfl dX9_alarm_37 ?_
        refine gx_getn X (25) lf_X9_252 (by decide) (cl_25 _ _) (v := .ref (al (26))) rfl dX9_alarm_40 ?_
        refine gx_iload_n X 1 rfl dX9_alarm_43 ?_
        obtain ⟨q13, h⟩ := gdd_eq h
        refine gx_iald X (26) 6 (by decide) (cl_26 _ _) q13 dX9_alarm_44 ?_
        refine gx_goto X 50 dX9_alarm_45 (by decide) ?_
        obtain ⟨rfl, rfl⟩ := ret_eq h
        exact gx_iret X rfl dX9_alarm_50
    · replace h := (if_pos q8).symm.trans h
      refine gx_bipush X (v := (-5 : Int32)) dX9_alarm_23 (by decide) ?_
      obtain ⟨rfl, rfl⟩ := ret_eq h
      exact gx_iret X rfl dX9_alarm_25
  · replace h := (if_pos q4).symm.trans h
    refine gx_iconst X (v := (-1 : Int32)) dX9_alarm_11 (by decide) ?_
    obtain ⟨rfl, rfl⟩ := ret_eq h
    exact gx_iret X rfl dX9_alarm_12
theorem dX9_alone_0 : decode cX9_alone 0 = .ok (.aload_n 0, 1) := by decide +kernel
theorem dX9_alone_1 : decode cX9_alone 1 = .ok (.getfield 10, 3) := by decide +kernel
theorem dX9_alone_4 : decode cX9_alone 4 = .ok (.iload_n 1, 1) := by decide +kernel
theorem dX9_alone_5 : decode cX9_alone 5 = .ok (.invokevirtual 110, 3) := by decide +kernel
theorem dX9_alone_8 : decode cX9_alone 8 = .ok (.ifCond .eq 14, 3) := by decide +kernel
theorem dX9_alone_11 : decode cX9_alone 11 = .ok (.iload_n 2, 1) := by decide +kernel
theorem dX9_alone_12 : decode cX9_alone 12 = .ok (.iconst (-1), 1) := by decide +kernel
theorem dX9_alone_13 : decode cX9_alone 13 = .ok (.if_icmp .lt 9, 3) := by decide +kernel
theorem dX9_alone_16 : decode cX9_alone 16 = .ok (.iload_n 2, 1) := by decide +kernel
theorem dX9_alone_17 : decode cX9_alone 17 = .ok (.bipush 15, 2) := by decide +kernel
theorem dX9_alone_19 : decode cX9_alone 19 = .ok (.if_icmp .le 5, 3) := by decide +kernel
theorem dX9_alone_22 : decode cX9_alone 22 = .ok (.iconst (-1), 1) := by decide +kernel
theorem dX9_alone_23 : decode cX9_alone 23 = .ok (.ireturn, 1) := by decide +kernel
theorem dX9_alone_24 : decode cX9_alone 24 = .ok (.iload_n 2, 1) := by decide +kernel
theorem dX9_alone_25 : decode cX9_alone 25 = .ok (.ifCond .lt 13, 3) := by decide +kernel
theorem dX9_alone_28 : decode cX9_alone 28 = .ok (.aload_n 0, 1) := by decide +kernel
theorem dX9_alone_29 : decode cX9_alone 29 = .ok (.getfield 10, 3) := by decide +kernel
theorem dX9_alone_32 : decode cX9_alone 32 = .ok (.iload_n 1, 1) := by decide +kernel
theorem dX9_alone_33 : decode cX9_alone 33 = .ok (.iload_n 2, 1) := by decide +kernel
theorem dX9_alone_34 : decode cX9_alone 34 = .ok (.invokevirtual 201, 3) := by decide +kernel
theorem dX9_alone_37 : decode cX9_alone 37 = .ok (.ireturn, 1) := by decide +kernel
theorem dX9_alone_38 : decode cX9_alone 38 = .ok (.iconst 0, 1) := by decide +kernel
theorem dX9_alone_39 : decode cX9_alone 39 = .ok (.istore_n 3, 1) := by decide +kernel
theorem dX9_alone_40 : decode cX9_alone 40 = .ok (.iconst 0, 1) := by decide +kernel
theorem dX9_alone_41 : decode cX9_alone 41 = .ok (.istore 4, 2) := by decide +kernel
theorem dX9_alone_43 : decode cX9_alone 43 = .ok (.iload 4, 2) := by decide +kernel
theorem dX9_alone_45 : decode cX9_alone 45 = .ok (.bipush 15, 2) := by decide +kernel
theorem dX9_alone_47 : decode cX9_alone 47 = .ok (.if_icmp .gt 27, 3) := by decide +kernel
theorem dX9_alone_50 : decode cX9_alone 50 = .ok (.iload_n 3, 1) := by decide +kernel
theorem dX9_alone_51 : decode cX9_alone 51 = .ok (.aload_n 0, 1) := by decide +kernel
theorem dX9_alone_52 : decode cX9_alone 52 = .ok (.getfield 10, 3) := by decide +kernel
theorem dX9_alone_55 : decode cX9_alone 55 = .ok (.iload_n 1, 1) := by decide +kernel
theorem dX9_alone_56 : decode cX9_alone 56 = .ok (.iload 4, 2) := by decide +kernel
theorem dX9_alone_58 : decode cX9_alone 58 = .ok (.invokevirtual 201, 3) := by decide +kernel
theorem dX9_alone_61 : decode cX9_alone 61 = .ok (.invokestatic 204, 3) := by decide +kernel
theorem dX9_alone_64 : decode cX9_alone 64 = .ok (.invokestatic 163, 3) := by decide +kernel
theorem dX9_alone_67 : decode cX9_alone 67 = .ok (.istore_n 3, 1) := by decide +kernel
theorem dX9_alone_68 : decode cX9_alone 68 = .ok (.iinc 4 1, 3) := by decide +kernel
theorem dX9_alone_71 : decode cX9_alone 71 = .ok (.goto (-28), 3) := by decide +kernel
theorem dX9_alone_74 : decode cX9_alone 74 = .ok (.iload_n 3, 1) := by decide +kernel
theorem dX9_alone_75 : decode cX9_alone 75 = .ok (.ireturn, 1) := by decide +kernel
def m_X9_alone_43 : Nat → Int32 → Int32 → Int32 → Mm → Option (Int32 × Mm)
  | 0, _, _, _, _ => none
  | n + 1, x1, x3, x4, g => (if (15 : Int32) < x4 then some (x3, g) else bdd (m_X8_hoursStriking x1 x4 g) (fun ra2 ga3 => bdd (m_J6_bitCount_0f7a4 ra2 ga3) (fun ra5 ga6 => bdd (m_J9_max_7cf53 x3 ra5 ga6) (fun ra8 ga9 => m_X9_alone_43 n x1 ra8 (x4 + (1 : Int32)) ga9))))
set_option maxHeartbeats 2000000 in
theorem t_X9_alone_43 {r2 : Int32} {g2 : Mm} (X : gx_X p R s m args meth c D al cI cJ A RX9 cX9_alone 5 (some .int) d 0 0) (hd : 3 ≤ d) : ∀ (n : Nat) (x1 : Int32) (x3 : Int32) (x4 : Int32) (g : Mm), m_X9_alone_43 n x1 x3 x4 g = some (r2, g2) → gx_G p l e R s m args below meth c (gx_Q below args s D al cI cJ A (some (.int r2)) g2) D al cI cJ A 5 0 0 43 [(0, .ref (al (0))), (1, .int (x1)), (3, .int (x3)), (4, .int (x4))] [] g := by
  intro n
  induction n with
  | zero => intro x1 x3 x4 g h; cases h
  | succ n ih =>
    intro x1 x3 x4 g h
    rw [m_X9_alone_43] at h
    refine gx_iload X 3 rfl dX9_alone_43 ?_
    refine gx_bipush X (v := (15 : Int32)) dX9_alone_45 (by decide) ?_
    refine gx_icmp_gt X 74 dX9_alone_47 (by decide) (fun q1 => ?_) (fun q1 => ?_)
    · replace h := (if_pos q1).symm.trans h
      refine gx_iload_n X 2 rfl dX9_alone_74 ?_
      obtain ⟨rfl, rfl⟩ := ret_eq h
      exact gx_iret X rfl dX9_alone_75
    · replace h := (if_neg q1).symm.trans h
      refine gx_iload_n X 2 rfl dX9_alone_50 ?_
      refine gx_aload_n X 0 rfl dX9_alone_51 ?_
      refine gx_getf X (0) lf_X9_10 (by decide) (cl_0 _ _) (v := .ref (al (1))) rfl dX9_alone_52 ?_
      refine gx_iload_n X 1 rfl dX9_alone_55 ?_
      refine gx_iload X 3 rfl dX9_alone_56 ?_
      obtain ⟨ra2, ga3, ca4, h⟩ := bdd_eq h
      refine gx_callNi X (1) (c_X8_hoursStriking ca4) lc_X8_hoursStriking li_X8_hoursStriking lm_X9_201 (by decide) (cl_1 _ _) rfl rfl rfl (Nat.le_trans (by decide) hd) rfl (Nat.le_of_ble_eq_true rfl) dX9_alone_58 ?_
      obtain ⟨ra5, ga6, ca7, h⟩ := bdd_eq h
      refine gx_callSi X (c_J6_bitCount_0f7a4 ca7) lc_J6_bitCount_0f7a4 li_J6_bitCount_0f7a4 lm_X9_204 rfl rfl (Nat.le_trans (by decide) hd) rfl (Nat.le_of_ble_eq_true rfl) dX9_alone_61 ?_
      obtain ⟨ra8, ga9, ca10, h⟩ := bdd_eq h
      refine gx_callSi X (c_J9_max_7cf53 ca10) lc_J9_max_7cf53 li_J9_max_7cf53 lm_X9_163 rfl rfl (Nat.le_trans (by decide) hd) rfl (Nat.le_of_ble_eq_true rfl) dX9_alone_64 ?_
      refine gx_istore_n X [(3, .int (ra8)), (0, .ref (al (0))), (1, .int (x1)), (4, .int (x4))] dX9_alone_67 (by decide) rfl ?_
      refine gx_iinc X [(4, .int ((x4 + (1 : Int32)))), (3, .int (ra8)), (0, .ref (al (0))), (1, .int (x1))] 3 dX9_alone_68 rfl rfl (by decide) rfl ?_
      refine gx_goto X 43 dX9_alone_71 (by decide) ?_
      exact gx_sub [2, 3, 1, 0] rfl (ih x1 ra8 (x4 + (1 : Int32)) ga9 h)
def m_X9_alone (a1 : Int32) (a2 : Int32) (g : Mm) : Option (Int32 × Mm) := bdd (m_X8_hasBell a1 g) (fun ra1 ga2 => (if ra1 = (0 : Int32) then some ((-1 : Int32), ga2) else (if a2 < (-1 : Int32) then some ((-1 : Int32), ga2) else (if a2 ≤ (15 : Int32) then (if a2 < (0 : Int32) then m_X9_alone_43 fuL a1 (0 : Int32) (0 : Int32) ga2 else bdd (m_X8_hoursStriking a1 a2 ga2) (fun ra8 ga9 => some (ra8, ga9))) else some ((-1 : Int32), ga2)))))
set_option maxHeartbeats 2000000 in
theorem c_X9_alone {r2 : Int32} {g g2 : Mm} {a1 : Int32} {a2 : Int32} (h : m_X9_alone a1 a2 g = some (r2, g2)) : gx_M 3 yX9_alone cX9_alone 5 (some .int) (fun al => [.ref (al (0)), .int (a1), .int (a2)]) g (some (.int r2)) g2 := by
  have hd : 3 ≤ 3 := Nat.le_refl _
  refine gx_M.of (by decide +kernel) (fun _ => Nat.le_of_ble_eq_true rfl) ?_
  intro p l e R s m args below meth c D al cI cJ A X
  refine gx_eq (pc' := 0) (ls' := [(0, .ref (al (0))), (1, .int (a1)), (2, .int (a2))]) (st' := []) (g' := g) ⟨rfl, rfl, rfl, rfl⟩ ?_
  unfold m_X9_alone at h
  refine gx_aload_n X 0 rfl dX9_alone_0 ?_
  refine gx_getf X (0) lf_X9_10 (by decide) (cl_0 _ _) (v := .ref (al (1))) rfl dX9_alone_1 ?_
  refine gx_iload_n X 1 rfl dX9_alone_4 ?_
  obtain ⟨ra1, ga2, ca3, h⟩ := bdd_eq h
  refine gx_callNi X (1) (c_X8_hasBell ca3) lc_X8_hasBell li_X8_hasBell lm_X9_110 (by decide) (cl_1 _ _) rfl rfl rfl (Nat.le_trans (by decide) hd) rfl (Nat.le_of_ble_eq_true rfl) dX9_alone_5 ?_
  refine gx_if_eq X 22 dX9_alone_8 (by decide) (fun q4 => ?_) (fun q4 => ?_)
  · replace h := (if_pos q4).symm.trans h
    refine gx_iconst X (v := (-1 : Int32)) dX9_alone_22 (by decide) ?_
    obtain ⟨rfl, rfl⟩ := ret_eq h
    exact gx_iret X rfl dX9_alone_23
  · replace h := (if_neg q4).symm.trans h
    refine gx_iload_n X 2 rfl dX9_alone_11 ?_
    refine gx_iconst X (v := (-1 : Int32)) dX9_alone_12 (by decide) ?_
    refine gx_icmp_lt X 22 dX9_alone_13 (by decide) (fun q5 => ?_) (fun q5 => ?_)
    · replace h := (if_pos q5).symm.trans h
      refine gx_iconst X (v := (-1 : Int32)) dX9_alone_22 (by decide) ?_
      obtain ⟨rfl, rfl⟩ := ret_eq h
      exact gx_iret X rfl dX9_alone_23
    · replace h := (if_neg q5).symm.trans h
      refine gx_iload_n X 2 rfl dX9_alone_16 ?_
      refine gx_bipush X (v := (15 : Int32)) dX9_alone_17 (by decide) ?_
      refine gx_icmp_le X 24 dX9_alone_19 (by decide) (fun q6 => ?_) (fun q6 => ?_)
      · replace h := (if_pos q6).symm.trans h
        refine gx_iload_n X 2 rfl dX9_alone_24 ?_
        refine gx_if_lt X 38 dX9_alone_25 (by decide) (fun q7 => ?_) (fun q7 => ?_)
        · replace h := (if_pos q7).symm.trans h
          refine gx_iconst X (v := (0 : Int32)) dX9_alone_38 (by decide) ?_
          refine gx_istore_n X [(3, .int ((0 : Int32))), (0, .ref (al (0))), (1, .int (a1)), (2, .int (a2))] dX9_alone_39 (by decide) rfl ?_
          refine gx_iconst X (v := (0 : Int32)) dX9_alone_40 (by decide) ?_
          refine gx_istore X [(4, .int ((0 : Int32))), (3, .int ((0 : Int32))), (0, .ref (al (0))), (1, .int (a1)), (2, .int (a2))] dX9_alone_41 (by decide) rfl ?_
          exact gx_sub [2, 3, 1, 0] rfl (t_X9_alone_43 X hd fuL a1 (0 : Int32) (0 : Int32) ga2 h)
        · replace h := (if_neg q7).symm.trans h
          refine gx_aload_n X 0 rfl dX9_alone_28 ?_
          refine gx_getf X (0) lf_X9_10 (by decide) (cl_0 _ _) (v := .ref (al (1))) rfl dX9_alone_29 ?_
          refine gx_iload_n X 1 rfl dX9_alone_32 ?_
          refine gx_iload_n X 2 rfl dX9_alone_33 ?_
          obtain ⟨ra8, ga9, ca10, h⟩ := bdd_eq h
          refine gx_callNi X (1) (c_X8_hoursStriking ca10) lc_X8_hoursStriking li_X8_hoursStriking lm_X9_201 (by decide) (cl_1 _ _) rfl rfl rfl (Nat.le_trans (by decide) hd) rfl (Nat.le_of_ble_eq_true rfl) dX9_alone_34 ?_
          obtain ⟨rfl, rfl⟩ := ret_eq h
          exact gx_iret X rfl dX9_alone_37
      · replace h := (if_neg q6).symm.trans h
        refine gx_iconst X (v := (-1 : Int32)) dX9_alone_22 (by decide) ?_
        obtain ⟨rfl, rfl⟩ := ret_eq h
        exact gx_iret X rfl dX9_alone_23
theorem dX9_bears_0 : decode cX9_bears 0 = .ok (.aload_n 0, 1) := by decide +kernel
theorem dX9_bears_1 : decode cX9_bears 1 = .ok (.getfield 10, 3) := by decide +kernel
theorem dX9_bears_4 : decode cX9_bears 4 = .ok (.getfield 67, 3) := by decide +kernel
theorem dX9_bears_7 : decode cX9_bears 7 = .ok (.ifCond .ne 6, 3) := by decide +kernel
theorem dX9_bears_10 : decode cX9_bears 10 = .ok (.bipush (-5), 2) := by decide +kernel
theorem dX9_bears_12 : decode cX9_bears 12 = .ok (.ireturn, 1) := by decide +kernel
theorem dX9_bears_13 : decode cX9_bears 13 = .ok (.aload_n 0, 1) := by decide +kernel
theorem dX9_bears_14 : decode cX9_bears 14 = .ok (.getfield 35, 3) := by decide +kernel
theorem dX9_bears_17 : decode cX9_bears 17 = .ok (.invokevirtual 188, 3) := by decide +kernel
theorem dX9_bears_20 : decode cX9_bears 20 = .ok (.ifCond .eq 7, 3) := by decide +kernel
theorem dX9_bears_23 : decode cX9_bears 23 = .ok (.iconst 1, 1) := by decide +kernel
theorem dX9_bears_24 : decode cX9_bears 24 = .ok (.goto 4, 3) := by decide +kernel
theorem dX9_bears_27 : decode cX9_bears 27 = .ok (.iconst 0, 1) := by decide +kernel
theorem dX9_bears_28 : decode cX9_bears 28 = .ok (.ireturn, 1) := by decide +kernel
def m_X9_bears (g : Mm) : Option (Int32 × Mm) := (if (rdI g 1 0) = (0 : Int32) then some ((-5 : Int32), g) else bdd (m_X7_allToldWithAStrokeLost  g) (fun ra2 ga3 => (if ra2 = (0 : Int32) then some ((0 : Int32), ga3) else some ((1 : Int32), ga3))))
set_option maxHeartbeats 2000000 in
theorem c_X9_bears {r2 : Int32} {g g2 : Mm} (h : m_X9_bears g = some (r2, g2)) : gx_M 6 yX9_bears cX9_bears 1 (some .int) (fun al => [.ref (al (0))]) g (some (.int r2)) g2 := by
  have hd : 6 ≤ 6 := Nat.le_refl _
  refine gx_M.of (by decide +kernel) (fun _ => Nat.le_of_ble_eq_true rfl) ?_
  intro p l e R s m args below meth c D al cI cJ A X
  refine gx_eq (pc' := 0) (ls' := [(0, .ref (al (0)))]) (st' := []) (g' := g) ⟨rfl, rfl, rfl, rfl⟩ ?_
  unfold m_X9_bears at h
  refine gx_aload_n X 0 rfl dX9_bears_0 ?_
  refine gx_getf X (0) lf_X9_10 (by decide) (cl_0 _ _) (v := .ref (al (1))) rfl dX9_bears_1 ?_
  refine gx_getn X (1) lf_X9_67 (by decide) (cl_1 _ _) (v := .int ((rdI g 1 0))) rfl dX9_bears_4 ?_
  refine gx_if_ne X 13 dX9_bears_7 (by decide) (fun q1 => ?_) (fun q1 => ?_)
  · replace h := (if_neg q1).symm.trans h
    refine gx_aload_n X 0 rfl dX9_bears_13 ?_
    refine gx_getf X (0) lf_X9_35 (by decide) (cl_0 _ _) (v := .ref (al (23))) rfl dX9_bears_14 ?_
    obtain ⟨ra2, ga3, ca4, h⟩ := bdd_eq h
    refine gx_callNi X (23) (c_X7_allToldWithAStrokeLost ca4) lc_X7_allToldWithAStrokeLost li_X7_allToldWithAStrokeLost lm_X9_188 (by decide) (cl_23 _ _) rfl rfl rfl (Nat.le_trans (by decide) hd) rfl (Nat.le_of_ble_eq_true rfl) dX9_bears_17 ?_
    refine gx_if_eq X 27 dX9_bears_20 (by decide) (fun q5 => ?_) (fun q5 => ?_)
    · replace h := (if_pos q5).symm.trans h
      refine gx_iconst X (v := (0 : Int32)) dX9_bears_27 (by decide) ?_
      obtain ⟨rfl, rfl⟩ := ret_eq h
      exact gx_iret X rfl dX9_bears_28
    · replace h := (if_neg q5).symm.trans h
      refine gx_iconst X (v := (1 : Int32)) dX9_bears_23 (by decide) ?_
      refine gx_goto X 28 dX9_bears_24 (by decide) ?_
      obtain ⟨rfl, rfl⟩ := ret_eq h
      exact gx_iret X rfl dX9_bears_28
  · replace h := (if_pos q1).symm.trans h
    refine gx_bipush X (v := (-5 : Int32)) dX9_bears_10 (by decide) ?_
    obtain ⟨rfl, rfl⟩ := ret_eq h
    exact gx_iret X rfl dX9_bears_12
theorem dX9_begins_0 : decode cX9_begins 0 = .ok (.iload_n 1, 1) := by decide +kernel
theorem dX9_begins_1 : decode cX9_begins 1 = .ok (.ifCond .lt 8, 3) := by decide +kernel
theorem dX9_begins_4 : decode cX9_begins 4 = .ok (.iload_n 1, 1) := by decide +kernel
theorem dX9_begins_5 : decode cX9_begins 5 = .ok (.iconst 1, 1) := by decide +kernel
theorem dX9_begins_6 : decode cX9_begins 6 = .ok (.if_icmp .le 5, 3) := by decide +kernel
theorem dX9_begins_9 : decode cX9_begins 9 = .ok (.iconst (-1), 1) := by decide +kernel
theorem dX9_begins_10 : decode cX9_begins 10 = .ok (.ireturn, 1) := by decide +kernel
theorem dX9_begins_11 : decode cX9_begins 11 = .ok (.aload_n 0, 1) := by decide +kernel
theorem dX9_begins_12 : decode cX9_begins 12 = .ok (.getfield 49, 3) := by decide +kernel
theorem dX9_begins_15 : decode cX9_begins 15 = .ok (.invokevirtual 261, 3) := by decide +kernel
theorem dX9_begins_18 : decode cX9_begins 18 = .ok (.istore_n 2, 1) := by decide +kernel
theorem dX9_begins_19 : decode cX9_begins 19 = .ok (.iload_n 1, 1) := by decide +kernel
theorem dX9_begins_20 : decode cX9_begins 20 = .ok (.ifCond .ne 7, 3) := by decide +kernel
theorem dX9_begins_23 : decode cX9_begins 23 = .ok (.iload_n 2, 1) := by decide +kernel
theorem dX9_begins_24 : decode cX9_begins 24 = .ok (.goto 11, 3) := by decide +kernel
theorem dX9_begins_27 : decode cX9_begins 27 = .ok (.aload_n 0, 1) := by decide +kernel
theorem dX9_begins_28 : decode cX9_begins 28 = .ok (.getfield 49, 3) := by decide +kernel
theorem dX9_begins_31 : decode cX9_begins 31 = .ok (.iload_n 2, 1) := by decide +kernel
theorem dX9_begins_32 : decode cX9_begins 32 = .ok (.invokevirtual 264, 3) := by decide +kernel
theorem dX9_begins_35 : decode cX9_begins 35 = .ok (.ireturn, 1) := by decide +kernel
def m_X9_begins (a1 : Int32) (g : Mm) : Option (Int32 × Mm) := (if a1 < (0 : Int32) then some ((-1 : Int32), g) else (if a1 ≤ (1 : Int32) then bdd (m_X2_hoursBegun  g) (fun ra3 ga4 => (if a1 = (0 : Int32) then some (ra3, ga4) else bdd (m_X2_rowsMore ra3 ga4) (fun ra7 ga8 => some (ra7, ga8)))) else some ((-1 : Int32), g)))
set_option maxHeartbeats 2000000 in
theorem c_X9_begins {r2 : Int32} {g g2 : Mm} {a1 : Int32} (h : m_X9_begins a1 g = some (r2, g2)) : gx_M 5 yX9_begins cX9_begins 3 (some .int) (fun al => [.ref (al (0)), .int (a1)]) g (some (.int r2)) g2 := by
  have hd : 5 ≤ 5 := Nat.le_refl _
  refine gx_M.of (by decide +kernel) (fun _ => Nat.le_of_ble_eq_true rfl) ?_
  intro p l e R s m args below meth c D al cI cJ A X
  refine gx_eq (pc' := 0) (ls' := [(0, .ref (al (0))), (1, .int (a1))]) (st' := []) (g' := g) ⟨rfl, rfl, rfl, rfl⟩ ?_
  unfold m_X9_begins at h
  refine gx_iload_n X 1 rfl dX9_begins_0 ?_
  refine gx_if_lt X 9 dX9_begins_1 (by decide) (fun q1 => ?_) (fun q1 => ?_)
  · replace h := (if_pos q1).symm.trans h
    refine gx_iconst X (v := (-1 : Int32)) dX9_begins_9 (by decide) ?_
    obtain ⟨rfl, rfl⟩ := ret_eq h
    exact gx_iret X rfl dX9_begins_10
  · replace h := (if_neg q1).symm.trans h
    refine gx_iload_n X 1 rfl dX9_begins_4 ?_
    refine gx_iconst X (v := (1 : Int32)) dX9_begins_5 (by decide) ?_
    refine gx_icmp_le X 11 dX9_begins_6 (by decide) (fun q2 => ?_) (fun q2 => ?_)
    · replace h := (if_pos q2).symm.trans h
      refine gx_aload_n X 0 rfl dX9_begins_11 ?_
      refine gx_getf X (0) lf_X9_49 (by decide) (cl_0 _ _) (v := .ref (al (29))) rfl dX9_begins_12 ?_
      obtain ⟨ra3, ga4, ca5, h⟩ := bdd_eq h
      refine gx_callNi X (29) (c_X2_hoursBegun ca5) lc_X2_hoursBegun li_X2_hoursBegun lm_X9_261 (by decide) (cl_29 _ _) rfl rfl rfl (Nat.le_trans (by decide) hd) rfl (Nat.le_of_ble_eq_true rfl) dX9_begins_15 ?_
      refine gx_istore_n X [(2, .int (ra3)), (0, .ref (al (0))), (1, .int (a1))] dX9_begins_18 (by decide) rfl ?_
      refine gx_iload_n X 2 rfl dX9_begins_19 ?_
      refine gx_if_ne X 27 dX9_begins_20 (by decide) (fun q6 => ?_) (fun q6 => ?_)
      · replace h := (if_neg q6).symm.trans h
        refine gx_aload_n X 1 rfl dX9_begins_27 ?_
        refine gx_getf X (0) lf_X9_49 (by decide) (cl_0 _ _) (v := .ref (al (29))) rfl dX9_begins_28 ?_
        refine gx_iload_n X 0 rfl dX9_begins_31 ?_
        obtain ⟨ra7, ga8, ca9, h⟩ := bdd_eq h
        refine gx_callNi X (29) (c_X2_rowsMore ca9) lc_X2_rowsMore li_X2_rowsMore lm_X9_264 (by decide) (cl_29 _ _) rfl rfl rfl (Nat.le_trans (by decide) hd) rfl (Nat.le_of_ble_eq_true rfl) dX9_begins_32 ?_
        obtain ⟨rfl, rfl⟩ := ret_eq h
        exact gx_iret X rfl dX9_begins_35
      · replace h := (if_pos q6).symm.trans h
        refine gx_iload_n X 0 rfl dX9_begins_23 ?_
        refine gx_goto X 35 dX9_begins_24 (by decide) ?_
        obtain ⟨rfl, rfl⟩ := ret_eq h
        exact gx_iret X rfl dX9_begins_35
    · replace h := (if_neg q2).symm.trans h
      refine gx_iconst X (v := (-1 : Int32)) dX9_begins_9 (by decide) ?_
      obtain ⟨rfl, rfl⟩ := ret_eq h
      exact gx_iret X rfl dX9_begins_10
theorem dX9_bell_0 : decode cX9_bell 0 = .ok (.iload_n 1, 1) := by decide +kernel
theorem dX9_bell_1 : decode cX9_bell 1 = .ok (.iconst 1, 1) := by decide +kernel
theorem dX9_bell_2 : decode cX9_bell 2 = .ok (.if_icmp .lt 9, 3) := by decide +kernel
theorem dX9_bell_5 : decode cX9_bell 5 = .ok (.iload_n 1, 1) := by decide +kernel
theorem dX9_bell_6 : decode cX9_bell 6 = .ok (.bipush 15, 2) := by decide +kernel
theorem dX9_bell_8 : decode cX9_bell 8 = .ok (.if_icmp .le 5, 3) := by decide +kernel
theorem dX9_bell_11 : decode cX9_bell 11 = .ok (.iconst (-1), 1) := by decide +kernel
theorem dX9_bell_12 : decode cX9_bell 12 = .ok (.ireturn, 1) := by decide +kernel
theorem dX9_bell_13 : decode cX9_bell 13 = .ok (.iload_n 2, 1) := by decide +kernel
theorem dX9_bell_14 : decode cX9_bell 14 = .ok (.ifCond .lt 23, 3) := by decide +kernel
theorem dX9_bell_17 : decode cX9_bell 17 = .ok (.iload_n 2, 1) := by decide +kernel
theorem dX9_bell_18 : decode cX9_bell 18 = .ok (.sipush 1000, 3) := by decide +kernel
theorem dX9_bell_21 : decode cX9_bell 21 = .ok (.idiv, 1) := by decide +kernel
theorem dX9_bell_22 : decode cX9_bell 22 = .ok (.bipush 99, 2) := by decide +kernel
theorem dX9_bell_24 : decode cX9_bell 24 = .ok (.if_icmp .gt 13, 3) := by decide +kernel
theorem dX9_bell_27 : decode cX9_bell 27 = .ok (.iload_n 2, 1) := by decide +kernel
theorem dX9_bell_28 : decode cX9_bell 28 = .ok (.sipush 1000, 3) := by decide +kernel
theorem dX9_bell_31 : decode cX9_bell 31 = .ok (.irem, 1) := by decide +kernel
theorem dX9_bell_32 : decode cX9_bell 32 = .ok (.bipush 100, 2) := by decide +kernel
theorem dX9_bell_34 : decode cX9_bell 34 = .ok (.if_icmp .le 5, 3) := by decide +kernel
theorem dX9_bell_37 : decode cX9_bell 37 = .ok (.iconst (-1), 1) := by decide +kernel
theorem dX9_bell_38 : decode cX9_bell 38 = .ok (.ireturn, 1) := by decide +kernel
theorem dX9_bell_39 : decode cX9_bell 39 = .ok (.aload_n 0, 1) := by decide +kernel
theorem dX9_bell_40 : decode cX9_bell 40 = .ok (.getfield 10, 3) := by decide +kernel
theorem dX9_bell_43 : decode cX9_bell 43 = .ok (.getfield 67, 3) := by decide +kernel
theorem dX9_bell_46 : decode cX9_bell 46 = .ok (.bipush 6, 2) := by decide +kernel
theorem dX9_bell_48 : decode cX9_bell 48 = .ok (.if_icmp .lt 6, 3) := by decide +kernel
theorem dX9_bell_51 : decode cX9_bell 51 = .ok (.bipush (-3), 2) := by decide +kernel
theorem dX9_bell_53 : decode cX9_bell 53 = .ok (.ireturn, 1) := by decide +kernel
theorem dX9_bell_54 : decode cX9_bell 54 = .ok (.aload_n 0, 1) := by decide +kernel
theorem dX9_bell_55 : decode cX9_bell 55 = .ok (.getfield 10, 3) := by decide +kernel
theorem dX9_bell_58 : decode cX9_bell 58 = .ok (.iload_n 1, 1) := by decide +kernel
theorem dX9_bell_59 : decode cX9_bell 59 = .ok (.iload_n 2, 1) := by decide +kernel
theorem dX9_bell_60 : decode cX9_bell 60 = .ok (.sipush 1000, 3) := by decide +kernel
theorem dX9_bell_63 : decode cX9_bell 63 = .ok (.idiv, 1) := by decide +kernel
theorem dX9_bell_64 : decode cX9_bell 64 = .ok (.iload_n 2, 1) := by decide +kernel
theorem dX9_bell_65 : decode cX9_bell 65 = .ok (.sipush 1000, 3) := by decide +kernel
theorem dX9_bell_68 : decode cX9_bell 68 = .ok (.irem, 1) := by decide +kernel
theorem dX9_bell_69 : decode cX9_bell 69 = .ok (.invokevirtual 71, 3) := by decide +kernel
theorem dX9_bell_72 : decode cX9_bell 72 = .ok (.ireturn, 1) := by decide +kernel
def m_X9_bell (a1 : Int32) (a2 : Int32) (g : Mm) : Option (Int32 × Mm) := (if a1 < (1 : Int32) then some ((-1 : Int32), g) else (if a1 ≤ (15 : Int32) then (if a2 < (0 : Int32) then some ((-1 : Int32), g) else (if (99 : Int32) < (a2 / (1000 : Int32)) then some ((-1 : Int32), g) else (if (rmI a2 (1000 : Int32)) ≤ (100 : Int32) then (if (rdI g 1 0) < (6 : Int32) then bdd (m_X8_addBell a1 (a2 / (1000 : Int32)) (rmI a2 (1000 : Int32)) g) (fun ra7 ga8 => some (ra7, ga8)) else some ((-3 : Int32), g)) else some ((-1 : Int32), g)))) else some ((-1 : Int32), g)))
set_option maxHeartbeats 2000000 in
theorem c_X9_bell {r2 : Int32} {g g2 : Mm} {a1 : Int32} {a2 : Int32} (h : m_X9_bell a1 a2 g = some (r2, g2)) : gx_M 2 yX9_bell cX9_bell 3 (some .int) (fun al => [.ref (al (0)), .int (a1), .int (a2)]) g (some (.int r2)) g2 := by
  have hd : 2 ≤ 2 := Nat.le_refl _
  refine gx_M.of (by decide +kernel) (fun _ => Nat.le_of_ble_eq_true rfl) ?_
  intro p l e R s m args below meth c D al cI cJ A X
  refine gx_eq (pc' := 0) (ls' := [(0, .ref (al (0))), (1, .int (a1)), (2, .int (a2))]) (st' := []) (g' := g) ⟨rfl, rfl, rfl, rfl⟩ ?_
  unfold m_X9_bell at h
  refine gx_iload_n X 1 rfl dX9_bell_0 ?_
  refine gx_iconst X (v := (1 : Int32)) dX9_bell_1 (by decide) ?_
  refine gx_icmp_lt X 11 dX9_bell_2 (by decide) (fun q1 => ?_) (fun q1 => ?_)
  · replace h := (if_pos q1).symm.trans h
    refine gx_iconst X (v := (-1 : Int32)) dX9_bell_11 (by decide) ?_
    obtain ⟨rfl, rfl⟩ := ret_eq h
    exact gx_iret X rfl dX9_bell_12
  · replace h := (if_neg q1).symm.trans h
    refine gx_iload_n X 1 rfl dX9_bell_5 ?_
    refine gx_bipush X (v := (15 : Int32)) dX9_bell_6 (by decide) ?_
    refine gx_icmp_le X 13 dX9_bell_8 (by decide) (fun q2 => ?_) (fun q2 => ?_)
    · replace h := (if_pos q2).symm.trans h
      refine gx_iload_n X 2 rfl dX9_bell_13 ?_
      refine gx_if_lt X 37 dX9_bell_14 (by decide) (fun q3 => ?_) (fun q3 => ?_)
      · replace h := (if_pos q3).symm.trans h
        refine gx_iconst X (v := (-1 : Int32)) dX9_bell_37 (by decide) ?_
        obtain ⟨rfl, rfl⟩ := ret_eq h
        exact gx_iret X rfl dX9_bell_38
      · replace h := (if_neg q3).symm.trans h
        refine gx_iload_n X 2 rfl dX9_bell_17 ?_
        refine gx_sipush X (v := (1000 : Int32)) dX9_bell_18 (by decide) ?_
        refine gx_idiv X dX9_bell_21 (by decide) ?_
        refine gx_bipush X (v := (99 : Int32)) dX9_bell_22 (by decide) ?_
        refine gx_icmp_gt X 37 dX9_bell_24 (by decide) (fun q4 => ?_) (fun q4 => ?_)
        · replace h := (if_pos q4).symm.trans h
          refine gx_iconst X (v := (-1 : Int32)) dX9_bell_37 (by decide) ?_
          obtain ⟨rfl, rfl⟩ := ret_eq h
          exact gx_iret X rfl dX9_bell_38
        · replace h := (if_neg q4).symm.trans h
          refine gx_iload_n X 2 rfl dX9_bell_27 ?_
          refine gx_sipush X (v := (1000 : Int32)) dX9_bell_28 (by decide) ?_
          refine gx_irem X dX9_bell_31 (by decide) ?_
          refine gx_bipush X (v := (100 : Int32)) dX9_bell_32 (by decide) ?_
          refine gx_icmp_le X 39 dX9_bell_34 (by decide) (fun q5 => ?_) (fun q5 => ?_)
          · replace h := (if_pos q5).symm.trans h
            refine gx_aload_n X 0 rfl dX9_bell_39 ?_
            refine gx_getf X (0) lf_X9_10 (by decide) (cl_0 _ _) (v := .ref (al (1))) rfl dX9_bell_40 ?_
            refine gx_getn X (1) lf_X9_67 (by decide) (cl_1 _ _) (v := .int ((rdI g 1 0))) rfl dX9_bell_43 ?_
            refine gx_bipush X (v := (6 : Int32)) dX9_bell_46 (by decide) ?_
            refine gx_icmp_lt X 54 dX9_bell_48 (by decide) (fun q6 => ?_) (fun q6 => ?_)
            · replace h := (if_pos q6).symm.trans h
              refine gx_aload_n X 0 rfl dX9_bell_54 ?_
              refine gx_getf X (0) lf_X9_10 (by decide) (cl_0 _ _) (v := .ref (al (1))) rfl dX9_bell_55 ?_
              refine gx_iload_n X 1 rfl dX9_bell_58 ?_
              refine gx_iload_n X 2 rfl dX9_bell_59 ?_
              refine gx_sipush X (v := (1000 : Int32)) dX9_bell_60 (by decide) ?_
              refine gx_idiv X dX9_bell_63 (by decide) ?_
              refine gx_iload_n X 2 rfl dX9_bell_64 ?_
              refine gx_sipush X (v := (1000 : Int32)) dX9_bell_65 (by decide) ?_
              refine gx_irem X dX9_bell_68 (by decide) ?_
              obtain ⟨ra7, ga8, ca9, h⟩ := bdd_eq h
              refine gx_callNi X (1) (c_X8_addBell ca9) lc_X8_addBell li_X8_addBell lm_X9_71 (by decide) (cl_1 _ _) rfl rfl rfl (Nat.le_trans (by decide) hd) rfl (Nat.le_of_ble_eq_true rfl) dX9_bell_69 ?_
              obtain ⟨rfl, rfl⟩ := ret_eq h
              exact gx_iret X rfl dX9_bell_72
            · replace h := (if_neg q6).symm.trans h
              refine gx_bipush X (v := (-3 : Int32)) dX9_bell_51 (by decide) ?_
              obtain ⟨rfl, rfl⟩ := ret_eq h
              exact gx_iret X rfl dX9_bell_53
          · replace h := (if_neg q5).symm.trans h
            refine gx_iconst X (v := (-1 : Int32)) dX9_bell_37 (by decide) ?_
            obtain ⟨rfl, rfl⟩ := ret_eq h
            exact gx_iret X rfl dX9_bell_38
    · replace h := (if_neg q2).symm.trans h
      refine gx_iconst X (v := (-1 : Int32)) dX9_bell_11 (by decide) ?_
      obtain ⟨rfl, rfl⟩ := ret_eq h
      exact gx_iret X rfl dX9_bell_12
theorem dX9_body_0 : decode cX9_body 0 = .ok (.iload_n 1, 1) := by decide +kernel
theorem dX9_body_1 : decode cX9_body 1 = .ok (.ifCond .lt 9, 3) := by decide +kernel
theorem dX9_body_4 : decode cX9_body 4 = .ok (.iload_n 1, 1) := by decide +kernel
theorem dX9_body_5 : decode cX9_body 5 = .ok (.bipush 8, 2) := by decide +kernel
theorem dX9_body_7 : decode cX9_body 7 = .ok (.if_icmp .lt 5, 3) := by decide +kernel
theorem dX9_body_10 : decode cX9_body 10 = .ok (.iconst (-1), 1) := by decide +kernel
theorem dX9_body_11 : decode cX9_body 11 = .ok (.ireturn, 1) := by decide +kernel
theorem dX9_body_12 : decode cX9_body 12 = .ok (.aload_n 0, 1) := by decide +kernel
theorem dX9_body_13 : decode cX9_body 13 = .ok (.getfield 56, 3) := by decide +kernel
theorem dX9_body_16 : decode cX9_body 16 = .ok (.iload_n 1, 1) := by decide +kernel
theorem dX9_body_17 : decode cX9_body 17 = .ok (.invokevirtual 295, 3) := by decide +kernel
theorem dX9_body_20 : decode cX9_body 20 = .ok (.ifCond .eq 15, 3) := by decide +kernel
theorem dX9_body_23 : decode cX9_body 23 = .ok (.aload_n 0, 1) := by decide +kernel
theorem dX9_body_24 : decode cX9_body 24 = .ok (.getfield 56, 3) := by decide +kernel
theorem dX9_body_27 : decode cX9_body 27 = .ok (.getfield 296, 3) := by decide +kernel
theorem dX9_body_30 : decode cX9_body 30 = .ok (.iconst 1, 1) := by decide +kernel
theorem dX9_body_31 : decode cX9_body 31 = .ok (.isub, 1) := by decide +kernel
theorem dX9_body_32 : decode cX9_body 32 = .ok (.goto 5, 3) := by decide +kernel
theorem dX9_body_35 : decode cX9_body 35 = .ok (.bipush (-3), 2) := by decide +kernel
theorem dX9_body_37 : decode cX9_body 37 = .ok (.ireturn, 1) := by decide +kernel
def m_X9_body (a1 : Int32) (g : Mm) : Option (Int32 × Mm) := (if a1 < (0 : Int32) then some ((-1 : Int32), g) else (if a1 < (8 : Int32) then bdd (m_X0_add a1 g) (fun ra3 ga4 => (if ra3 = (0 : Int32) then some ((-3 : Int32), ga4) else some (((rdI ga4 32 2) - (1 : Int32)), ga4))) else some ((-1 : Int32), g)))
set_option maxHeartbeats 2000000 in
theorem c_X9_body {r2 : Int32} {g g2 : Mm} {a1 : Int32} (h : m_X9_body a1 g = some (r2, g2)) : gx_M 2 yX9_body cX9_body 2 (some .int) (fun al => [.ref (al (0)), .int (a1)]) g (some (.int r2)) g2 := by
  have hd : 2 ≤ 2 := Nat.le_refl _
  refine gx_M.of (by decide +kernel) (fun _ => Nat.le_of_ble_eq_true rfl) ?_
  intro p l e R s m args below meth c D al cI cJ A X
  refine gx_eq (pc' := 0) (ls' := [(0, .ref (al (0))), (1, .int (a1))]) (st' := []) (g' := g) ⟨rfl, rfl, rfl, rfl⟩ ?_
  unfold m_X9_body at h
  refine gx_iload_n X 1 rfl dX9_body_0 ?_
  refine gx_if_lt X 10 dX9_body_1 (by decide) (fun q1 => ?_) (fun q1 => ?_)
  · replace h := (if_pos q1).symm.trans h
    refine gx_iconst X (v := (-1 : Int32)) dX9_body_10 (by decide) ?_
    obtain ⟨rfl, rfl⟩ := ret_eq h
    exact gx_iret X rfl dX9_body_11
  · replace h := (if_neg q1).symm.trans h
    refine gx_iload_n X 1 rfl dX9_body_4 ?_
    refine gx_bipush X (v := (8 : Int32)) dX9_body_5 (by decide) ?_
    refine gx_icmp_lt X 12 dX9_body_7 (by decide) (fun q2 => ?_) (fun q2 => ?_)
    · replace h := (if_pos q2).symm.trans h
      refine gx_aload_n X 0 rfl dX9_body_12 ?_
      refine gx_getf X (0) lf_X9_56 (by decide) (cl_0 _ _) (v := .ref (al (32))) rfl dX9_body_13 ?_
      refine gx_iload_n X 1 rfl dX9_body_16 ?_
      obtain ⟨ra3, ga4, ca5, h⟩ := bdd_eq h
      refine gx_callNi X (32) (c_X0_add ca5) lc_X0_add li_X0_add lm_X9_295 (by decide) (cl_32 _ _) rfl rfl rfl (Nat.le_trans (by decide) hd) rfl (Nat.le_of_ble_eq_true rfl) dX9_body_17 ?_
      refine gx_if_eq X 35 dX9_body_20 (by decide) (fun q6 => ?_) (fun q6 => ?_)
      · replace h := (if_pos q6).symm.trans h
        refine gx_bipush X (v := (-3 : Int32)) dX9_body_35 (by decide) ?_
        obtain ⟨rfl, rfl⟩ := ret_eq h
        exact gx_iret X rfl dX9_body_37
      · replace h := (if_neg q6).symm.trans h
        refine gx_aload_n X 0 rfl dX9_body_23 ?_
        refine gx_getf X (0) lf_X9_56 (by decide) (cl_0 _ _) (v := .ref (al (32))) rfl dX9_body_24 ?_
        refine gx_getn X (32) lf_X9_296 (by decide) (cl_32 _ _) (v := .int ((rdI ga4 32 2))) rfl dX9_body_27 ?_
        refine gx_iconst X (v := (1 : Int32)) dX9_body_30 (by decide) ?_
        refine gx_isub X dX9_body_31 ?_
        refine gx_goto X 37 dX9_body_32 (by decide) ?_
        obtain ⟨rfl, rfl⟩ := ret_eq h
        exact gx_iret X rfl dX9_body_37
    · replace h := (if_neg q2).symm.trans h
      refine gx_iconst X (v := (-1 : Int32)) dX9_body_10 (by decide) ?_
      obtain ⟨rfl, rfl⟩ := ret_eq h
      exact gx_iret X rfl dX9_body_11
theorem dX9_count_0 : decode cX9_count 0 = .ok (.iload_n 1, 1) := by decide +kernel
theorem dX9_count_1 : decode cX9_count 1 = .ok (.tableswitch 99 0 6 #[43, 51, 59, 67, 75, 83, 91], 43) := by decide +kernel
theorem dX9_count_44 : decode cX9_count 44 = .ok (.aload_n 0, 1) := by decide +kernel
theorem dX9_count_45 : decode cX9_count 45 = .ok (.getfield 10, 3) := by decide +kernel
theorem dX9_count_48 : decode cX9_count 48 = .ok (.getfield 67, 3) := by decide +kernel
theorem dX9_count_51 : decode cX9_count 51 = .ok (.ireturn, 1) := by decide +kernel
theorem dX9_count_52 : decode cX9_count 52 = .ok (.aload_n 0, 1) := by decide +kernel
theorem dX9_count_53 : decode cX9_count 53 = .ok (.getfield 10, 3) := by decide +kernel
theorem dX9_count_56 : decode cX9_count 56 = .ok (.getfield 75, 3) := by decide +kernel
theorem dX9_count_59 : decode cX9_count 59 = .ok (.ireturn, 1) := by decide +kernel
theorem dX9_count_60 : decode cX9_count 60 = .ok (.aload_n 0, 1) := by decide +kernel
theorem dX9_count_61 : decode cX9_count 61 = .ok (.getfield 10, 3) := by decide +kernel
theorem dX9_count_64 : decode cX9_count 64 = .ok (.getfield 85, 3) := by decide +kernel
theorem dX9_count_67 : decode cX9_count 67 = .ok (.ireturn, 1) := by decide +kernel
theorem dX9_count_68 : decode cX9_count 68 = .ok (.aload_n 0, 1) := by decide +kernel
theorem dX9_count_69 : decode cX9_count 69 = .ok (.getfield 26, 3) := by decide +kernel
theorem dX9_count_72 : decode cX9_count 72 = .ok (.getfield 148, 3) := by decide +kernel
theorem dX9_count_75 : decode cX9_count 75 = .ok (.ireturn, 1) := by decide +kernel
theorem dX9_count_76 : decode cX9_count 76 = .ok (.aload_n 0, 1) := by decide +kernel
theorem dX9_count_77 : decode cX9_count 77 = .ok (.getfield 19, 3) := by decide +kernel
theorem dX9_count_80 : decode cX9_count 80 = .ok (.getfield 270, 3) := by decide +kernel
theorem dX9_count_83 : decode cX9_count 83 = .ok (.ireturn, 1) := by decide +kernel
theorem dX9_count_84 : decode cX9_count 84 = .ok (.aload_n 0, 1) := by decide +kernel
theorem dX9_count_85 : decode cX9_count 85 = .ok (.getfield 56, 3) := by decide +kernel
theorem dX9_count_88 : decode cX9_count 88 = .ok (.getfield 296, 3) := by decide +kernel
theorem dX9_count_91 : decode cX9_count 91 = .ok (.ireturn, 1) := by decide +kernel
theorem dX9_count_92 : decode cX9_count 92 = .ok (.aload_n 0, 1) := by decide +kernel
theorem dX9_count_93 : decode cX9_count 93 = .ok (.getfield 56, 3) := by decide +kernel
theorem dX9_count_96 : decode cX9_count 96 = .ok (.getfield 349, 3) := by decide +kernel
theorem dX9_count_99 : decode cX9_count 99 = .ok (.ireturn, 1) := by decide +kernel
theorem dX9_count_100 : decode cX9_count 100 = .ok (.iconst (-1), 1) := by decide +kernel
theorem dX9_count_101 : decode cX9_count 101 = .ok (.ireturn, 1) := by decide +kernel
def m_X9_count (a1 : Int32) (g : Mm) : Option (Int32 × Mm) := (if a1 = (0 : Int32) then some ((rdI g 1 0), g) else if a1 = (1 : Int32) then some ((rdI g 1 1), g) else if a1 = (2 : Int32) then some ((rdI g 1 2), g) else if a1 = (3 : Int32) then some ((rdI g 11 1), g) else if a1 = (4 : Int32) then some ((rdI g 7 3), g) else if a1 = (5 : Int32) then some ((rdI g 32 2), g) else if a1 = (6 : Int32) then some ((rdI g 32 3), g) else some ((-1 : Int32), g))
set_option maxHeartbeats 2000000 in
theorem c_X9_count {r2 : Int32} {g g2 : Mm} {a1 : Int32} (h : m_X9_count a1 g = some (r2, g2)) : gx_M 1 yX9_count cX9_count 2 (some .int) (fun al => [.ref (al (0)), .int (a1)]) g (some (.int r2)) g2 := by
  have hd : 1 ≤ 1 := Nat.le_refl _
  refine gx_M.of (by decide +kernel) (fun _ => Nat.le_of_ble_eq_true rfl) ?_
  intro p l e R s m args below meth c D al cI cJ A X
  refine gx_eq (pc' := 0) (ls' := [(0, .ref (al (0))), (1, .int (a1))]) (st' := []) (g' := g) ⟨rfl, rfl, rfl, rfl⟩ ?_
  unfold m_X9_count at h
  refine gx_iload_n X 1 rfl dX9_count_0 ?_
  by_cases q1 : a1 = (0 : Int32)
  · replace h := (if_pos q1).symm.trans h
    have eq1 : (a1).toInt = 0 := by rw [q1] <;> decide
    refine gx_tab 44 X dX9_count_1 (by rw [eq1] <;> decide) (by rw [eq1] <;> decide) (by rw [eq1] <;> rfl) (by decide) ?_
    refine gx_aload_n X 0 rfl dX9_count_44 ?_
    refine gx_getf X (0) lf_X9_10 (by decide) (cl_0 _ _) (v := .ref (al (1))) rfl dX9_count_45 ?_
    refine gx_getn X (1) lf_X9_67 (by decide) (cl_1 _ _) (v := .int ((rdI g 1 0))) rfl dX9_count_48 ?_
    obtain ⟨rfl, rfl⟩ := ret_eq h
    exact gx_iret X rfl dX9_count_51
  · replace h := (if_neg q1).symm.trans h
    by_cases q2 : a1 = (1 : Int32)
    · replace h := (if_pos q2).symm.trans h
      have eq2 : (a1).toInt = 1 := by rw [q2] <;> decide
      refine gx_tab 52 X dX9_count_1 (by rw [eq2] <;> decide) (by rw [eq2] <;> decide) (by rw [eq2] <;> rfl) (by decide) ?_
      refine gx_aload_n X 0 rfl dX9_count_52 ?_
      refine gx_getf X (0) lf_X9_10 (by decide) (cl_0 _ _) (v := .ref (al (1))) rfl dX9_count_53 ?_
      refine gx_getn X (1) lf_X9_75 (by decide) (cl_1 _ _) (v := .int ((rdI g 1 1))) rfl dX9_count_56 ?_
      obtain ⟨rfl, rfl⟩ := ret_eq h
      exact gx_iret X rfl dX9_count_59
    · replace h := (if_neg q2).symm.trans h
      by_cases q3 : a1 = (2 : Int32)
      · replace h := (if_pos q3).symm.trans h
        have eq3 : (a1).toInt = 2 := by rw [q3] <;> decide
        refine gx_tab 60 X dX9_count_1 (by rw [eq3] <;> decide) (by rw [eq3] <;> decide) (by rw [eq3] <;> rfl) (by decide) ?_
        refine gx_aload_n X 0 rfl dX9_count_60 ?_
        refine gx_getf X (0) lf_X9_10 (by decide) (cl_0 _ _) (v := .ref (al (1))) rfl dX9_count_61 ?_
        refine gx_getn X (1) lf_X9_85 (by decide) (cl_1 _ _) (v := .int ((rdI g 1 2))) rfl dX9_count_64 ?_
        obtain ⟨rfl, rfl⟩ := ret_eq h
        exact gx_iret X rfl dX9_count_67
      · replace h := (if_neg q3).symm.trans h
        by_cases q4 : a1 = (3 : Int32)
        · replace h := (if_pos q4).symm.trans h
          have eq4 : (a1).toInt = 3 := by rw [q4] <;> decide
          refine gx_tab 68 X dX9_count_1 (by rw [eq4] <;> decide) (by rw [eq4] <;> decide) (by rw [eq4] <;> rfl) (by decide) ?_
          refine gx_aload_n X 0 rfl dX9_count_68 ?_
          refine gx_getf X (0) lf_X9_26 (by decide) (cl_0 _ _) (v := .ref (al (11))) rfl dX9_count_69 ?_
          refine gx_getn X (11) lf_X9_148 (by decide) (cl_11 _ _) (v := .int ((rdI g 11 1))) rfl dX9_count_72 ?_
          obtain ⟨rfl, rfl⟩ := ret_eq h
          exact gx_iret X rfl dX9_count_75
        · replace h := (if_neg q4).symm.trans h
          by_cases q5 : a1 = (4 : Int32)
          · replace h := (if_pos q5).symm.trans h
            have eq5 : (a1).toInt = 4 := by rw [q5] <;> decide
            refine gx_tab 76 X dX9_count_1 (by rw [eq5] <;> decide) (by rw [eq5] <;> decide) (by rw [eq5] <;> rfl) (by decide) ?_
            refine gx_aload_n X 0 rfl dX9_count_76 ?_
            refine gx_getf X (0) lf_X9_19 (by decide) (cl_0 _ _) (v := .ref (al (7))) rfl dX9_count_77 ?_
            refine gx_getn X (7) lf_X9_270 (by decide) (cl_7 _ _) (v := .int ((rdI g 7 3))) rfl dX9_count_80 ?_
            obtain ⟨rfl, rfl⟩ := ret_eq h
            exact gx_iret X rfl dX9_count_83
          · replace h := (if_neg q5).symm.trans h
            by_cases q6 : a1 = (5 : Int32)
            · replace h := (if_pos q6).symm.trans h
              have eq6 : (a1).toInt = 5 := by rw [q6] <;> decide
              refine gx_tab 84 X dX9_count_1 (by rw [eq6] <;> decide) (by rw [eq6] <;> decide) (by rw [eq6] <;> rfl) (by decide) ?_
              refine gx_aload_n X 0 rfl dX9_count_84 ?_
              refine gx_getf X (0) lf_X9_56 (by decide) (cl_0 _ _) (v := .ref (al (32))) rfl dX9_count_85 ?_
              refine gx_getn X (32) lf_X9_296 (by decide) (cl_32 _ _) (v := .int ((rdI g 32 2))) rfl dX9_count_88 ?_
              obtain ⟨rfl, rfl⟩ := ret_eq h
              exact gx_iret X rfl dX9_count_91
            · replace h := (if_neg q6).symm.trans h
              by_cases q7 : a1 = (6 : Int32)
              · replace h := (if_pos q7).symm.trans h
                have eq7 : (a1).toInt = 6 := by rw [q7] <;> decide
                refine gx_tab 92 X dX9_count_1 (by rw [eq7] <;> decide) (by rw [eq7] <;> decide) (by rw [eq7] <;> rfl) (by decide) ?_
                refine gx_aload_n X 0 rfl dX9_count_92 ?_
                refine gx_getf X (0) lf_X9_56 (by decide) (cl_0 _ _) (v := .ref (al (32))) rfl dX9_count_93 ?_
                refine gx_getn X (32) lf_X9_349 (by decide) (cl_32 _ _) (v := .int ((rdI g 32 3))) rfl dX9_count_96 ?_
                obtain ⟨rfl, rfl⟩ := ret_eq h
                exact gx_iret X rfl dX9_count_99
              · replace h := (if_neg q7).symm.trans h
                have eq1 := lv_neT (a := 0) q1 (by decide)
                have eq2 := lv_neT (a := 1) q2 (by decide)
                have eq3 := lv_neT (a := 2) q3 (by decide)
                have eq4 := lv_neT (a := 3) q4 (by decide)
                have eq5 := lv_neT (a := 4) q5 (by decide)
                have eq6 := lv_neT (a := 5) q6 (by decide)
                have eq7 := lv_neT (a := 6) q7 (by decide)
                refine gx_tabO 100 X dX9_count_1 (by omega) (by decide) ?_
                refine gx_iconst X (v := (-1 : Int32)) dX9_count_100 (by decide) ?_
                obtain ⟨rfl, rfl⟩ := ret_eq h
                exact gx_iret X rfl dX9_count_101
theorem dX9_element_0 : decode cX9_element 0 = .ok (.aload_n 0, 1) := by decide +kernel
theorem dX9_element_1 : decode cX9_element 1 = .ok (.getfield 63, 3) := by decide +kernel
theorem dX9_element_4 : decode cX9_element 4 = .ok (.iload_n 1, 1) := by decide +kernel
theorem dX9_element_5 : decode cX9_element 5 = .ok (.iload_n 2, 1) := by decide +kernel
theorem dX9_element_6 : decode cX9_element 6 = .ok (.invokevirtual 317, 3) := by decide +kernel
theorem dX9_element_9 : decode cX9_element 9 = .ok (.ifCond .eq 9, 3) := by decide +kernel
theorem dX9_element_12 : decode cX9_element 12 = .ok (.ldc2_w 229, 3) := by decide +kernel
theorem dX9_element_15 : decode cX9_element 15 = .ok (.goto 12, 3) := by decide +kernel
theorem dX9_element_18 : decode cX9_element 18 = .ok (.aload_n 0, 1) := by decide +kernel
theorem dX9_element_19 : decode cX9_element 19 = .ok (.getfield 63, 3) := by decide +kernel
theorem dX9_element_22 : decode cX9_element 22 = .ok (.iload_n 1, 1) := by decide +kernel
theorem dX9_element_23 : decode cX9_element 23 = .ok (.iload_n 2, 1) := by decide +kernel
theorem dX9_element_24 : decode cX9_element 24 = .ok (.invokevirtual 123, 3) := by decide +kernel
theorem dX9_element_27 : decode cX9_element 27 = .ok (.lreturn, 1) := by decide +kernel
def m_X9_element (a1 : Int32) (a2 : Int32) (g : Mm) : Option (Int64 × Mm) := bdd (m_X6_refusalAt a1 a2 g) (fun ra1 ga2 => (if ra1 = (0 : Int32) then bdd (m_X6_at a1 a2 ga2) (fun ra5 ga6 => some (ra5, ga6)) else some ((-9223372036854775808 : Int64), ga2)))
set_option maxHeartbeats 2000000 in
theorem c_X9_element {r2 : Int64} {g g2 : Mm} {a1 : Int32} {a2 : Int32} (h : m_X9_element a1 a2 g = some (r2, g2)) : gx_M 3 yX9_element cX9_element 3 (some .long) (fun al => [.ref (al (0)), .int (a1), .int (a2)]) g (some (.long r2)) g2 := by
  have hd : 3 ≤ 3 := Nat.le_refl _
  refine gx_M.of (by decide +kernel) (fun _ => Nat.le_of_ble_eq_true rfl) ?_
  intro p l e R s m args below meth c D al cI cJ A X
  refine gx_eq (pc' := 0) (ls' := [(0, .ref (al (0))), (1, .int (a1)), (2, .int (a2))]) (st' := []) (g' := g) ⟨rfl, rfl, rfl, rfl⟩ ?_
  unfold m_X9_element at h
  refine gx_aload_n X 0 rfl dX9_element_0 ?_
  refine gx_getf X (0) lf_X9_63 (by decide) (cl_0 _ _) (v := .ref (al (35))) rfl dX9_element_1 ?_
  refine gx_iload_n X 1 rfl dX9_element_4 ?_
  refine gx_iload_n X 2 rfl dX9_element_5 ?_
  obtain ⟨ra1, ga2, ca3, h⟩ := bdd_eq h
  refine gx_callNi X (35) (c_X6_refusalAt ca3) lc_X6_refusalAt li_X6_refusalAt lm_X9_317 (by decide) (cl_35 _ _) rfl rfl rfl (Nat.le_trans (by decide) hd) rfl (Nat.le_of_ble_eq_true rfl) dX9_element_6 ?_
  refine gx_if_eq X 18 dX9_element_9 (by decide) (fun q4 => ?_) (fun q4 => ?_)
  · replace h := (if_pos q4).symm.trans h
    refine gx_aload_n X 0 rfl dX9_element_18 ?_
    refine gx_getf X (0) lf_X9_63 (by decide) (cl_0 _ _) (v := .ref (al (35))) rfl dX9_element_19 ?_
    refine gx_iload_n X 1 rfl dX9_element_22 ?_
    refine gx_iload_n X 2 rfl dX9_element_23 ?_
    obtain ⟨ra5, ga6, ca7, h⟩ := bdd_eq h
    refine gx_callNl X (35) (c_X6_at ca7) lc_X6_at li_X6_at lm_X9_123 (by decide) (cl_35 _ _) rfl rfl rfl (Nat.le_trans (by decide) hd) rfl (Nat.le_of_ble_eq_true rfl) dX9_element_24 ?_
    obtain ⟨rfl, rfl⟩ := ret_eq h
    exact gx_lret X dX9_element_27
  · replace h := (if_neg q4).symm.trans h
    refine gx_ldc2 X (v := (-9223372036854775808 : Int64)) lk_X9_229 dX9_element_12 ?_
    refine gx_goto X 27 dX9_element_15 (by decide) ?_
    obtain ⟨rfl, rfl⟩ := ret_eq h
    exact gx_lret X dX9_element_27
theorem dX9_feed_0 : decode cX9_feed 0 = .ok (.iload_n 1, 1) := by decide +kernel
theorem dX9_feed_1 : decode cX9_feed 1 = .ok (.ifCond .lt 10, 3) := by decide +kernel
theorem dX9_feed_4 : decode cX9_feed 4 = .ok (.iload_n 1, 1) := by decide +kernel
theorem dX9_feed_5 : decode cX9_feed 5 = .ok (.sipush 255, 3) := by decide +kernel
theorem dX9_feed_8 : decode cX9_feed 8 = .ok (.if_icmp .le 5, 3) := by decide +kernel
theorem dX9_feed_11 : decode cX9_feed 11 = .ok (.iconst (-1), 1) := by decide +kernel
theorem dX9_feed_12 : decode cX9_feed 12 = .ok (.ireturn, 1) := by decide +kernel
theorem dX9_feed_13 : decode cX9_feed 13 = .ok (.aload_n 0, 1) := by decide +kernel
theorem dX9_feed_14 : decode cX9_feed 14 = .ok (.getfield 26, 3) := by decide +kernel
theorem dX9_feed_17 : decode cX9_feed 17 = .ok (.iload_n 1, 1) := by decide +kernel
theorem dX9_feed_18 : decode cX9_feed 18 = .ok (.invokevirtual 145, 3) := by decide +kernel
theorem dX9_feed_21 : decode cX9_feed 21 = .ok (.ifCond .eq 13, 3) := by decide +kernel
theorem dX9_feed_24 : decode cX9_feed 24 = .ok (.aload_n 0, 1) := by decide +kernel
theorem dX9_feed_25 : decode cX9_feed 25 = .ok (.getfield 26, 3) := by decide +kernel
theorem dX9_feed_28 : decode cX9_feed 28 = .ok (.getfield 148, 3) := by decide +kernel
theorem dX9_feed_31 : decode cX9_feed 31 = .ok (.goto 5, 3) := by decide +kernel
theorem dX9_feed_34 : decode cX9_feed 34 = .ok (.bipush (-3), 2) := by decide +kernel
theorem dX9_feed_36 : decode cX9_feed 36 = .ok (.ireturn, 1) := by decide +kernel
def m_X9_feed (a1 : Int32) (g : Mm) : Option (Int32 × Mm) := (if a1 < (0 : Int32) then some ((-1 : Int32), g) else (if a1 ≤ (255 : Int32) then bdd (m_X3_add a1 g) (fun ra3 ga4 => (if ra3 = (0 : Int32) then some ((-3 : Int32), ga4) else some ((rdI ga4 11 1), ga4))) else some ((-1 : Int32), g)))
set_option maxHeartbeats 2000000 in
theorem c_X9_feed {r2 : Int32} {g g2 : Mm} {a1 : Int32} (h : m_X9_feed a1 g = some (r2, g2)) : gx_M 2 yX9_feed cX9_feed 2 (some .int) (fun al => [.ref (al (0)), .int (a1)]) g (some (.int r2)) g2 := by
  have hd : 2 ≤ 2 := Nat.le_refl _
  refine gx_M.of (by decide +kernel) (fun _ => Nat.le_of_ble_eq_true rfl) ?_
  intro p l e R s m args below meth c D al cI cJ A X
  refine gx_eq (pc' := 0) (ls' := [(0, .ref (al (0))), (1, .int (a1))]) (st' := []) (g' := g) ⟨rfl, rfl, rfl, rfl⟩ ?_
  unfold m_X9_feed at h
  refine gx_iload_n X 1 rfl dX9_feed_0 ?_
  refine gx_if_lt X 11 dX9_feed_1 (by decide) (fun q1 => ?_) (fun q1 => ?_)
  · replace h := (if_pos q1).symm.trans h
    refine gx_iconst X (v := (-1 : Int32)) dX9_feed_11 (by decide) ?_
    obtain ⟨rfl, rfl⟩ := ret_eq h
    exact gx_iret X rfl dX9_feed_12
  · replace h := (if_neg q1).symm.trans h
    refine gx_iload_n X 1 rfl dX9_feed_4 ?_
    refine gx_sipush X (v := (255 : Int32)) dX9_feed_5 (by decide) ?_
    refine gx_icmp_le X 13 dX9_feed_8 (by decide) (fun q2 => ?_) (fun q2 => ?_)
    · replace h := (if_pos q2).symm.trans h
      refine gx_aload_n X 0 rfl dX9_feed_13 ?_
      refine gx_getf X (0) lf_X9_26 (by decide) (cl_0 _ _) (v := .ref (al (11))) rfl dX9_feed_14 ?_
      refine gx_iload_n X 1 rfl dX9_feed_17 ?_
      obtain ⟨ra3, ga4, ca5, h⟩ := bdd_eq h
      refine gx_callNi X (11) (c_X3_add ca5) lc_X3_add li_X3_add lm_X9_145 (by decide) (cl_11 _ _) rfl rfl rfl (Nat.le_trans (by decide) hd) rfl (Nat.le_of_ble_eq_true rfl) dX9_feed_18 ?_
      refine gx_if_eq X 34 dX9_feed_21 (by decide) (fun q6 => ?_) (fun q6 => ?_)
      · replace h := (if_pos q6).symm.trans h
        refine gx_bipush X (v := (-3 : Int32)) dX9_feed_34 (by decide) ?_
        obtain ⟨rfl, rfl⟩ := ret_eq h
        exact gx_iret X rfl dX9_feed_36
      · replace h := (if_neg q6).symm.trans h
        refine gx_aload_n X 0 rfl dX9_feed_24 ?_
        refine gx_getf X (0) lf_X9_26 (by decide) (cl_0 _ _) (v := .ref (al (11))) rfl dX9_feed_25 ?_
        refine gx_getn X (11) lf_X9_148 (by decide) (cl_11 _ _) (v := .int ((rdI ga4 11 1))) rfl dX9_feed_28 ?_
        refine gx_goto X 36 dX9_feed_31 (by decide) ?_
        obtain ⟨rfl, rfl⟩ := ret_eq h
        exact gx_iret X rfl dX9_feed_36
    · replace h := (if_neg q2).symm.trans h
      refine gx_iconst X (v := (-1 : Int32)) dX9_feed_11 (by decide) ?_
      obtain ⟨rfl, rfl⟩ := ret_eq h
      exact gx_iret X rfl dX9_feed_12
theorem dX9_gap_0 : decode cX9_gap 0 = .ok (.iload_n 1, 1) := by decide +kernel
theorem dX9_gap_1 : decode cX9_gap 1 = .ok (.ifCond .lt 8, 3) := by decide +kernel
theorem dX9_gap_4 : decode cX9_gap 4 = .ok (.iload_n 1, 1) := by decide +kernel
theorem dX9_gap_5 : decode cX9_gap 5 = .ok (.iconst 1, 1) := by decide +kernel
theorem dX9_gap_6 : decode cX9_gap 6 = .ok (.if_icmp .le 5, 3) := by decide +kernel
theorem dX9_gap_9 : decode cX9_gap 9 = .ok (.iconst (-1), 1) := by decide +kernel
theorem dX9_gap_10 : decode cX9_gap 10 = .ok (.ireturn, 1) := by decide +kernel
theorem dX9_gap_11 : decode cX9_gap 11 = .ok (.aload_n 0, 1) := by decide +kernel
theorem dX9_gap_12 : decode cX9_gap 12 = .ok (.getfield 10, 3) := by decide +kernel
theorem dX9_gap_15 : decode cX9_gap 15 = .ok (.getfield 67, 3) := by decide +kernel
theorem dX9_gap_18 : decode cX9_gap 18 = .ok (.ifCond .ne 6, 3) := by decide +kernel
theorem dX9_gap_21 : decode cX9_gap 21 = .ok (.bipush (-5), 2) := by decide +kernel
theorem dX9_gap_23 : decode cX9_gap 23 = .ok (.ireturn, 1) := by decide +kernel
theorem dX9_gap_24 : decode cX9_gap 24 = .ok (.aload_n 0, 1) := by decide +kernel
theorem dX9_gap_25 : decode cX9_gap 25 = .ok (.getfield 35, 3) := by decide +kernel
theorem dX9_gap_28 : decode cX9_gap 28 = .ok (.invokevirtual 185, 3) := by decide +kernel
theorem dX9_gap_31 : decode cX9_gap 31 = .ok (.istore_n 2, 1) := by decide +kernel
theorem dX9_gap_32 : decode cX9_gap 32 = .ok (.iload_n 1, 1) := by decide +kernel
theorem dX9_gap_33 : decode cX9_gap 33 = .ok (.ifCond .eq 9, 3) := by decide +kernel
theorem dX9_gap_36 : decode cX9_gap 36 = .ok (.iload_n 2, 1) := by decide +kernel
theorem dX9_gap_37 : decode cX9_gap 37 = .ok (.bipush (-2), 2) := by decide +kernel
theorem dX9_gap_39 : decode cX9_gap 39 = .ok (.if_icmp .ne 5, 3) := by decide +kernel
theorem dX9_gap_42 : decode cX9_gap 42 = .ok (.iload_n 2, 1) := by decide +kernel
theorem dX9_gap_43 : decode cX9_gap 43 = .ok (.ireturn, 1) := by decide +kernel
theorem dX9_gap_44 : decode cX9_gap 44 = .ok (.iload_n 2, 1) := by decide +kernel
theorem dX9_gap_45 : decode cX9_gap 45 = .ok (.ifCond .ne 8, 3) := by decide +kernel
theorem dX9_gap_48 : decode cX9_gap 48 = .ok (.bipush (-2), 2) := by decide +kernel
theorem dX9_gap_50 : decode cX9_gap 50 = .ok (.goto 14, 3) := by decide +kernel
theorem dX9_gap_53 : decode cX9_gap 53 = .ok (.aload_n 0, 1) := by decide +kernel
theorem dX9_gap_54 : decode cX9_gap 54 = .ok (.getfield 10, 3) := by decide +kernel
theorem dX9_gap_57 : decode cX9_gap 57 = .ok (.getfield 67, 3) := by decide +kernel
theorem dX9_gap_60 : decode cX9_gap 60 = .ok (.iload_n 2, 1) := by decide +kernel
theorem dX9_gap_61 : decode cX9_gap 61 = .ok (.isub, 1) := by decide +kernel
theorem dX9_gap_62 : decode cX9_gap 62 = .ok (.iconst 1, 1) := by decide +kernel
theorem dX9_gap_63 : decode cX9_gap 63 = .ok (.iadd, 1) := by decide +kernel
theorem dX9_gap_64 : decode cX9_gap 64 = .ok (.ireturn, 1) := by decide +kernel
def m_X9_gap (a1 : Int32) (g : Mm) : Option (Int32 × Mm) := (if a1 < (0 : Int32) then some ((-1 : Int32), g) else (if a1 ≤ (1 : Int32) then (if (rdI g 1 0) = (0 : Int32) then some ((-5 : Int32), g) else bdd (m_X7_leastDifference  g) (fun ra4 ga5 => (if a1 = (0 : Int32) then some (ra4, ga5) else (if ra4 = (-2 : Int32) then some (ra4, ga5) else (if ra4 = (0 : Int32) then some ((-2 : Int32), ga5) else some ((((rdI ga5 1 0) - ra4) + (1 : Int32)), ga5)))))) else some ((-1 : Int32), g)))
set_option maxHeartbeats 2000000 in
theorem c_X9_gap {r2 : Int32} {g g2 : Mm} {a1 : Int32} (h : m_X9_gap a1 g = some (r2, g2)) : gx_M 6 yX9_gap cX9_gap 3 (some .int) (fun al => [.ref (al (0)), .int (a1)]) g (some (.int r2)) g2 := by
  have hd : 6 ≤ 6 := Nat.le_refl _
  refine gx_M.of (by decide +kernel) (fun _ => Nat.le_of_ble_eq_true rfl) ?_
  intro p l e R s m args below meth c D al cI cJ A X
  refine gx_eq (pc' := 0) (ls' := [(0, .ref (al (0))), (1, .int (a1))]) (st' := []) (g' := g) ⟨rfl, rfl, rfl, rfl⟩ ?_
  unfold m_X9_gap at h
  refine gx_iload_n X 1 rfl dX9_gap_0 ?_
  refine gx_if_lt X 9 dX9_gap_1 (by decide) (fun q1 => ?_) (fun q1 => ?_)
  · replace h := (if_pos q1).symm.trans h
    refine gx_iconst X (v := (-1 : Int32)) dX9_gap_9 (by decide) ?_
    obtain ⟨rfl, rfl⟩ := ret_eq h
    exact gx_iret X rfl dX9_gap_10
  · replace h := (if_neg q1).symm.trans h
    refine gx_iload_n X 1 rfl dX9_gap_4 ?_
    refine gx_iconst X (v := (1 : Int32)) dX9_gap_5 (by decide) ?_
    refine gx_icmp_le X 11 dX9_gap_6 (by decide) (fun q2 => ?_) (fun q2 => ?_)
    · replace h := (if_pos q2).symm.trans h
      refine gx_aload_n X 0 rfl dX9_gap_11 ?_
      refine gx_getf X (0) lf_X9_10 (by decide) (cl_0 _ _) (v := .ref (al (1))) rfl dX9_gap_12 ?_
      refine gx_getn X (1) lf_X9_67 (by decide) (cl_1 _ _) (v := .int ((rdI g 1 0))) rfl dX9_gap_15 ?_
      refine gx_if_ne X 24 dX9_gap_18 (by decide) (fun q3 => ?_) (fun q3 => ?_)
      · replace h := (if_neg q3).symm.trans h
        refine gx_aload_n X 0 rfl dX9_gap_24 ?_
        refine gx_getf X (0) lf_X9_35 (by decide) (cl_0 _ _) (v := .ref (al (23))) rfl dX9_gap_25 ?_
        obtain ⟨ra4, ga5, ca6, h⟩ := bdd_eq h
        refine gx_callNi X (23) (c_X7_leastDifference ca6) lc_X7_leastDifference li_X7_leastDifference lm_X9_185 (by decide) (cl_23 _ _) rfl rfl rfl (Nat.le_trans (by decide) hd) rfl (Nat.le_of_ble_eq_true rfl) dX9_gap_28 ?_
        refine gx_istore_n X [(2, .int (ra4)), (0, .ref (al (0))), (1, .int (a1))] dX9_gap_31 (by decide) rfl ?_
        refine gx_iload_n X 2 rfl dX9_gap_32 ?_
        refine gx_if_eq X 42 dX9_gap_33 (by decide) (fun q7 => ?_) (fun q7 => ?_)
        · replace h := (if_pos q7).symm.trans h
          refine gx_iload_n X 0 rfl dX9_gap_42 ?_
          obtain ⟨rfl, rfl⟩ := ret_eq h
          exact gx_iret X rfl dX9_gap_43
        · replace h := (if_neg q7).symm.trans h
          refine gx_iload_n X 0 rfl dX9_gap_36 ?_
          refine gx_bipush X (v := (-2 : Int32)) dX9_gap_37 (by decide) ?_
          refine gx_icmp_ne X 44 dX9_gap_39 (by decide) (fun q8 => ?_) (fun q8 => ?_)
          · replace h := (if_neg q8).symm.trans h
            refine gx_iload_n X 0 rfl dX9_gap_44 ?_
            refine gx_if_ne X 53 dX9_gap_45 (by decide) (fun q9 => ?_) (fun q9 => ?_)
            · replace h := (if_neg q9).symm.trans h
              refine gx_aload_n X 1 rfl dX9_gap_53 ?_
              refine gx_getf X (0) lf_X9_10 (by decide) (cl_0 _ _) (v := .ref (al (1))) rfl dX9_gap_54 ?_
              refine gx_getn X (1) lf_X9_67 (by decide) (cl_1 _ _) (v := .int ((rdI ga5 1 0))) rfl dX9_gap_57 ?_
              refine gx_iload_n X 0 rfl dX9_gap_60 ?_
              refine gx_isub X dX9_gap_61 ?_
              refine gx_iconst X (v := (1 : Int32)) dX9_gap_62 (by decide) ?_
              refine gx_iadd X dX9_gap_63 ?_
              obtain ⟨rfl, rfl⟩ := ret_eq h
              exact gx_iret X rfl dX9_gap_64
            · replace h := (if_pos q9).symm.trans h
              refine gx_bipush X (v := (-2 : Int32)) dX9_gap_48 (by decide) ?_
              refine gx_goto X 64 dX9_gap_50 (by decide) ?_
              obtain ⟨rfl, rfl⟩ := ret_eq h
              exact gx_iret X rfl dX9_gap_64
          · replace h := (if_pos q8).symm.trans h
            refine gx_iload_n X 0 rfl dX9_gap_42 ?_
            obtain ⟨rfl, rfl⟩ := ret_eq h
            exact gx_iret X rfl dX9_gap_43
      · replace h := (if_pos q3).symm.trans h
        refine gx_bipush X (v := (-5 : Int32)) dX9_gap_21 (by decide) ?_
        obtain ⟨rfl, rfl⟩ := ret_eq h
        exact gx_iret X rfl dX9_gap_23
    · replace h := (if_neg q2).symm.trans h
      refine gx_iconst X (v := (-1 : Int32)) dX9_gap_9 (by decide) ?_
      obtain ⟨rfl, rfl⟩ := ret_eq h
      exact gx_iret X rfl dX9_gap_10
theorem dX9_givenByLaw_0 : decode cX9_givenByLaw 0 = .ok (.aload_n 0, 1) := by decide +kernel
theorem dX9_givenByLaw_1 : decode cX9_givenByLaw 1 = .ok (.getfield 10, 3) := by decide +kernel
theorem dX9_givenByLaw_4 : decode cX9_givenByLaw 4 = .ok (.getfield 131, 3) := by decide +kernel
theorem dX9_givenByLaw_7 : decode cX9_givenByLaw 7 = .ok (.iload_n 2, 1) := by decide +kernel
theorem dX9_givenByLaw_8 : decode cX9_givenByLaw 8 = .ok (.iaload, 1) := by decide +kernel
theorem dX9_givenByLaw_9 : decode cX9_givenByLaw 9 = .ok (.istore_n 3, 1) := by decide +kernel
theorem dX9_givenByLaw_10 : decode cX9_givenByLaw 10 = .ok (.aload_n 0, 1) := by decide +kernel
theorem dX9_givenByLaw_11 : decode cX9_givenByLaw 11 = .ok (.getfield 26, 3) := by decide +kernel
theorem dX9_givenByLaw_14 : decode cX9_givenByLaw 14 = .ok (.getfield 352, 3) := by decide +kernel
theorem dX9_givenByLaw_17 : decode cX9_givenByLaw 17 = .ok (.astore 4, 2) := by decide +kernel
theorem dX9_givenByLaw_19 : decode cX9_givenByLaw 19 = .ok (.aload 4, 2) := by decide +kernel
theorem dX9_givenByLaw_21 : decode cX9_givenByLaw 21 = .ok (.getfield 356, 3) := by decide +kernel
theorem dX9_givenByLaw_24 : decode cX9_givenByLaw 24 = .ok (.ifCond .ne 11, 3) := by decide +kernel
theorem dX9_givenByLaw_27 : decode cX9_givenByLaw 27 = .ok (.iload_n 1, 1) := by decide +kernel
theorem dX9_givenByLaw_28 : decode cX9_givenByLaw 28 = .ok (.iload_n 2, 1) := by decide +kernel
theorem dX9_givenByLaw_29 : decode cX9_givenByLaw 29 = .ok (.iadd, 1) := by decide +kernel
theorem dX9_givenByLaw_30 : decode cX9_givenByLaw 30 = .ok (.iload_n 3, 1) := by decide +kernel
theorem dX9_givenByLaw_31 : decode cX9_givenByLaw 31 = .ok (.iconst 1, 1) := by decide +kernel
theorem dX9_givenByLaw_32 : decode cX9_givenByLaw 32 = .ok (.iadd, 1) := by decide +kernel
theorem dX9_givenByLaw_33 : decode cX9_givenByLaw 33 = .ok (.irem, 1) := by decide +kernel
theorem dX9_givenByLaw_34 : decode cX9_givenByLaw 34 = .ok (.ireturn, 1) := by decide +kernel
theorem dX9_givenByLaw_35 : decode cX9_givenByLaw 35 = .ok (.iload_n 2, 1) := by decide +kernel
theorem dX9_givenByLaw_36 : decode cX9_givenByLaw 36 = .ok (.ifCond .le 17, 3) := by decide +kernel
theorem dX9_givenByLaw_39 : decode cX9_givenByLaw 39 = .ok (.aload_n 0, 1) := by decide +kernel
theorem dX9_givenByLaw_40 : decode cX9_givenByLaw 40 = .ok (.getfield 10, 3) := by decide +kernel
theorem dX9_givenByLaw_43 : decode cX9_givenByLaw 43 = .ok (.iload_n 1, 1) := by decide +kernel
theorem dX9_givenByLaw_44 : decode cX9_givenByLaw 44 = .ok (.iload_n 2, 1) := by decide +kernel
theorem dX9_givenByLaw_45 : decode cX9_givenByLaw 45 = .ok (.iconst 1, 1) := by decide +kernel
theorem dX9_givenByLaw_46 : decode cX9_givenByLaw 46 = .ok (.isub, 1) := by decide +kernel
theorem dX9_givenByLaw_47 : decode cX9_givenByLaw 47 = .ok (.invokevirtual 96, 3) := by decide +kernel
theorem dX9_givenByLaw_50 : decode cX9_givenByLaw 50 = .ok (.goto 4, 3) := by decide +kernel
theorem dX9_givenByLaw_53 : decode cX9_givenByLaw 53 = .ok (.iconst 0, 1) := by decide +kernel
theorem dX9_givenByLaw_54 : decode cX9_givenByLaw 54 = .ok (.istore 5, 2) := by decide +kernel
theorem dX9_givenByLaw_56 : decode cX9_givenByLaw 56 = .ok (.iload_n 1, 1) := by decide +kernel
theorem dX9_givenByLaw_57 : decode cX9_givenByLaw 57 = .ok (.ifCond .le 17, 3) := by decide +kernel
theorem dX9_givenByLaw_60 : decode cX9_givenByLaw 60 = .ok (.aload_n 0, 1) := by decide +kernel
theorem dX9_givenByLaw_61 : decode cX9_givenByLaw 61 = .ok (.getfield 10, 3) := by decide +kernel
theorem dX9_givenByLaw_64 : decode cX9_givenByLaw 64 = .ok (.iload_n 1, 1) := by decide +kernel
theorem dX9_givenByLaw_65 : decode cX9_givenByLaw 65 = .ok (.iconst 1, 1) := by decide +kernel
theorem dX9_givenByLaw_66 : decode cX9_givenByLaw 66 = .ok (.isub, 1) := by decide +kernel
theorem dX9_givenByLaw_67 : decode cX9_givenByLaw 67 = .ok (.iload_n 2, 1) := by decide +kernel
theorem dX9_givenByLaw_68 : decode cX9_givenByLaw 68 = .ok (.invokevirtual 96, 3) := by decide +kernel
theorem dX9_givenByLaw_71 : decode cX9_givenByLaw 71 = .ok (.goto 4, 3) := by decide +kernel
theorem dX9_givenByLaw_74 : decode cX9_givenByLaw 74 = .ok (.iconst 0, 1) := by decide +kernel
theorem dX9_givenByLaw_75 : decode cX9_givenByLaw 75 = .ok (.istore 6, 2) := by decide +kernel
theorem dX9_givenByLaw_77 : decode cX9_givenByLaw 77 = .ok (.aload 4, 2) := by decide +kernel
theorem dX9_givenByLaw_79 : decode cX9_givenByLaw 79 = .ok (.iload_n 1, 1) := by decide +kernel
theorem dX9_givenByLaw_80 : decode cX9_givenByLaw 80 = .ok (.iload_n 2, 1) := by decide +kernel
theorem dX9_givenByLaw_81 : decode cX9_givenByLaw 81 = .ok (.iload_n 3, 1) := by decide +kernel
theorem dX9_givenByLaw_82 : decode cX9_givenByLaw 82 = .ok (.aload_n 0, 1) := by decide +kernel
theorem dX9_givenByLaw_83 : decode cX9_givenByLaw 83 = .ok (.getfield 10, 3) := by decide +kernel
theorem dX9_givenByLaw_86 : decode cX9_givenByLaw 86 = .ok (.getfield 75, 3) := by decide +kernel
theorem dX9_givenByLaw_89 : decode cX9_givenByLaw 89 = .ok (.iload 5, 2) := by decide +kernel
theorem dX9_givenByLaw_91 : decode cX9_givenByLaw 91 = .ok (.iload 6, 2) := by decide +kernel
theorem dX9_givenByLaw_93 : decode cX9_givenByLaw 93 = .ok (.invokevirtual 359, 3) := by decide +kernel
theorem dX9_givenByLaw_96 : decode cX9_givenByLaw 96 = .ok (.aload 4, 2) := by decide +kernel
theorem dX9_givenByLaw_98 : decode cX9_givenByLaw 98 = .ok (.invokevirtual 363, 3) := by decide +kernel
theorem dX9_givenByLaw_101 : decode cX9_givenByLaw 101 = .ok (.ireturn, 1) := by decide +kernel
def m_X9_givenByLaw_75 (x1 : Int32) (x2 : Int32) (x3 : Int32) (x4 : Int32) (x5 : Int32) (k0 : Int32) (g : Mm) : Option (Int32 × Mm) := bdd (m_X4_name x4 x1 x2 x3 (rdI g 1 1) x5 k0 g) (fun ra1 ga2 => bdd (m_X4_work x4 ga2) (fun ra4 ga5 => some (ra4, ga5)))
set_option maxHeartbeats 2000000 in
theorem t_X9_givenByLaw_75 {r2 : Int32} {g2 : Mm} (X : gx_X p R s m args meth c D al cI cJ A RX9 cX9_givenByLaw 7 (some .int) d 0 0) (hd : 4 ≤ d) : ∀ (x1 : Int32) (x2 : Int32) (x3 : Int32) (x4 : Int32) (x5 : Int32) (k0 : Int32) (g : Mm), m_X9_givenByLaw_75 x1 x2 x3 x4 x5 k0 g = some (r2, g2) → gx_G p l e R s m args below meth c (gx_Q below args s D al cI cJ A (some (.int r2)) g2) D al cI cJ A 7 0 0 75 [(0, .ref (al (0))), (1, .int (x1)), (2, .int (x2)), (3, .int (x3)), (4, .ref (al (pgm x4))), (5, .int (x5))] [.int (k0)] g := by
  intro x1 x2 x3 x4 x5 k0 g h
  unfold m_X9_givenByLaw_75 at h
  refine gx_istore X [(6, .int (k0)), (0, .ref (al (0))), (1, .int (x1)), (2, .int (x2)), (3, .int (x3)), (4, .ref (al (pgm x4))), (5, .int (x5))] dX9_givenByLaw_75 (by decide) rfl ?_
  refine gx_aload X 5 rfl dX9_givenByLaw_77 ?_
  refine gx_iload_n X 2 rfl dX9_givenByLaw_79 ?_
  refine gx_iload_n X 3 rfl dX9_givenByLaw_80 ?_
  refine gx_iload_n X 4 rfl dX9_givenByLaw_81 ?_
  refine gx_aload_n X 1 rfl dX9_givenByLaw_82 ?_
  refine gx_getf X (0) lf_X9_10 (by decide) (cl_0 _ _) (v := .ref (al (1))) rfl dX9_givenByLaw_83 ?_
  refine gx_getn X (1) lf_X9_75 (by decide) (cl_1 _ _) (v := .int ((rdI g 1 1))) rfl dX9_givenByLaw_86 ?_
  refine gx_iload X 6 rfl dX9_givenByLaw_89 ?_
  refine gx_iload X 0 rfl dX9_givenByLaw_91 ?_
  obtain ⟨ra1, ga2, ca3, h⟩ := bdd_eq h
  refine gx_callNv X (pgm x4) (c_X4_name ca3) lc_X4_name li_X4_name lm_X9_359 (pg_lt _) (cl_pg _ _ _) rfl rfl rfl (Nat.le_trans (by decide) hd) rfl (Nat.le_of_ble_eq_true rfl) dX9_givenByLaw_93 ?_
  refine gx_aload X 5 rfl dX9_givenByLaw_96 ?_
  obtain ⟨ra4, ga5, ca6, h⟩ := bdd_eq h
  refine gx_callNi X (pgm x4) (c_X4_work ca6) lc_X4_work li_X4_work lm_X9_363 (pg_lt _) (cl_pg _ _ _) rfl rfl rfl (Nat.le_trans (by decide) hd) rfl (Nat.le_of_ble_eq_true rfl) dX9_givenByLaw_98 ?_
  obtain ⟨rfl, rfl⟩ := ret_eq h
  exact gx_iret X rfl dX9_givenByLaw_101
def m_X9_givenByLaw_54 (x1 : Int32) (x2 : Int32) (x3 : Int32) (x4 : Int32) (k0 : Int32) (g : Mm) : Option (Int32 × Mm) := (if x1 ≤ (0 : Int32) then m_X9_givenByLaw_75 x1 x2 x3 x4 k0 (0 : Int32) g else bdd (m_X8_struck (x1 - (1 : Int32)) x2 g) (fun ra2 ga3 => m_X9_givenByLaw_75 x1 x2 x3 x4 k0 ra2 ga3))
set_option maxHeartbeats 2000000 in
theorem t_X9_givenByLaw_54 {r2 : Int32} {g2 : Mm} (X : gx_X p R s m args meth c D al cI cJ A RX9 cX9_givenByLaw 7 (some .int) d 0 0) (hd : 4 ≤ d) : ∀ (x1 : Int32) (x2 : Int32) (x3 : Int32) (x4 : Int32) (k0 : Int32) (g : Mm), m_X9_givenByLaw_54 x1 x2 x3 x4 k0 g = some (r2, g2) → gx_G p l e R s m args below meth c (gx_Q below args s D al cI cJ A (some (.int r2)) g2) D al cI cJ A 7 0 0 54 [(0, .ref (al (0))), (1, .int (x1)), (2, .int (x2)), (3, .int (x3)), (4, .ref (al (pgm x4)))] [.int (k0)] g := by
  intro x1 x2 x3 x4 k0 g h
  unfold m_X9_givenByLaw_54 at h
  refine gx_istore X [(5, .int (k0)), (0, .ref (al (0))), (1, .int (x1)), (2, .int (x2)), (3, .int (x3)), (4, .ref (al (pgm x4)))] dX9_givenByLaw_54 (by decide) rfl ?_
  refine gx_iload_n X 2 rfl dX9_givenByLaw_56 ?_
  refine gx_if_le X 74 dX9_givenByLaw_57 (by decide) (fun q1 => ?_) (fun q1 => ?_)
  · replace h := (if_pos q1).symm.trans h
    refine gx_iconst X (v := (0 : Int32)) dX9_givenByLaw_74 (by decide) ?_
    exact gx_sub [1, 2, 3, 4, 5, 0] rfl (t_X9_givenByLaw_75 X hd x1 x2 x3 x4 k0 (0 : Int32) g h)
  · replace h := (if_neg q1).symm.trans h
    refine gx_aload_n X 1 rfl dX9_givenByLaw_60 ?_
    refine gx_getf X (0) lf_X9_10 (by decide) (cl_0 _ _) (v := .ref (al (1))) rfl dX9_givenByLaw_61 ?_
    refine gx_iload_n X 2 rfl dX9_givenByLaw_64 ?_
    refine gx_iconst X (v := (1 : Int32)) dX9_givenByLaw_65 (by decide) ?_
    refine gx_isub X dX9_givenByLaw_66 ?_
    refine gx_iload_n X 3 rfl dX9_givenByLaw_67 ?_
    obtain ⟨ra2, ga3, ca4, h⟩ := bdd_eq h
    refine gx_callNi X (1) (c_X8_struck ca4) lc_X8_struck li_X8_struck lm_X9_96 (by decide) (cl_1 _ _) rfl rfl rfl (Nat.le_trans (by decide) hd) rfl (Nat.le_of_ble_eq_true rfl) dX9_givenByLaw_68 ?_
    refine gx_goto X 75 dX9_givenByLaw_71 (by decide) ?_
    exact gx_sub [1, 2, 3, 4, 5, 0] rfl (t_X9_givenByLaw_75 X hd x1 x2 x3 x4 k0 ra2 ga3 h)
def m_X9_givenByLaw (a1 : Int32) (a2 : Int32) (g : Mm) : Option (Int32 × Mm) := gdd (ixo a2 6) ((if (rdI g (pgm (rdI g 11 3)) 4) = (0 : Int32) then gdd (decide (¬ ((rdI g 2 a2.toNatClampNeg) + (1 : Int32)) = 0)) (some ((rmI (a1 + a2) ((rdI g 2 a2.toNatClampNeg) + (1 : Int32))), g)) else (if a2 ≤ (0 : Int32) then m_X9_givenByLaw_54 a1 a2 (rdI g 2 a2.toNatClampNeg) (rdI g 11 3) (0 : Int32) g else bdd (m_X8_struck a1 (a2 - (1 : Int32)) g) (fun ra4 ga5 => m_X9_givenByLaw_54 a1 a2 (rdI g 2 a2.toNatClampNeg) (rdI g 11 3) ra4 ga5))))
set_option maxHeartbeats 2000000 in
theorem c_X9_givenByLaw {r2 : Int32} {g g2 : Mm} {a1 : Int32} {a2 : Int32} (h : m_X9_givenByLaw a1 a2 g = some (r2, g2)) : gx_M 4 yX9_givenByLaw cX9_givenByLaw 7 (some .int) (fun al => [.ref (al (0)), .int (a1), .int (a2)]) g (some (.int r2)) g2 := by
  have hd : 4 ≤ 4 := Nat.le_refl _
  refine gx_M.of (by decide +kernel) (fun _ => Nat.le_of_ble_eq_true rfl) ?_
  intro p l e R s m args below meth c D al cI cJ A X
  refine gx_eq (pc' := 0) (ls' := [(0, .ref (al (0))), (1, .int (a1)), (2, .int (a2))]) (st' := []) (g' := g) ⟨rfl, rfl, rfl, rfl⟩ ?_
  unfold m_X9_givenByLaw at h
  refine gx_aload_n X 0 rfl dX9_givenByLaw_0 ?_
  refine gx_getf X (0) lf_X9_10 (by decide) (cl_0 _ _) (v := .ref (al (1))) rfl dX9_givenByLaw_1 ?_
  refine gx_getn X (1) lf_X9_131 (by decide) (cl_1 _ _) (v := .ref (al (2))) rfl dX9_givenByLaw_4 ?_
  refine gx_iload_n X 2 rfl dX9_givenByLaw_7 ?_
  obtain ⟨q1, h⟩ := gdd_eq h
  refine gx_iald X (2) 6 (by decide) (cl_2 _ _) q1 dX9_givenByLaw_8 ?_
  refine gx_istore_n X [(3, .int ((rdI g 2 a2.toNatClampNeg))), (0, .ref (al (0))), (1, .int (a1)), (2, .int (a2))] dX9_givenByLaw_9 (by decide) rfl ?_
  refine gx_aload_n X 1 rfl dX9_givenByLaw_10 ?_
  refine gx_getf X (0) lf_X9_26 (by decide) (cl_0 _ _) (v := .ref (al (11))) rfl dX9_givenByLaw_11 ?_
  refine gx_getn X (11) lf_X9_352 (by decide) (cl_11 _ _) (v := .ref (al (pgm (rdI g 11 3)))) rfl dX9_givenByLaw_14 ?_
  refine gx_astore X [(4, .ref (al (pgm (rdI g 11 3)))), (3, .int ((rdI g 2 a2.toNatClampNeg))), (0, .ref (al (0))), (1, .int (a1)), (2, .int (a2))] dX9_givenByLaw_17 (by decide) rfl ?_
  refine gx_aload X 0 rfl dX9_givenByLaw_19 ?_
  refine gx_getn X (pgm (rdI g 11 3)) lf_X9_356 (pg_lt _) (cl_pg _ _ _) (v := .int ((rdI g (pgm (rdI g 11 3)) 4))) rfl dX9_givenByLaw_21 ?_
  refine gx_if_ne X 35 dX9_givenByLaw_24 (by decide) (fun q2 => ?_) (fun q2 => ?_)
  · replace h := (if_neg q2).symm.trans h
    refine gx_iload_n X 4 rfl dX9_givenByLaw_35 ?_
    refine gx_if_le X 53 dX9_givenByLaw_36 (by decide) (fun q3 => ?_) (fun q3 => ?_)
    · replace h := (if_pos q3).symm.trans h
      refine gx_iconst X (v := (0 : Int32)) dX9_givenByLaw_53 (by decide) ?_
      exact gx_sub [2, 3, 4, 1, 0] rfl (t_X9_givenByLaw_54 X hd a1 a2 (rdI g 2 a2.toNatClampNeg) (rdI g 11 3) (0 : Int32) g h)
    · replace h := (if_neg q3).symm.trans h
      refine gx_aload_n X 2 rfl dX9_givenByLaw_39 ?_
      refine gx_getf X (0) lf_X9_10 (by decide) (cl_0 _ _) (v := .ref (al (1))) rfl dX9_givenByLaw_40 ?_
      refine gx_iload_n X 3 rfl dX9_givenByLaw_43 ?_
      refine gx_iload_n X 4 rfl dX9_givenByLaw_44 ?_
      refine gx_iconst X (v := (1 : Int32)) dX9_givenByLaw_45 (by decide) ?_
      refine gx_isub X dX9_givenByLaw_46 ?_
      obtain ⟨ra4, ga5, ca6, h⟩ := bdd_eq h
      refine gx_callNi X (1) (c_X8_struck ca6) lc_X8_struck li_X8_struck lm_X9_96 (by decide) (cl_1 _ _) rfl rfl rfl (Nat.le_trans (by decide) hd) rfl (Nat.le_of_ble_eq_true rfl) dX9_givenByLaw_47 ?_
      refine gx_goto X 54 dX9_givenByLaw_50 (by decide) ?_
      exact gx_sub [2, 3, 4, 1, 0] rfl (t_X9_givenByLaw_54 X hd a1 a2 (rdI g 2 a2.toNatClampNeg) (rdI g 11 3) ra4 ga5 h)
  · replace h := (if_pos q2).symm.trans h
    refine gx_iload_n X 3 rfl dX9_givenByLaw_27 ?_
    refine gx_iload_n X 4 rfl dX9_givenByLaw_28 ?_
    refine gx_iadd X dX9_givenByLaw_29 ?_
    refine gx_iload_n X 1 rfl dX9_givenByLaw_30 ?_
    refine gx_iconst X (v := (1 : Int32)) dX9_givenByLaw_31 (by decide) ?_
    refine gx_iadd X dX9_givenByLaw_32 ?_
    obtain ⟨q7, h⟩ := gdd_eq h
    refine gx_irem X dX9_givenByLaw_33 (of_decide_eq_true q7) ?_
    obtain ⟨rfl, rfl⟩ := ret_eq h
    exact gx_iret X rfl dX9_givenByLaw_34
theorem dX9_greedy_0 : decode cX9_greedy 0 = .ok (.iload_n 1, 1) := by decide +kernel
theorem dX9_greedy_1 : decode cX9_greedy 1 = .ok (.iconst (-1), 1) := by decide +kernel
theorem dX9_greedy_2 : decode cX9_greedy 2 = .ok (.if_icmp .eq 16, 3) := by decide +kernel
theorem dX9_greedy_5 : decode cX9_greedy 5 = .ok (.aload_n 0, 1) := by decide +kernel
theorem dX9_greedy_6 : decode cX9_greedy 6 = .ok (.getfield 10, 3) := by decide +kernel
theorem dX9_greedy_9 : decode cX9_greedy 9 = .ok (.iload_n 1, 1) := by decide +kernel
theorem dX9_greedy_10 : decode cX9_greedy 10 = .ok (.invokevirtual 88, 3) := by decide +kernel
theorem dX9_greedy_13 : decode cX9_greedy 13 = .ok (.ifCond .ne 5, 3) := by decide +kernel
theorem dX9_greedy_16 : decode cX9_greedy 16 = .ok (.iconst (-1), 1) := by decide +kernel
theorem dX9_greedy_17 : decode cX9_greedy 17 = .ok (.ireturn, 1) := by decide +kernel
theorem dX9_greedy_18 : decode cX9_greedy 18 = .ok (.aload_n 0, 1) := by decide +kernel
theorem dX9_greedy_19 : decode cX9_greedy 19 = .ok (.getfield 42, 3) := by decide +kernel
theorem dX9_greedy_22 : decode cX9_greedy 22 = .ok (.invokevirtual 243, 3) := by decide +kernel
theorem dX9_greedy_25 : decode cX9_greedy 25 = .ok (.ifCond .ne 6, 3) := by decide +kernel
theorem dX9_greedy_28 : decode cX9_greedy 28 = .ok (.bipush (-5), 2) := by decide +kernel
theorem dX9_greedy_30 : decode cX9_greedy 30 = .ok (.ireturn, 1) := by decide +kernel
theorem dX9_greedy_31 : decode cX9_greedy 31 = .ok (.aload_n 0, 1) := by decide +kernel
theorem dX9_greedy_32 : decode cX9_greedy 32 = .ok (.getfield 42, 3) := by decide +kernel
theorem dX9_greedy_35 : decode cX9_greedy 35 = .ok (.invokevirtual 246, 3) := by decide +kernel
theorem dX9_greedy_38 : decode cX9_greedy 38 = .ok (.istore_n 2, 1) := by decide +kernel
theorem dX9_greedy_39 : decode cX9_greedy 39 = .ok (.iload_n 2, 1) := by decide +kernel
theorem dX9_greedy_40 : decode cX9_greedy 40 = .ok (.ifCond .ge 8, 3) := by decide +kernel
theorem dX9_greedy_43 : decode cX9_greedy 43 = .ok (.bipush (-2), 2) := by decide +kernel
theorem dX9_greedy_45 : decode cX9_greedy 45 = .ok (.goto 12, 3) := by decide +kernel
theorem dX9_greedy_48 : decode cX9_greedy 48 = .ok (.aload_n 0, 1) := by decide +kernel
theorem dX9_greedy_49 : decode cX9_greedy 49 = .ok (.getfield 42, 3) := by decide +kernel
theorem dX9_greedy_52 : decode cX9_greedy 52 = .ok (.iload_n 1, 1) := by decide +kernel
theorem dX9_greedy_53 : decode cX9_greedy 53 = .ok (.iload_n 2, 1) := by decide +kernel
theorem dX9_greedy_54 : decode cX9_greedy 54 = .ok (.invokevirtual 240, 3) := by decide +kernel
theorem dX9_greedy_57 : decode cX9_greedy 57 = .ok (.ireturn, 1) := by decide +kernel
def m_X9_greedy_18 (x1 : Int32) (g : Mm) : Option (Int32 × Mm) := bdd (m_X5_mayTryAllRows  g) (fun ra1 ga2 => (if ra1 = (0 : Int32) then some ((-5 : Int32), ga2) else bdd (m_X5_greedyTable  ga2) (fun ra5 ga6 => (if (0 : Int32) ≤ ra5 then bdd (m_X5_answerOf x1 ra5 ga6) (fun ra9 ga10 => some (ra9, ga10)) else some ((-2 : Int32), ga6)))))
set_option maxHeartbeats 2000000 in
theorem t_X9_greedy_18 {r2 : Int32} {g2 : Mm} (X : gx_X p R s m args meth c D al cI cJ A RX9 cX9_greedy 3 (some .int) d 0 0) (hd : 7 ≤ d) : ∀ (x1 : Int32) (g : Mm), m_X9_greedy_18 x1 g = some (r2, g2) → gx_G p l e R s m args below meth c (gx_Q below args s D al cI cJ A (some (.int r2)) g2) D al cI cJ A 3 0 0 18 [(0, .ref (al (0))), (1, .int (x1))] [] g := by
  intro x1 g h
  unfold m_X9_greedy_18 at h
  refine gx_aload_n X 0 rfl dX9_greedy_18 ?_
  refine gx_getf X (0) lf_X9_42 (by decide) (cl_0 _ _) (v := .ref (al (25))) rfl dX9_greedy_19 ?_
  obtain ⟨ra1, ga2, ca3, h⟩ := bdd_eq h
  refine gx_callNi X (25) (c_X5_mayTryAllRows ca3) lc_X5_mayTryAllRows li_X5_mayTryAllRows lm_X9_243 (by decide) (cl_25 _ _) rfl rfl rfl (Nat.le_trans (by decide) hd) rfl (Nat.le_of_ble_eq_true rfl) dX9_greedy_22 ?_
  refine gx_if_ne X 31 dX9_greedy_25 (by decide) (fun q4 => ?_) (fun q4 => ?_)
  · replace h := (if_neg q4).symm.trans h
    refine gx_aload_n X 0 rfl dX9_greedy_31 ?_
    refine gx_getf X (0) lf_X9_42 (by decide) (cl_0 _ _) (v := .ref (al (25))) rfl dX9_greedy_32 ?_
    obtain ⟨ra5, ga6, ca7, h⟩ := bdd_eq h
    refine gx_callNi X (25) (c_X5_greedyTable ca7) lc_X5_greedyTable li_X5_greedyTable lm_X9_246 (by decide) (cl_25 _ _) rfl rfl rfl (Nat.le_trans (by decide) hd) rfl (Nat.le_of_ble_eq_true rfl) dX9_greedy_35 ?_
    refine gx_istore_n X [(2, .int (ra5)), (0, .ref (al (0))), (1, .int (x1))] dX9_greedy_38 (by decide) rfl ?_
    refine gx_iload_n X 0 rfl dX9_greedy_39 ?_
    refine gx_if_ge X 48 dX9_greedy_40 (by decide) (fun q8 => ?_) (fun q8 => ?_)
    · replace h := (if_pos q8).symm.trans h
      refine gx_aload_n X 1 rfl dX9_greedy_48 ?_
      refine gx_getf X (0) lf_X9_42 (by decide) (cl_0 _ _) (v := .ref (al (25))) rfl dX9_greedy_49 ?_
      refine gx_iload_n X 2 rfl dX9_greedy_52 ?_
      refine gx_iload_n X 0 rfl dX9_greedy_53 ?_
      obtain ⟨ra9, ga10, ca11, h⟩ := bdd_eq h
      refine gx_callNi X (25) (c_X5_answerOf ca11) lc_X5_answerOf li_X5_answerOf lm_X9_240 (by decide) (cl_25 _ _) rfl rfl rfl (Nat.le_trans (by decide) hd) rfl (Nat.le_of_ble_eq_true rfl) dX9_greedy_54 ?_
      obtain ⟨rfl, rfl⟩ := ret_eq h
      exact gx_iret X rfl dX9_greedy_57
    · replace h := (if_neg q8).symm.trans h
      refine gx_bipush X (v := (-2 : Int32)) dX9_greedy_43 (by decide) ?_
      refine gx_goto X 57 dX9_greedy_45 (by decide) ?_
      obtain ⟨rfl, rfl⟩ := ret_eq h
      exact gx_iret X rfl dX9_greedy_57
  · replace h := (if_pos q4).symm.trans h
    refine gx_bipush X (v := (-5 : Int32)) dX9_greedy_28 (by decide) ?_
    obtain ⟨rfl, rfl⟩ := ret_eq h
    exact gx_iret X rfl dX9_greedy_30
def m_X9_greedy (a1 : Int32) (g : Mm) : Option (Int32 × Mm) := (if a1 = (-1 : Int32) then m_X9_greedy_18 a1 g else bdd (m_X8_hasCell a1 g) (fun ra2 ga3 => (if ra2 = (0 : Int32) then some ((-1 : Int32), ga3) else m_X9_greedy_18 a1 ga3)))
set_option maxHeartbeats 2000000 in
theorem c_X9_greedy {r2 : Int32} {g g2 : Mm} {a1 : Int32} (h : m_X9_greedy a1 g = some (r2, g2)) : gx_M 7 yX9_greedy cX9_greedy 3 (some .int) (fun al => [.ref (al (0)), .int (a1)]) g (some (.int r2)) g2 := by
  have hd : 7 ≤ 7 := Nat.le_refl _
  refine gx_M.of (by decide +kernel) (fun _ => Nat.le_of_ble_eq_true rfl) ?_
  intro p l e R s m args below meth c D al cI cJ A X
  refine gx_eq (pc' := 0) (ls' := [(0, .ref (al (0))), (1, .int (a1))]) (st' := []) (g' := g) ⟨rfl, rfl, rfl, rfl⟩ ?_
  unfold m_X9_greedy at h
  refine gx_iload_n X 1 rfl dX9_greedy_0 ?_
  refine gx_iconst X (v := (-1 : Int32)) dX9_greedy_1 (by decide) ?_
  refine gx_icmp_eq X 18 dX9_greedy_2 (by decide) (fun q1 => ?_) (fun q1 => ?_)
  · replace h := (if_pos q1).symm.trans h
    exact gx_sub [0, 1] rfl (t_X9_greedy_18 X hd a1 g h)
  · replace h := (if_neg q1).symm.trans h
    refine gx_aload_n X 0 rfl dX9_greedy_5 ?_
    refine gx_getf X (0) lf_X9_10 (by decide) (cl_0 _ _) (v := .ref (al (1))) rfl dX9_greedy_6 ?_
    refine gx_iload_n X 1 rfl dX9_greedy_9 ?_
    obtain ⟨ra2, ga3, ca4, h⟩ := bdd_eq h
    refine gx_callNi X (1) (c_X8_hasCell ca4) lc_X8_hasCell li_X8_hasCell lm_X9_88 (by decide) (cl_1 _ _) rfl rfl rfl (Nat.le_trans (by decide) hd) rfl (Nat.le_of_ble_eq_true rfl) dX9_greedy_10 ?_
    refine gx_if_ne X 18 dX9_greedy_13 (by decide) (fun q5 => ?_) (fun q5 => ?_)
    · replace h := (if_neg q5).symm.trans h
      exact gx_sub [0, 1] rfl (t_X9_greedy_18 X hd a1 ga3 h)
    · replace h := (if_pos q5).symm.trans h
      refine gx_iconst X (v := (-1 : Int32)) dX9_greedy_16 (by decide) ?_
      obtain ⟨rfl, rfl⟩ := ret_eq h
      exact gx_iret X rfl dX9_greedy_17
theorem dX9_hear_0 : decode cX9_hear 0 = .ok (.iload_n 1, 1) := by decide +kernel
theorem dX9_hear_1 : decode cX9_hear 1 = .ok (.iconst (-1), 1) := by decide +kernel
theorem dX9_hear_2 : decode cX9_hear 2 = .ok (.if_icmp .lt 9, 3) := by decide +kernel
theorem dX9_hear_5 : decode cX9_hear 5 = .ok (.iload_n 1, 1) := by decide +kernel
theorem dX9_hear_6 : decode cX9_hear 6 = .ok (.bipush 15, 2) := by decide +kernel
theorem dX9_hear_8 : decode cX9_hear 8 = .ok (.if_icmp .le 5, 3) := by decide +kernel
theorem dX9_hear_11 : decode cX9_hear 11 = .ok (.iconst (-1), 1) := by decide +kernel
theorem dX9_hear_12 : decode cX9_hear 12 = .ok (.ireturn, 1) := by decide +kernel
theorem dX9_hear_13 : decode cX9_hear 13 = .ok (.aload_n 0, 1) := by decide +kernel
theorem dX9_hear_14 : decode cX9_hear 14 = .ok (.getfield 49, 3) := by decide +kernel
theorem dX9_hear_17 : decode cX9_hear 17 = .ok (.iload_n 1, 1) := by decide +kernel
theorem dX9_hear_18 : decode cX9_hear 18 = .ok (.invokevirtual 191, 3) := by decide +kernel
theorem dX9_hear_21 : decode cX9_hear 21 = .ok (.ifCond .eq 13, 3) := by decide +kernel
theorem dX9_hear_24 : decode cX9_hear 24 = .ok (.aload_n 0, 1) := by decide +kernel
theorem dX9_hear_25 : decode cX9_hear 25 = .ok (.getfield 49, 3) := by decide +kernel
theorem dX9_hear_28 : decode cX9_hear 28 = .ok (.getfield 192, 3) := by decide +kernel
theorem dX9_hear_31 : decode cX9_hear 31 = .ok (.goto 5, 3) := by decide +kernel
theorem dX9_hear_34 : decode cX9_hear 34 = .ok (.bipush (-3), 2) := by decide +kernel
theorem dX9_hear_36 : decode cX9_hear 36 = .ok (.ireturn, 1) := by decide +kernel
def m_X9_hear (a1 : Int32) (g : Mm) : Option (Int32 × Mm) := (if a1 < (-1 : Int32) then some ((-1 : Int32), g) else (if a1 ≤ (15 : Int32) then bdd (m_X2_add a1 g) (fun ra3 ga4 => (if ra3 = (0 : Int32) then some ((-3 : Int32), ga4) else some ((rdI ga4 29 3), ga4))) else some ((-1 : Int32), g)))
set_option maxHeartbeats 2000000 in
theorem c_X9_hear {r2 : Int32} {g g2 : Mm} {a1 : Int32} (h : m_X9_hear a1 g = some (r2, g2)) : gx_M 2 yX9_hear cX9_hear 2 (some .int) (fun al => [.ref (al (0)), .int (a1)]) g (some (.int r2)) g2 := by
  have hd : 2 ≤ 2 := Nat.le_refl _
  refine gx_M.of (by decide +kernel) (fun _ => Nat.le_of_ble_eq_true rfl) ?_
  intro p l e R s m args below meth c D al cI cJ A X
  refine gx_eq (pc' := 0) (ls' := [(0, .ref (al (0))), (1, .int (a1))]) (st' := []) (g' := g) ⟨rfl, rfl, rfl, rfl⟩ ?_
  unfold m_X9_hear at h
  refine gx_iload_n X 1 rfl dX9_hear_0 ?_
  refine gx_iconst X (v := (-1 : Int32)) dX9_hear_1 (by decide) ?_
  refine gx_icmp_lt X 11 dX9_hear_2 (by decide) (fun q1 => ?_) (fun q1 => ?_)
  · replace h := (if_pos q1).symm.trans h
    refine gx_iconst X (v := (-1 : Int32)) dX9_hear_11 (by decide) ?_
    obtain ⟨rfl, rfl⟩ := ret_eq h
    exact gx_iret X rfl dX9_hear_12
  · replace h := (if_neg q1).symm.trans h
    refine gx_iload_n X 1 rfl dX9_hear_5 ?_
    refine gx_bipush X (v := (15 : Int32)) dX9_hear_6 (by decide) ?_
    refine gx_icmp_le X 13 dX9_hear_8 (by decide) (fun q2 => ?_) (fun q2 => ?_)
    · replace h := (if_pos q2).symm.trans h
      refine gx_aload_n X 0 rfl dX9_hear_13 ?_
      refine gx_getf X (0) lf_X9_49 (by decide) (cl_0 _ _) (v := .ref (al (29))) rfl dX9_hear_14 ?_
      refine gx_iload_n X 1 rfl dX9_hear_17 ?_
      obtain ⟨ra3, ga4, ca5, h⟩ := bdd_eq h
      refine gx_callNi X (29) (c_X2_add ca5) lc_X2_add li_X2_add lm_X9_191 (by decide) (cl_29 _ _) rfl rfl rfl (Nat.le_trans (by decide) hd) rfl (Nat.le_of_ble_eq_true rfl) dX9_hear_18 ?_
      refine gx_if_eq X 34 dX9_hear_21 (by decide) (fun q6 => ?_) (fun q6 => ?_)
      · replace h := (if_pos q6).symm.trans h
        refine gx_bipush X (v := (-3 : Int32)) dX9_hear_34 (by decide) ?_
        obtain ⟨rfl, rfl⟩ := ret_eq h
        exact gx_iret X rfl dX9_hear_36
      · replace h := (if_neg q6).symm.trans h
        refine gx_aload_n X 0 rfl dX9_hear_24 ?_
        refine gx_getf X (0) lf_X9_49 (by decide) (cl_0 _ _) (v := .ref (al (29))) rfl dX9_hear_25 ?_
        refine gx_getn X (29) lf_X9_192 (by decide) (cl_29 _ _) (v := .int ((rdI ga4 29 3))) rfl dX9_hear_28 ?_
        refine gx_goto X 36 dX9_hear_31 (by decide) ?_
        obtain ⟨rfl, rfl⟩ := ret_eq h
        exact gx_iret X rfl dX9_hear_36
    · replace h := (if_neg q2).symm.trans h
      refine gx_iconst X (v := (-1 : Int32)) dX9_hear_11 (by decide) ?_
      obtain ⟨rfl, rfl⟩ := ret_eq h
      exact gx_iret X rfl dX9_hear_12
theorem dX9_keep_0 : decode cX9_keep 0 = .ok (.aload_n 0, 1) := by decide +kernel
theorem dX9_keep_1 : decode cX9_keep 1 = .ok (.getfield 63, 3) := by decide +kernel
theorem dX9_keep_4 : decode cX9_keep 4 = .ok (.iload_n 1, 1) := by decide +kernel
theorem dX9_keep_5 : decode cX9_keep 5 = .ok (.invokevirtual 107, 3) := by decide +kernel
theorem dX9_keep_8 : decode cX9_keep 8 = .ok (.ifCond .eq 19, 3) := by decide +kernel
theorem dX9_keep_11 : decode cX9_keep 11 = .ok (.iload_n 2, 1) := by decide +kernel
theorem dX9_keep_12 : decode cX9_keep 12 = .ok (.iconst (-1), 1) := by decide +kernel
theorem dX9_keep_13 : decode cX9_keep 13 = .ok (.if_icmp .lt 14, 3) := by decide +kernel
theorem dX9_keep_16 : decode cX9_keep 16 = .ok (.iload_n 2, 1) := by decide +kernel
theorem dX9_keep_17 : decode cX9_keep 17 = .ok (.aload_n 0, 1) := by decide +kernel
theorem dX9_keep_18 : decode cX9_keep 18 = .ok (.getfield 56, 3) := by decide +kernel
theorem dX9_keep_21 : decode cX9_keep 21 = .ok (.getfield 296, 3) := by decide +kernel
theorem dX9_keep_24 : decode cX9_keep 24 = .ok (.if_icmp .lt 5, 3) := by decide +kernel
theorem dX9_keep_27 : decode cX9_keep 27 = .ok (.iconst (-1), 1) := by decide +kernel
theorem dX9_keep_28 : decode cX9_keep 28 = .ok (.ireturn, 1) := by decide +kernel
theorem dX9_keep_29 : decode cX9_keep 29 = .ok (.iload_n 2, 1) := by decide +kernel
theorem dX9_keep_30 : decode cX9_keep 30 = .ok (.iconst (-1), 1) := by decide +kernel
theorem dX9_keep_31 : decode cX9_keep 31 = .ok (.if_icmp .ne 14, 3) := by decide +kernel
theorem dX9_keep_34 : decode cX9_keep 34 = .ok (.aload_n 0, 1) := by decide +kernel
theorem dX9_keep_35 : decode cX9_keep 35 = .ok (.getfield 63, 3) := by decide +kernel
theorem dX9_keep_38 : decode cX9_keep 38 = .ok (.iload_n 1, 1) := by decide +kernel
theorem dX9_keep_39 : decode cX9_keep 39 = .ok (.invokevirtual 308, 3) := by decide +kernel
theorem dX9_keep_42 : decode cX9_keep 42 = .ok (.goto 12, 3) := by decide +kernel
theorem dX9_keep_45 : decode cX9_keep 45 = .ok (.aload_n 0, 1) := by decide +kernel
theorem dX9_keep_46 : decode cX9_keep 46 = .ok (.getfield 63, 3) := by decide +kernel
theorem dX9_keep_49 : decode cX9_keep 49 = .ok (.iload_n 1, 1) := by decide +kernel
theorem dX9_keep_50 : decode cX9_keep 50 = .ok (.iload_n 2, 1) := by decide +kernel
theorem dX9_keep_51 : decode cX9_keep 51 = .ok (.invokevirtual 311, 3) := by decide +kernel
theorem dX9_keep_54 : decode cX9_keep 54 = .ok (.iconst 1, 1) := by decide +kernel
theorem dX9_keep_55 : decode cX9_keep 55 = .ok (.ireturn, 1) := by decide +kernel
def m_X9_keep (a1 : Int32) (a2 : Int32) (g : Mm) : Option (Int32 × Mm) := bdd (m_X6_hasShelf a1 g) (fun ra1 ga2 => (if ra1 = (0 : Int32) then some ((-1 : Int32), ga2) else (if a2 < (-1 : Int32) then some ((-1 : Int32), ga2) else (if a2 < (rdI ga2 32 2) then (if a2 = (-1 : Int32) then bdd (m_X6_clear a1 ga2) (fun ra11 ga12 => some ((1 : Int32), ga12)) else bdd (m_X6_holdTable a1 a2 ga2) (fun ra8 ga9 => some ((1 : Int32), ga9))) else some ((-1 : Int32), ga2)))))
set_option maxHeartbeats 2000000 in
theorem c_X9_keep {r2 : Int32} {g g2 : Mm} {a1 : Int32} {a2 : Int32} (h : m_X9_keep a1 a2 g = some (r2, g2)) : gx_M 2 yX9_keep cX9_keep 3 (some .int) (fun al => [.ref (al (0)), .int (a1), .int (a2)]) g (some (.int r2)) g2 := by
  have hd : 2 ≤ 2 := Nat.le_refl _
  refine gx_M.of (by decide +kernel) (fun _ => Nat.le_of_ble_eq_true rfl) ?_
  intro p l e R s m args below meth c D al cI cJ A X
  refine gx_eq (pc' := 0) (ls' := [(0, .ref (al (0))), (1, .int (a1)), (2, .int (a2))]) (st' := []) (g' := g) ⟨rfl, rfl, rfl, rfl⟩ ?_
  unfold m_X9_keep at h
  refine gx_aload_n X 0 rfl dX9_keep_0 ?_
  refine gx_getf X (0) lf_X9_63 (by decide) (cl_0 _ _) (v := .ref (al (35))) rfl dX9_keep_1 ?_
  refine gx_iload_n X 1 rfl dX9_keep_4 ?_
  obtain ⟨ra1, ga2, ca3, h⟩ := bdd_eq h
  refine gx_callNi X (35) (c_X6_hasShelf ca3) lc_X6_hasShelf li_X6_hasShelf lm_X9_107 (by decide) (cl_35 _ _) rfl rfl rfl (Nat.le_trans (by decide) hd) rfl (Nat.le_of_ble_eq_true rfl) dX9_keep_5 ?_
  refine gx_if_eq X 27 dX9_keep_8 (by decide) (fun q4 => ?_) (fun q4 => ?_)
  · replace h := (if_pos q4).symm.trans h
    refine gx_iconst X (v := (-1 : Int32)) dX9_keep_27 (by decide) ?_
    obtain ⟨rfl, rfl⟩ := ret_eq h
    exact gx_iret X rfl dX9_keep_28
  · replace h := (if_neg q4).symm.trans h
    refine gx_iload_n X 2 rfl dX9_keep_11 ?_
    refine gx_iconst X (v := (-1 : Int32)) dX9_keep_12 (by decide) ?_
    refine gx_icmp_lt X 27 dX9_keep_13 (by decide) (fun q5 => ?_) (fun q5 => ?_)
    · replace h := (if_pos q5).symm.trans h
      refine gx_iconst X (v := (-1 : Int32)) dX9_keep_27 (by decide) ?_
      obtain ⟨rfl, rfl⟩ := ret_eq h
      exact gx_iret X rfl dX9_keep_28
    · replace h := (if_neg q5).symm.trans h
      refine gx_iload_n X 2 rfl dX9_keep_16 ?_
      refine gx_aload_n X 0 rfl dX9_keep_17 ?_
      refine gx_getf X (0) lf_X9_56 (by decide) (cl_0 _ _) (v := .ref (al (32))) rfl dX9_keep_18 ?_
      refine gx_getn X (32) lf_X9_296 (by decide) (cl_32 _ _) (v := .int ((rdI ga2 32 2))) rfl dX9_keep_21 ?_
      refine gx_icmp_lt X 29 dX9_keep_24 (by decide) (fun q6 => ?_) (fun q6 => ?_)
      · replace h := (if_pos q6).symm.trans h
        refine gx_iload_n X 2 rfl dX9_keep_29 ?_
        refine gx_iconst X (v := (-1 : Int32)) dX9_keep_30 (by decide) ?_
        refine gx_icmp_ne X 45 dX9_keep_31 (by decide) (fun q7 => ?_) (fun q7 => ?_)
        · replace h := (if_neg q7).symm.trans h
          refine gx_aload_n X 0 rfl dX9_keep_45 ?_
          refine gx_getf X (0) lf_X9_63 (by decide) (cl_0 _ _) (v := .ref (al (35))) rfl dX9_keep_46 ?_
          refine gx_iload_n X 1 rfl dX9_keep_49 ?_
          refine gx_iload_n X 2 rfl dX9_keep_50 ?_
          obtain ⟨ra8, ga9, ca10, h⟩ := bdd_eq h
          refine gx_callNv X (35) (c_X6_holdTable ca10) lc_X6_holdTable li_X6_holdTable lm_X9_311 (by decide) (cl_35 _ _) rfl rfl rfl (Nat.le_trans (by decide) hd) rfl (Nat.le_of_ble_eq_true rfl) dX9_keep_51 ?_
          refine gx_iconst X (v := (1 : Int32)) dX9_keep_54 (by decide) ?_
          obtain ⟨rfl, rfl⟩ := ret_eq h
          exact gx_iret X rfl dX9_keep_55
        · replace h := (if_pos q7).symm.trans h
          refine gx_aload_n X 0 rfl dX9_keep_34 ?_
          refine gx_getf X (0) lf_X9_63 (by decide) (cl_0 _ _) (v := .ref (al (35))) rfl dX9_keep_35 ?_
          refine gx_iload_n X 1 rfl dX9_keep_38 ?_
          obtain ⟨ra11, ga12, ca13, h⟩ := bdd_eq h
          refine gx_callNv X (35) (c_X6_clear ca13) lc_X6_clear li_X6_clear lm_X9_308 (by decide) (cl_35 _ _) rfl rfl rfl (Nat.le_trans (by decide) hd) rfl (Nat.le_of_ble_eq_true rfl) dX9_keep_39 ?_
          refine gx_goto X 54 dX9_keep_42 (by decide) ?_
          refine gx_iconst X (v := (1 : Int32)) dX9_keep_54 (by decide) ?_
          obtain ⟨rfl, rfl⟩ := ret_eq h
          exact gx_iret X rfl dX9_keep_55
      · replace h := (if_neg q6).symm.trans h
        refine gx_iconst X (v := (-1 : Int32)) dX9_keep_27 (by decide) ?_
        obtain ⟨rfl, rfl⟩ := ret_eq h
        exact gx_iret X rfl dX9_keep_28
theorem dX9_kept_0 : decode cX9_kept 0 = .ok (.aload_n 0, 1) := by decide +kernel
theorem dX9_kept_1 : decode cX9_kept 1 = .ok (.getfield 35, 3) := by decide +kernel
theorem dX9_kept_4 : decode cX9_kept 4 = .ok (.invokevirtual 224, 3) := by decide +kernel
theorem dX9_kept_7 : decode cX9_kept 7 = .ok (.ireturn, 1) := by decide +kernel
def m_X9_kept (g : Mm) : Option (Int32 × Mm) := bdd (m_X7_fewestBells  g) (fun ra1 ga2 => some (ra1, ga2))
set_option maxHeartbeats 2000000 in
theorem c_X9_kept {r2 : Int32} {g g2 : Mm} (h : m_X9_kept g = some (r2, g2)) : gx_M 6 yX9_kept cX9_kept 1 (some .int) (fun al => [.ref (al (0))]) g (some (.int r2)) g2 := by
  have hd : 6 ≤ 6 := Nat.le_refl _
  refine gx_M.of (by decide +kernel) (fun _ => Nat.le_of_ble_eq_true rfl) ?_
  intro p l e R s m args below meth c D al cI cJ A X
  refine gx_eq (pc' := 0) (ls' := [(0, .ref (al (0)))]) (st' := []) (g' := g) ⟨rfl, rfl, rfl, rfl⟩ ?_
  unfold m_X9_kept at h
  refine gx_aload_n X 0 rfl dX9_kept_0 ?_
  refine gx_getf X (0) lf_X9_35 (by decide) (cl_0 _ _) (v := .ref (al (23))) rfl dX9_kept_1 ?_
  obtain ⟨ra1, ga2, ca3, h⟩ := bdd_eq h
  refine gx_callNi X (23) (c_X7_fewestBells ca3) lc_X7_fewestBells li_X7_fewestBells lm_X9_224 (by decide) (cl_23 _ _) rfl rfl rfl (Nat.le_trans (by decide) hd) rfl (Nat.le_of_ble_eq_true rfl) dX9_kept_4 ?_
  obtain ⟨rfl, rfl⟩ := ret_eq h
  exact gx_iret X rfl dX9_kept_7
theorem dX9_law_0 : decode cX9_law 0 = .ok (.aload_n 0, 1) := by decide +kernel
theorem dX9_law_1 : decode cX9_law 1 = .ok (.getfield 26, 3) := by decide +kernel
theorem dX9_law_4 : decode cX9_law 4 = .ok (.invokevirtual 151, 3) := by decide +kernel
theorem dX9_law_7 : decode cX9_law 7 = .ok (.istore_n 1, 1) := by decide +kernel
theorem dX9_law_8 : decode cX9_law 8 = .ok (.iload_n 1, 1) := by decide +kernel
theorem dX9_law_9 : decode cX9_law 9 = .ok (.ifCond .ge 7, 3) := by decide +kernel
theorem dX9_law_12 : decode cX9_law 12 = .ok (.iconst 1, 1) := by decide +kernel
theorem dX9_law_13 : decode cX9_law 13 = .ok (.goto 7, 3) := by decide +kernel
theorem dX9_law_16 : decode cX9_law 16 = .ok (.bipush (-100), 2) := by decide +kernel
theorem dX9_law_18 : decode cX9_law 18 = .ok (.iload_n 1, 1) := by decide +kernel
theorem dX9_law_19 : decode cX9_law 19 = .ok (.isub, 1) := by decide +kernel
theorem dX9_law_20 : decode cX9_law 20 = .ok (.ireturn, 1) := by decide +kernel
def m_X9_law (g : Mm) : Option (Int32 × Mm) := bdd (m_X3_readAll  g) (fun ra1 ga2 => (if (0 : Int32) ≤ ra1 then some (((-100 : Int32) - ra1), ga2) else some ((1 : Int32), ga2)))
set_option maxHeartbeats 2000000 in
theorem c_X9_law {r2 : Int32} {g g2 : Mm} (h : m_X9_law g = some (r2, g2)) : gx_M 126 yX9_law cX9_law 2 (some .int) (fun al => [.ref (al (0))]) g (some (.int r2)) g2 := by
  have hd : 126 ≤ 126 := Nat.le_refl _
  refine gx_M.of (by decide +kernel) (fun _ => Nat.le_of_ble_eq_true rfl) ?_
  intro p l e R s m args below meth c D al cI cJ A X
  refine gx_eq (pc' := 0) (ls' := [(0, .ref (al (0)))]) (st' := []) (g' := g) ⟨rfl, rfl, rfl, rfl⟩ ?_
  unfold m_X9_law at h
  refine gx_aload_n X 0 rfl dX9_law_0 ?_
  refine gx_getf X (0) lf_X9_26 (by decide) (cl_0 _ _) (v := .ref (al (11))) rfl dX9_law_1 ?_
  obtain ⟨ra1, ga2, ca3, h⟩ := bdd_eq h
  refine gx_callNi X (11) (c_X3_readAll ca3) lc_X3_readAll li_X3_readAll lm_X9_151 (by decide) (cl_11 _ _) rfl rfl rfl (Nat.le_trans (by decide) hd) rfl (Nat.le_of_ble_eq_true rfl) dX9_law_4 ?_
  refine gx_istore_n X [(1, .int (ra1)), (0, .ref (al (0)))] dX9_law_7 (by decide) rfl ?_
  refine gx_iload_n X 0 rfl dX9_law_8 ?_
  refine gx_if_ge X 16 dX9_law_9 (by decide) (fun q4 => ?_) (fun q4 => ?_)
  · replace h := (if_pos q4).symm.trans h
    refine gx_bipush X (v := (-100 : Int32)) dX9_law_16 (by decide) ?_
    refine gx_iload_n X 0 rfl dX9_law_18 ?_
    refine gx_isub X dX9_law_19 ?_
    obtain ⟨rfl, rfl⟩ := ret_eq h
    exact gx_iret X rfl dX9_law_20
  · replace h := (if_neg q4).symm.trans h
    refine gx_iconst X (v := (1 : Int32)) dX9_law_12 (by decide) ?_
    refine gx_goto X 20 dX9_law_13 (by decide) ?_
    obtain ⟨rfl, rfl⟩ := ret_eq h
    exact gx_iret X rfl dX9_law_20
theorem dX9_lay_0 : decode cX9_lay 0 = .ok (.iconst 0, 1) := by decide +kernel
theorem dX9_lay_1 : decode cX9_lay 1 = .ok (.istore_n 1, 1) := by decide +kernel
theorem dX9_lay_2 : decode cX9_lay 2 = .ok (.iload_n 1, 1) := by decide +kernel
theorem dX9_lay_3 : decode cX9_lay 3 = .ok (.aload_n 0, 1) := by decide +kernel
theorem dX9_lay_4 : decode cX9_lay 4 = .ok (.getfield 10, 3) := by decide +kernel
theorem dX9_lay_7 : decode cX9_lay 7 = .ok (.getfield 75, 3) := by decide +kernel
theorem dX9_lay_10 : decode cX9_lay 10 = .ok (.if_icmp .ge 61, 3) := by decide +kernel
theorem dX9_lay_13 : decode cX9_lay 13 = .ok (.iconst 0, 1) := by decide +kernel
theorem dX9_lay_14 : decode cX9_lay 14 = .ok (.istore_n 2, 1) := by decide +kernel
theorem dX9_lay_15 : decode cX9_lay 15 = .ok (.iload_n 2, 1) := by decide +kernel
theorem dX9_lay_16 : decode cX9_lay 16 = .ok (.aload_n 0, 1) := by decide +kernel
theorem dX9_lay_17 : decode cX9_lay 17 = .ok (.getfield 10, 3) := by decide +kernel
theorem dX9_lay_20 : decode cX9_lay 20 = .ok (.getfield 67, 3) := by decide +kernel
theorem dX9_lay_23 : decode cX9_lay 23 = .ok (.if_icmp .ge 42, 3) := by decide +kernel
theorem dX9_lay_26 : decode cX9_lay 26 = .ok (.aload_n 0, 1) := by decide +kernel
theorem dX9_lay_27 : decode cX9_lay 27 = .ok (.iload_n 1, 1) := by decide +kernel
theorem dX9_lay_28 : decode cX9_lay 28 = .ok (.iload_n 2, 1) := by decide +kernel
theorem dX9_lay_29 : decode cX9_lay 29 = .ok (.invokevirtual 155, 3) := by decide +kernel
theorem dX9_lay_32 : decode cX9_lay 32 = .ok (.istore_n 3, 1) := by decide +kernel
theorem dX9_lay_33 : decode cX9_lay 33 = .ok (.aload_n 0, 1) := by decide +kernel
theorem dX9_lay_34 : decode cX9_lay 34 = .ok (.getfield 10, 3) := by decide +kernel
theorem dX9_lay_37 : decode cX9_lay 37 = .ok (.iload_n 1, 1) := by decide +kernel
theorem dX9_lay_38 : decode cX9_lay 38 = .ok (.iload_n 2, 1) := by decide +kernel
theorem dX9_lay_39 : decode cX9_lay 39 = .ok (.iconst 0, 1) := by decide +kernel
theorem dX9_lay_40 : decode cX9_lay 40 = .ok (.aload_n 0, 1) := by decide +kernel
theorem dX9_lay_41 : decode cX9_lay 41 = .ok (.getfield 10, 3) := by decide +kernel
theorem dX9_lay_44 : decode cX9_lay 44 = .ok (.getfield 131, 3) := by decide +kernel
theorem dX9_lay_47 : decode cX9_lay 47 = .ok (.iload_n 2, 1) := by decide +kernel
theorem dX9_lay_48 : decode cX9_lay 48 = .ok (.iaload, 1) := by decide +kernel
theorem dX9_lay_49 : decode cX9_lay 49 = .ok (.iload_n 3, 1) := by decide +kernel
theorem dX9_lay_50 : decode cX9_lay 50 = .ok (.invokestatic 158, 3) := by decide +kernel
theorem dX9_lay_53 : decode cX9_lay 53 = .ok (.invokestatic 163, 3) := by decide +kernel
theorem dX9_lay_56 : decode cX9_lay 56 = .ok (.invokevirtual 100, 3) := by decide +kernel
theorem dX9_lay_59 : decode cX9_lay 59 = .ok (.iinc 2 1, 3) := by decide +kernel
theorem dX9_lay_62 : decode cX9_lay 62 = .ok (.goto (-47), 3) := by decide +kernel
theorem dX9_lay_65 : decode cX9_lay 65 = .ok (.iinc 1 1, 3) := by decide +kernel
theorem dX9_lay_68 : decode cX9_lay 68 = .ok (.goto (-66), 3) := by decide +kernel
theorem dX9_lay_71 : decode cX9_lay 71 = .ok (.aload_n 0, 1) := by decide +kernel
theorem dX9_lay_72 : decode cX9_lay 72 = .ok (.getfield 19, 3) := by decide +kernel
theorem dX9_lay_75 : decode cX9_lay 75 = .ok (.invokevirtual 82, 3) := by decide +kernel
theorem dX9_lay_78 : decode cX9_lay 78 = .ok (.aload_n 0, 1) := by decide +kernel
theorem dX9_lay_79 : decode cX9_lay 79 = .ok (.getfield 10, 3) := by decide +kernel
theorem dX9_lay_82 : decode cX9_lay 82 = .ok (.invokevirtual 166, 3) := by decide +kernel
theorem dX9_lay_85 : decode cX9_lay 85 = .ok (.ireturn, 1) := by decide +kernel
def m_X9_lay_15 (K2 : Int32 → Mm → Option (Int32 × Mm)) : Nat → Int32 → Int32 → Mm → Option (Int32 × Mm)
  | 0, _, _, _ => none
  | n + 1, x1, x2, g => (if (rdI g 1 0) ≤ x2 then K2 (x1 + (1 : Int32)) g else bdd (m_X9_givenByLaw x1 x2 g) (fun ra2 ga3 => gdd (ixo x2 6) (bdd (m_J9_min_7cf53 (rdI ga3 2 x2.toNatClampNeg) ra2 ga3) (fun ra6 ga7 => bdd (m_J9_max_7cf53 (0 : Int32) ra6 ga7) (fun ra9 ga10 => bdd (m_X8_write x1 x2 ra9 ga10) (fun ra12 ga13 => m_X9_lay_15 K2 n x1 (x2 + (1 : Int32)) ga13))))))
set_option maxHeartbeats 2000000 in
theorem t_X9_lay_15 {r2 : Int32} {g2 : Mm} (X : gx_X p R s m args meth c D al cI cJ A RX9 cX9_lay 4 (some .int) d 0 0) (hd : 5 ≤ d) {K2 : Int32 → Mm → Option (Int32 × Mm)} (hK2 : ∀ (u0 : Int32) (g : Mm), K2 u0 g = some (r2, g2) → gx_G p l e R s m args below meth c (gx_Q below args s D al cI cJ A (some (.int r2)) g2) D al cI cJ A 4 0 0 2 [(0, .ref (al (0))), (1, .int (u0))] [] g) : ∀ (n : Nat) (x1 : Int32) (x2 : Int32) (g : Mm), m_X9_lay_15 K2 n x1 x2 g = some (r2, g2) → gx_G p l e R s m args below meth c (gx_Q below args s D al cI cJ A (some (.int r2)) g2) D al cI cJ A 4 0 0 15 [(0, .ref (al (0))), (1, .int (x1)), (2, .int (x2))] [] g := by
  intro n
  induction n with
  | zero => intro x1 x2 g h; cases h
  | succ n ih =>
    intro x1 x2 g h
    rw [m_X9_lay_15] at h
    refine gx_iload_n X 2 rfl dX9_lay_15 ?_
    refine gx_aload_n X 0 rfl dX9_lay_16 ?_
    refine gx_getf X (0) lf_X9_10 (by decide) (cl_0 _ _) (v := .ref (al (1))) rfl dX9_lay_17 ?_
    refine gx_getn X (1) lf_X9_67 (by decide) (cl_1 _ _) (v := .int ((rdI g 1 0))) rfl dX9_lay_20 ?_
    refine gx_icmp_ge X 65 dX9_lay_23 (by decide) (fun q1 => ?_) (fun q1 => ?_)
    · replace h := (if_pos q1).symm.trans h
      refine gx_iinc X [(1, .int ((x1 + (1 : Int32)))), (0, .ref (al (0))), (2, .int (x2))] 1 dX9_lay_65 rfl rfl (by decide) rfl ?_
      refine gx_goto X 2 dX9_lay_68 (by decide) ?_
      exact gx_sub [1, 0] rfl (hK2 (x1 + (1 : Int32)) g h)
    · replace h := (if_neg q1).symm.trans h
      refine gx_aload_n X 0 rfl dX9_lay_26 ?_
      refine gx_iload_n X 1 rfl dX9_lay_27 ?_
      refine gx_iload_n X 2 rfl dX9_lay_28 ?_
      obtain ⟨ra2, ga3, ca4, h⟩ := bdd_eq h
      refine gx_callVi X (0) (c_X9_givenByLaw ca4) lc_X9_givenByLaw li_X9_givenByLaw lm_X9_155 (by decide) (cl_0 _ _) rfl rfl rfl (Nat.le_trans (by decide) hd) rfl (Nat.le_of_ble_eq_true rfl) dX9_lay_29 ?_
      refine gx_istore_n X [(3, .int (ra2)), (0, .ref (al (0))), (1, .int (x1)), (2, .int (x2))] dX9_lay_32 (by decide) rfl ?_
      refine gx_aload_n X 1 rfl dX9_lay_33 ?_
      refine gx_getf X (0) lf_X9_10 (by decide) (cl_0 _ _) (v := .ref (al (1))) rfl dX9_lay_34 ?_
      refine gx_iload_n X 2 rfl dX9_lay_37 ?_
      refine gx_iload_n X 3 rfl dX9_lay_38 ?_
      refine gx_iconst X (v := (0 : Int32)) dX9_lay_39 (by decide) ?_
      refine gx_aload_n X 1 rfl dX9_lay_40 ?_
      refine gx_getf X (0) lf_X9_10 (by decide) (cl_0 _ _) (v := .ref (al (1))) rfl dX9_lay_41 ?_
      refine gx_getn X (1) lf_X9_131 (by decide) (cl_1 _ _) (v := .ref (al (2))) rfl dX9_lay_44 ?_
      refine gx_iload_n X 3 rfl dX9_lay_47 ?_
      obtain ⟨q5, h⟩ := gdd_eq h
      refine gx_iald X (2) 6 (by decide) (cl_2 _ _) q5 dX9_lay_48 ?_
      refine gx_iload_n X 0 rfl dX9_lay_49 ?_
      obtain ⟨ra6, ga7, ca8, h⟩ := bdd_eq h
      refine gx_callSi X (c_J9_min_7cf53 ca8) lc_J9_min_7cf53 li_J9_min_7cf53 lm_X9_158 rfl rfl (Nat.le_trans (by decide) hd) rfl (Nat.le_of_ble_eq_true rfl) dX9_lay_50 ?_
      obtain ⟨ra9, ga10, ca11, h⟩ := bdd_eq h
      refine gx_callSi X (c_J9_max_7cf53 ca11) lc_J9_max_7cf53 li_J9_max_7cf53 lm_X9_163 rfl rfl (Nat.le_trans (by decide) hd) rfl (Nat.le_of_ble_eq_true rfl) dX9_lay_53 ?_
      obtain ⟨ra12, ga13, ca14, h⟩ := bdd_eq h
      refine gx_callNv X (1) (c_X8_write ca14) lc_X8_write li_X8_write lm_X9_100 (by decide) (cl_1 _ _) rfl rfl rfl (Nat.le_trans (by decide) hd) rfl (Nat.le_of_ble_eq_true rfl) dX9_lay_56 ?_
      refine gx_iinc X [(2, .int ((x2 + (1 : Int32)))), (3, .int (ra2)), (0, .ref (al (0))), (1, .int (x1))] 3 dX9_lay_59 rfl rfl (by decide) rfl ?_
      refine gx_goto X 15 dX9_lay_62 (by decide) ?_
      exact gx_sub [2, 3, 0] rfl (ih x1 (x2 + (1 : Int32)) ga13 h)
def m_X9_lay_2 : Nat → Int32 → Mm → Option (Int32 × Mm)
  | 0, _, _ => none
  | n + 1, x1, g => (if (rdI g 1 1) ≤ x1 then bdd (m_X1_forgetAll  g) (fun ra2 ga3 => bdd (m_X8_totalOfAll  ga3) (fun ra5 ga6 => some (ra5, ga6))) else m_X9_lay_15 (m_X9_lay_2 n) fuL x1 (0 : Int32) g)
set_option maxHeartbeats 2000000 in
theorem t_X9_lay_2 {r2 : Int32} {g2 : Mm} (X : gx_X p R s m args meth c D al cI cJ A RX9 cX9_lay 4 (some .int) d 0 0) (hd : 5 ≤ d) : ∀ (n : Nat) (x1 : Int32) (g : Mm), m_X9_lay_2 n x1 g = some (r2, g2) → gx_G p l e R s m args below meth c (gx_Q below args s D al cI cJ A (some (.int r2)) g2) D al cI cJ A 4 0 0 2 [(0, .ref (al (0))), (1, .int (x1))] [] g := by
  intro n
  induction n with
  | zero => intro x1 g h; cases h
  | succ n ih =>
    intro x1 g h
    rw [m_X9_lay_2] at h
    refine gx_iload_n X 1 rfl dX9_lay_2 ?_
    refine gx_aload_n X 0 rfl dX9_lay_3 ?_
    refine gx_getf X (0) lf_X9_10 (by decide) (cl_0 _ _) (v := .ref (al (1))) rfl dX9_lay_4 ?_
    refine gx_getn X (1) lf_X9_75 (by decide) (cl_1 _ _) (v := .int ((rdI g 1 1))) rfl dX9_lay_7 ?_
    refine gx_icmp_ge X 71 dX9_lay_10 (by decide) (fun q1 => ?_) (fun q1 => ?_)
    · replace h := (if_pos q1).symm.trans h
      refine gx_aload_n X 0 rfl dX9_lay_71 ?_
      refine gx_getf X (0) lf_X9_19 (by decide) (cl_0 _ _) (v := .ref (al (7))) rfl dX9_lay_72 ?_
      obtain ⟨ra2, ga3, ca4, h⟩ := bdd_eq h
      refine gx_callNv X (7) (c_X1_forgetAll ca4) lc_X1_forgetAll li_X1_forgetAll lm_X9_82 (by decide) (cl_7 _ _) rfl rfl rfl (Nat.le_trans (by decide) hd) rfl (Nat.le_of_ble_eq_true rfl) dX9_lay_75 ?_
      refine gx_aload_n X 0 rfl dX9_lay_78 ?_
      refine gx_getf X (0) lf_X9_10 (by decide) (cl_0 _ _) (v := .ref (al (1))) rfl dX9_lay_79 ?_
      obtain ⟨ra5, ga6, ca7, h⟩ := bdd_eq h
      refine gx_callNi X (1) (c_X8_totalOfAll ca7) lc_X8_totalOfAll li_X8_totalOfAll lm_X9_166 (by decide) (cl_1 _ _) rfl rfl rfl (Nat.le_trans (by decide) hd) rfl (Nat.le_of_ble_eq_true rfl) dX9_lay_82 ?_
      obtain ⟨rfl, rfl⟩ := ret_eq h
      exact gx_iret X rfl dX9_lay_85
    · replace h := (if_neg q1).symm.trans h
      refine gx_iconst X (v := (0 : Int32)) dX9_lay_13 (by decide) ?_
      refine gx_istore_n X [(2, .int ((0 : Int32))), (0, .ref (al (0))), (1, .int (x1))] dX9_lay_14 (by decide) rfl ?_
      exact gx_sub [1, 2, 0] rfl (t_X9_lay_15 X hd (fun u0 g h => ih u0 g h) fuL x1 (0 : Int32) g h)
def m_X9_lay (g : Mm) : Option (Int32 × Mm) := m_X9_lay_2 fuL (0 : Int32) g
set_option maxHeartbeats 2000000 in
theorem c_X9_lay {r2 : Int32} {g g2 : Mm} (h : m_X9_lay g = some (r2, g2)) : gx_M 5 yX9_lay cX9_lay 4 (some .int) (fun al => [.ref (al (0))]) g (some (.int r2)) g2 := by
  have hd : 5 ≤ 5 := Nat.le_refl _
  refine gx_M.of (by decide +kernel) (fun _ => Nat.le_of_ble_eq_true rfl) ?_
  intro p l e R s m args below meth c D al cI cJ A X
  refine gx_eq (pc' := 0) (ls' := [(0, .ref (al (0)))]) (st' := []) (g' := g) ⟨rfl, rfl, rfl, rfl⟩ ?_
  unfold m_X9_lay at h
  refine gx_iconst X (v := (0 : Int32)) dX9_lay_0 (by decide) ?_
  refine gx_istore_n X [(1, .int ((0 : Int32))), (0, .ref (al (0)))] dX9_lay_1 (by decide) rfl ?_
  exact gx_sub [1, 0] rfl (t_X9_lay_2 X hd fuL (0 : Int32) g h)
theorem dX9_least_0 : decode cX9_least 0 = .ok (.iload_n 1, 1) := by decide +kernel
theorem dX9_least_1 : decode cX9_least 1 = .ok (.iconst (-1), 1) := by decide +kernel
theorem dX9_least_2 : decode cX9_least 2 = .ok (.if_icmp .eq 16, 3) := by decide +kernel
theorem dX9_least_5 : decode cX9_least 5 = .ok (.aload_n 0, 1) := by decide +kernel
theorem dX9_least_6 : decode cX9_least 6 = .ok (.getfield 10, 3) := by decide +kernel
theorem dX9_least_9 : decode cX9_least 9 = .ok (.iload_n 1, 1) := by decide +kernel
theorem dX9_least_10 : decode cX9_least 10 = .ok (.invokevirtual 88, 3) := by decide +kernel
theorem dX9_least_13 : decode cX9_least 13 = .ok (.ifCond .ne 5, 3) := by decide +kernel
theorem dX9_least_16 : decode cX9_least 16 = .ok (.iconst (-1), 1) := by decide +kernel
theorem dX9_least_17 : decode cX9_least 17 = .ok (.ireturn, 1) := by decide +kernel
theorem dX9_least_18 : decode cX9_least 18 = .ok (.aload_n 0, 1) := by decide +kernel
theorem dX9_least_19 : decode cX9_least 19 = .ok (.getfield 42, 3) := by decide +kernel
theorem dX9_least_22 : decode cX9_least 22 = .ok (.invokevirtual 234, 3) := by decide +kernel
theorem dX9_least_25 : decode cX9_least 25 = .ok (.ifCond .ne 6, 3) := by decide +kernel
theorem dX9_least_28 : decode cX9_least 28 = .ok (.bipush (-5), 2) := by decide +kernel
theorem dX9_least_30 : decode cX9_least 30 = .ok (.ireturn, 1) := by decide +kernel
theorem dX9_least_31 : decode cX9_least 31 = .ok (.aload_n 0, 1) := by decide +kernel
theorem dX9_least_32 : decode cX9_least 32 = .ok (.getfield 42, 3) := by decide +kernel
theorem dX9_least_35 : decode cX9_least 35 = .ok (.invokevirtual 237, 3) := by decide +kernel
theorem dX9_least_38 : decode cX9_least 38 = .ok (.istore_n 2, 1) := by decide +kernel
theorem dX9_least_39 : decode cX9_least 39 = .ok (.iload_n 2, 1) := by decide +kernel
theorem dX9_least_40 : decode cX9_least 40 = .ok (.ifCond .ge 8, 3) := by decide +kernel
theorem dX9_least_43 : decode cX9_least 43 = .ok (.bipush (-2), 2) := by decide +kernel
theorem dX9_least_45 : decode cX9_least 45 = .ok (.goto 12, 3) := by decide +kernel
theorem dX9_least_48 : decode cX9_least 48 = .ok (.aload_n 0, 1) := by decide +kernel
theorem dX9_least_49 : decode cX9_least 49 = .ok (.getfield 42, 3) := by decide +kernel
theorem dX9_least_52 : decode cX9_least 52 = .ok (.iload_n 1, 1) := by decide +kernel
theorem dX9_least_53 : decode cX9_least 53 = .ok (.iload_n 2, 1) := by decide +kernel
theorem dX9_least_54 : decode cX9_least 54 = .ok (.invokevirtual 240, 3) := by decide +kernel
theorem dX9_least_57 : decode cX9_least 57 = .ok (.ireturn, 1) := by decide +kernel
def m_X9_least_18 (x1 : Int32) (g : Mm) : Option (Int32 × Mm) := bdd (m_X5_mayTryAllTables  g) (fun ra1 ga2 => (if ra1 = (0 : Int32) then some ((-5 : Int32), ga2) else bdd (m_X5_leastTable  ga2) (fun ra5 ga6 => (if (0 : Int32) ≤ ra5 then bdd (m_X5_answerOf x1 ra5 ga6) (fun ra9 ga10 => some (ra9, ga10)) else some ((-2 : Int32), ga6)))))
set_option maxHeartbeats 2000000 in
theorem t_X9_least_18 {r2 : Int32} {g2 : Mm} (X : gx_X p R s m args meth c D al cI cJ A RX9 cX9_least 3 (some .int) d 0 0) (hd : 21 ≤ d) : ∀ (x1 : Int32) (g : Mm), m_X9_least_18 x1 g = some (r2, g2) → gx_G p l e R s m args below meth c (gx_Q below args s D al cI cJ A (some (.int r2)) g2) D al cI cJ A 3 0 0 18 [(0, .ref (al (0))), (1, .int (x1))] [] g := by
  intro x1 g h
  unfold m_X9_least_18 at h
  refine gx_aload_n X 0 rfl dX9_least_18 ?_
  refine gx_getf X (0) lf_X9_42 (by decide) (cl_0 _ _) (v := .ref (al (25))) rfl dX9_least_19 ?_
  obtain ⟨ra1, ga2, ca3, h⟩ := bdd_eq h
  refine gx_callNi X (25) (c_X5_mayTryAllTables ca3) lc_X5_mayTryAllTables li_X5_mayTryAllTables lm_X9_234 (by decide) (cl_25 _ _) rfl rfl rfl (Nat.le_trans (by decide) hd) rfl (Nat.le_of_ble_eq_true rfl) dX9_least_22 ?_
  refine gx_if_ne X 31 dX9_least_25 (by decide) (fun q4 => ?_) (fun q4 => ?_)
  · replace h := (if_neg q4).symm.trans h
    refine gx_aload_n X 0 rfl dX9_least_31 ?_
    refine gx_getf X (0) lf_X9_42 (by decide) (cl_0 _ _) (v := .ref (al (25))) rfl dX9_least_32 ?_
    obtain ⟨ra5, ga6, ca7, h⟩ := bdd_eq h
    refine gx_callNi X (25) (c_X5_leastTable ca7) lc_X5_leastTable li_X5_leastTable lm_X9_237 (by decide) (cl_25 _ _) rfl rfl rfl (Nat.le_trans (by decide) hd) rfl (Nat.le_of_ble_eq_true rfl) dX9_least_35 ?_
    refine gx_istore_n X [(2, .int (ra5)), (0, .ref (al (0))), (1, .int (x1))] dX9_least_38 (by decide) rfl ?_
    refine gx_iload_n X 0 rfl dX9_least_39 ?_
    refine gx_if_ge X 48 dX9_least_40 (by decide) (fun q8 => ?_) (fun q8 => ?_)
    · replace h := (if_pos q8).symm.trans h
      refine gx_aload_n X 1 rfl dX9_least_48 ?_
      refine gx_getf X (0) lf_X9_42 (by decide) (cl_0 _ _) (v := .ref (al (25))) rfl dX9_least_49 ?_
      refine gx_iload_n X 2 rfl dX9_least_52 ?_
      refine gx_iload_n X 0 rfl dX9_least_53 ?_
      obtain ⟨ra9, ga10, ca11, h⟩ := bdd_eq h
      refine gx_callNi X (25) (c_X5_answerOf ca11) lc_X5_answerOf li_X5_answerOf lm_X9_240 (by decide) (cl_25 _ _) rfl rfl rfl (Nat.le_trans (by decide) hd) rfl (Nat.le_of_ble_eq_true rfl) dX9_least_54 ?_
      obtain ⟨rfl, rfl⟩ := ret_eq h
      exact gx_iret X rfl dX9_least_57
    · replace h := (if_neg q8).symm.trans h
      refine gx_bipush X (v := (-2 : Int32)) dX9_least_43 (by decide) ?_
      refine gx_goto X 57 dX9_least_45 (by decide) ?_
      obtain ⟨rfl, rfl⟩ := ret_eq h
      exact gx_iret X rfl dX9_least_57
  · replace h := (if_pos q4).symm.trans h
    refine gx_bipush X (v := (-5 : Int32)) dX9_least_28 (by decide) ?_
    obtain ⟨rfl, rfl⟩ := ret_eq h
    exact gx_iret X rfl dX9_least_30
def m_X9_least (a1 : Int32) (g : Mm) : Option (Int32 × Mm) := (if a1 = (-1 : Int32) then m_X9_least_18 a1 g else bdd (m_X8_hasCell a1 g) (fun ra2 ga3 => (if ra2 = (0 : Int32) then some ((-1 : Int32), ga3) else m_X9_least_18 a1 ga3)))
set_option maxHeartbeats 2000000 in
theorem c_X9_least {r2 : Int32} {g g2 : Mm} {a1 : Int32} (h : m_X9_least a1 g = some (r2, g2)) : gx_M 21 yX9_least cX9_least 3 (some .int) (fun al => [.ref (al (0)), .int (a1)]) g (some (.int r2)) g2 := by
  have hd : 21 ≤ 21 := Nat.le_refl _
  refine gx_M.of (by decide +kernel) (fun _ => Nat.le_of_ble_eq_true rfl) ?_
  intro p l e R s m args below meth c D al cI cJ A X
  refine gx_eq (pc' := 0) (ls' := [(0, .ref (al (0))), (1, .int (a1))]) (st' := []) (g' := g) ⟨rfl, rfl, rfl, rfl⟩ ?_
  unfold m_X9_least at h
  refine gx_iload_n X 1 rfl dX9_least_0 ?_
  refine gx_iconst X (v := (-1 : Int32)) dX9_least_1 (by decide) ?_
  refine gx_icmp_eq X 18 dX9_least_2 (by decide) (fun q1 => ?_) (fun q1 => ?_)
  · replace h := (if_pos q1).symm.trans h
    exact gx_sub [0, 1] rfl (t_X9_least_18 X hd a1 g h)
  · replace h := (if_neg q1).symm.trans h
    refine gx_aload_n X 0 rfl dX9_least_5 ?_
    refine gx_getf X (0) lf_X9_10 (by decide) (cl_0 _ _) (v := .ref (al (1))) rfl dX9_least_6 ?_
    refine gx_iload_n X 1 rfl dX9_least_9 ?_
    obtain ⟨ra2, ga3, ca4, h⟩ := bdd_eq h
    refine gx_callNi X (1) (c_X8_hasCell ca4) lc_X8_hasCell li_X8_hasCell lm_X9_88 (by decide) (cl_1 _ _) rfl rfl rfl (Nat.le_trans (by decide) hd) rfl (Nat.le_of_ble_eq_true rfl) dX9_least_10 ?_
    refine gx_if_ne X 18 dX9_least_13 (by decide) (fun q5 => ?_) (fun q5 => ?_)
    · replace h := (if_neg q5).symm.trans h
      exact gx_sub [0, 1] rfl (t_X9_least_18 X hd a1 ga3 h)
    · replace h := (if_pos q5).symm.trans h
      refine gx_iconst X (v := (-1 : Int32)) dX9_least_16 (by decide) ?_
      obtain ⟨rfl, rfl⟩ := ret_eq h
      exact gx_iret X rfl dX9_least_17
theorem dX9_line_0 : decode cX9_line 0 = .ok (.iload_n 2, 1) := by decide +kernel
theorem dX9_line_1 : decode cX9_line 1 = .ok (.sipush 10000, 3) := by decide +kernel
theorem dX9_line_4 : decode cX9_line 4 = .ok (.idiv, 1) := by decide +kernel
theorem dX9_line_5 : decode cX9_line 5 = .ok (.istore_n 3, 1) := by decide +kernel
theorem dX9_line_6 : decode cX9_line 6 = .ok (.iload_n 2, 1) := by decide +kernel
theorem dX9_line_7 : decode cX9_line 7 = .ok (.bipush 100, 2) := by decide +kernel
theorem dX9_line_9 : decode cX9_line 9 = .ok (.idiv, 1) := by decide +kernel
theorem dX9_line_10 : decode cX9_line 10 = .ok (.bipush 100, 2) := by decide +kernel
theorem dX9_line_12 : decode cX9_line 12 = .ok (.irem, 1) := by decide +kernel
theorem dX9_line_13 : decode cX9_line 13 = .ok (.istore 4, 2) := by decide +kernel
theorem dX9_line_15 : decode cX9_line 15 = .ok (.iload_n 2, 1) := by decide +kernel
theorem dX9_line_16 : decode cX9_line 16 = .ok (.bipush 100, 2) := by decide +kernel
theorem dX9_line_18 : decode cX9_line 18 = .ok (.irem, 1) := by decide +kernel
theorem dX9_line_19 : decode cX9_line 19 = .ok (.istore 5, 2) := by decide +kernel
theorem dX9_line_21 : decode cX9_line 21 = .ok (.aload_n 0, 1) := by decide +kernel
theorem dX9_line_22 : decode cX9_line 22 = .ok (.getfield 10, 3) := by decide +kernel
theorem dX9_line_25 : decode cX9_line 25 = .ok (.iload_n 1, 1) := by decide +kernel
theorem dX9_line_26 : decode cX9_line 26 = .ok (.invokevirtual 110, 3) := by decide +kernel
theorem dX9_line_29 : decode cX9_line 29 = .ok (.ifCond .eq 26, 3) := by decide +kernel
theorem dX9_line_32 : decode cX9_line 32 = .ok (.iload_n 2, 1) := by decide +kernel
theorem dX9_line_33 : decode cX9_line 33 = .ok (.ifCond .lt 22, 3) := by decide +kernel
theorem dX9_line_36 : decode cX9_line 36 = .ok (.iload_n 3, 1) := by decide +kernel
theorem dX9_line_37 : decode cX9_line 37 = .ok (.bipush 99, 2) := by decide +kernel
theorem dX9_line_39 : decode cX9_line 39 = .ok (.if_icmp .gt 16, 3) := by decide +kernel
theorem dX9_line_42 : decode cX9_line 42 = .ok (.iload 5, 2) := by decide +kernel
theorem dX9_line_44 : decode cX9_line 44 = .ok (.iconst 2, 1) := by decide +kernel
theorem dX9_line_45 : decode cX9_line 45 = .ok (.if_icmp .lt 10, 3) := by decide +kernel
theorem dX9_line_48 : decode cX9_line 48 = .ok (.iload 5, 2) := by decide +kernel
theorem dX9_line_50 : decode cX9_line 50 = .ok (.bipush 16, 2) := by decide +kernel
theorem dX9_line_52 : decode cX9_line 52 = .ok (.if_icmp .le 5, 3) := by decide +kernel
theorem dX9_line_55 : decode cX9_line 55 = .ok (.iconst (-1), 1) := by decide +kernel
theorem dX9_line_56 : decode cX9_line 56 = .ok (.ireturn, 1) := by decide +kernel
theorem dX9_line_57 : decode cX9_line 57 = .ok (.iconst 0, 1) := by decide +kernel
theorem dX9_line_58 : decode cX9_line 58 = .ok (.istore 6, 2) := by decide +kernel
theorem dX9_line_60 : decode cX9_line 60 = .ok (.iload 6, 2) := by decide +kernel
theorem dX9_line_62 : decode cX9_line 62 = .ok (.aload_n 0, 1) := by decide +kernel
theorem dX9_line_63 : decode cX9_line 63 = .ok (.getfield 10, 3) := by decide +kernel
theorem dX9_line_66 : decode cX9_line 66 = .ok (.getfield 75, 3) := by decide +kernel
theorem dX9_line_69 : decode cX9_line 69 = .ok (.if_icmp .ge 41, 3) := by decide +kernel
theorem dX9_line_72 : decode cX9_line 72 = .ok (.aload_n 0, 1) := by decide +kernel
theorem dX9_line_73 : decode cX9_line 73 = .ok (.getfield 10, 3) := by decide +kernel
theorem dX9_line_76 : decode cX9_line 76 = .ok (.iload 6, 2) := by decide +kernel
theorem dX9_line_78 : decode cX9_line 78 = .ok (.iload_n 1, 1) := by decide +kernel
theorem dX9_line_79 : decode cX9_line 79 = .ok (.aload_n 0, 1) := by decide +kernel
theorem dX9_line_80 : decode cX9_line 80 = .ok (.getfield 10, 3) := by decide +kernel
theorem dX9_line_83 : decode cX9_line 83 = .ok (.getfield 131, 3) := by decide +kernel
theorem dX9_line_86 : decode cX9_line 86 = .ok (.iload_n 1, 1) := by decide +kernel
theorem dX9_line_87 : decode cX9_line 87 = .ok (.iaload, 1) := by decide +kernel
theorem dX9_line_88 : decode cX9_line 88 = .ok (.iload_n 3, 1) := by decide +kernel
theorem dX9_line_89 : decode cX9_line 89 = .ok (.iload 6, 2) := by decide +kernel
theorem dX9_line_91 : decode cX9_line 91 = .ok (.imul, 1) := by decide +kernel
theorem dX9_line_92 : decode cX9_line 92 = .ok (.iload 4, 2) := by decide +kernel
theorem dX9_line_94 : decode cX9_line 94 = .ok (.iadd, 1) := by decide +kernel
theorem dX9_line_95 : decode cX9_line 95 = .ok (.iload 5, 2) := by decide +kernel
theorem dX9_line_97 : decode cX9_line 97 = .ok (.irem, 1) := by decide +kernel
theorem dX9_line_98 : decode cX9_line 98 = .ok (.invokestatic 158, 3) := by decide +kernel
theorem dX9_line_101 : decode cX9_line 101 = .ok (.invokevirtual 100, 3) := by decide +kernel
theorem dX9_line_104 : decode cX9_line 104 = .ok (.iinc 6 1, 3) := by decide +kernel
theorem dX9_line_107 : decode cX9_line 107 = .ok (.goto (-47), 3) := by decide +kernel
theorem dX9_line_110 : decode cX9_line 110 = .ok (.aload_n 0, 1) := by decide +kernel
theorem dX9_line_111 : decode cX9_line 111 = .ok (.getfield 19, 3) := by decide +kernel
theorem dX9_line_114 : decode cX9_line 114 = .ok (.invokevirtual 82, 3) := by decide +kernel
theorem dX9_line_117 : decode cX9_line 117 = .ok (.aload_n 0, 1) := by decide +kernel
theorem dX9_line_118 : decode cX9_line 118 = .ok (.getfield 10, 3) := by decide +kernel
theorem dX9_line_121 : decode cX9_line 121 = .ok (.iload_n 1, 1) := by decide +kernel
theorem dX9_line_122 : decode cX9_line 122 = .ok (.invokevirtual 169, 3) := by decide +kernel
theorem dX9_line_125 : decode cX9_line 125 = .ok (.ireturn, 1) := by decide +kernel
def m_X9_line_60 : Nat → Int32 → Int32 → Int32 → Int32 → Int32 → Mm → Option (Int32 × Mm)
  | 0, _, _, _, _, _, _ => none
  | n + 1, x1, x3, x4, x5, x6, g => (if (rdI g 1 1) ≤ x6 then bdd (m_X1_forgetAll  g) (fun ra2 ga3 => bdd (m_X8_totalOfBell x1 ga3) (fun ra5 ga6 => some (ra5, ga6))) else gdd (ixo x1 6) (gdd (decide (¬ x5 = 0)) (bdd (m_J9_min_7cf53 (rdI g 2 x1.toNatClampNeg) (rmI ((x3 * x6) + x4) x5) g) (fun ra10 ga11 => bdd (m_X8_write x6 x1 ra10 ga11) (fun ra13 ga14 => m_X9_line_60 n x1 x3 x4 x5 (x6 + (1 : Int32)) ga14)))))
set_option maxHeartbeats 2000000 in
theorem t_X9_line_60 {r2 : Int32} {g2 : Mm} (X : gx_X p R s m args meth c D al cI cJ A RX9 cX9_line 7 (some .int) d 0 0) (hd : 3 ≤ d) : ∀ (n : Nat) (x1 : Int32) (x3 : Int32) (x4 : Int32) (x5 : Int32) (x6 : Int32) (g : Mm), m_X9_line_60 n x1 x3 x4 x5 x6 g = some (r2, g2) → gx_G p l e R s m args below meth c (gx_Q below args s D al cI cJ A (some (.int r2)) g2) D al cI cJ A 7 0 0 60 [(0, .ref (al (0))), (1, .int (x1)), (3, .int (x3)), (4, .int (x4)), (5, .int (x5)), (6, .int (x6))] [] g := by
  intro n
  induction n with
  | zero => intro x1 x3 x4 x5 x6 g h; cases h
  | succ n ih =>
    intro x1 x3 x4 x5 x6 g h
    rw [m_X9_line_60] at h
    refine gx_iload X 5 rfl dX9_line_60 ?_
    refine gx_aload_n X 0 rfl dX9_line_62 ?_
    refine gx_getf X (0) lf_X9_10 (by decide) (cl_0 _ _) (v := .ref (al (1))) rfl dX9_line_63 ?_
    refine gx_getn X (1) lf_X9_75 (by decide) (cl_1 _ _) (v := .int ((rdI g 1 1))) rfl dX9_line_66 ?_
    refine gx_icmp_ge X 110 dX9_line_69 (by decide) (fun q1 => ?_) (fun q1 => ?_)
    · replace h := (if_pos q1).symm.trans h
      refine gx_aload_n X 0 rfl dX9_line_110 ?_
      refine gx_getf X (0) lf_X9_19 (by decide) (cl_0 _ _) (v := .ref (al (7))) rfl dX9_line_111 ?_
      obtain ⟨ra2, ga3, ca4, h⟩ := bdd_eq h
      refine gx_callNv X (7) (c_X1_forgetAll ca4) lc_X1_forgetAll li_X1_forgetAll lm_X9_82 (by decide) (cl_7 _ _) rfl rfl rfl (Nat.le_trans (by decide) hd) rfl (Nat.le_of_ble_eq_true rfl) dX9_line_114 ?_
      refine gx_aload_n X 0 rfl dX9_line_117 ?_
      refine gx_getf X (0) lf_X9_10 (by decide) (cl_0 _ _) (v := .ref (al (1))) rfl dX9_line_118 ?_
      refine gx_iload_n X 1 rfl dX9_line_121 ?_
      obtain ⟨ra5, ga6, ca7, h⟩ := bdd_eq h
      refine gx_callNi X (1) (c_X8_totalOfBell ca7) lc_X8_totalOfBell li_X8_totalOfBell lm_X9_169 (by decide) (cl_1 _ _) rfl rfl rfl (Nat.le_trans (by decide) hd) rfl (Nat.le_of_ble_eq_true rfl) dX9_line_122 ?_
      obtain ⟨rfl, rfl⟩ := ret_eq h
      exact gx_iret X rfl dX9_line_125
    · replace h := (if_neg q1).symm.trans h
      refine gx_aload_n X 0 rfl dX9_line_72 ?_
      refine gx_getf X (0) lf_X9_10 (by decide) (cl_0 _ _) (v := .ref (al (1))) rfl dX9_line_73 ?_
      refine gx_iload X 5 rfl dX9_line_76 ?_
      refine gx_iload_n X 1 rfl dX9_line_78 ?_
      refine gx_aload_n X 0 rfl dX9_line_79 ?_
      refine gx_getf X (0) lf_X9_10 (by decide) (cl_0 _ _) (v := .ref (al (1))) rfl dX9_line_80 ?_
      refine gx_getn X (1) lf_X9_131 (by decide) (cl_1 _ _) (v := .ref (al (2))) rfl dX9_line_83 ?_
      refine gx_iload_n X 1 rfl dX9_line_86 ?_
      obtain ⟨q8, h⟩ := gdd_eq h
      refine gx_iald X (2) 6 (by decide) (cl_2 _ _) q8 dX9_line_87 ?_
      refine gx_iload_n X 2 rfl dX9_line_88 ?_
      refine gx_iload X 5 rfl dX9_line_89 ?_
      refine gx_imul X dX9_line_91 ?_
      refine gx_iload X 3 rfl dX9_line_92 ?_
      refine gx_iadd X dX9_line_94 ?_
      refine gx_iload X 4 rfl dX9_line_95 ?_
      obtain ⟨q9, h⟩ := gdd_eq h
      refine gx_irem X dX9_line_97 (of_decide_eq_true q9) ?_
      obtain ⟨ra10, ga11, ca12, h⟩ := bdd_eq h
      refine gx_callSi X (c_J9_min_7cf53 ca12) lc_J9_min_7cf53 li_J9_min_7cf53 lm_X9_158 rfl rfl (Nat.le_trans (by decide) hd) rfl (Nat.le_of_ble_eq_true rfl) dX9_line_98 ?_
      obtain ⟨ra13, ga14, ca15, h⟩ := bdd_eq h
      refine gx_callNv X (1) (c_X8_write ca15) lc_X8_write li_X8_write lm_X9_100 (by decide) (cl_1 _ _) rfl rfl rfl (Nat.le_trans (by decide) hd) rfl (Nat.le_of_ble_eq_true rfl) dX9_line_101 ?_
      refine gx_iinc X [(6, .int ((x6 + (1 : Int32)))), (0, .ref (al (0))), (1, .int (x1)), (3, .int (x3)), (4, .int (x4)), (5, .int (x5))] 5 dX9_line_104 rfl rfl (by decide) rfl ?_
      refine gx_goto X 60 dX9_line_107 (by decide) ?_
      exact gx_sub [1, 2, 3, 4, 5, 0] rfl (ih x1 x3 x4 x5 (x6 + (1 : Int32)) ga14 h)
def m_X9_line (a1 : Int32) (a2 : Int32) (g : Mm) : Option (Int32 × Mm) := bdd (m_X8_hasBell a1 g) (fun ra1 ga2 => (if ra1 = (0 : Int32) then some ((-1 : Int32), ga2) else (if a2 < (0 : Int32) then some ((-1 : Int32), ga2) else (if (99 : Int32) < (a2 / (10000 : Int32)) then some ((-1 : Int32), ga2) else (if (rmI a2 (100 : Int32)) < (2 : Int32) then some ((-1 : Int32), ga2) else (if (rmI a2 (100 : Int32)) ≤ (16 : Int32) then m_X9_line_60 fuL a1 (a2 / (10000 : Int32)) (rmI (a2 / (100 : Int32)) (100 : Int32)) (rmI a2 (100 : Int32)) (0 : Int32) ga2 else some ((-1 : Int32), ga2)))))))
set_option maxHeartbeats 2000000 in
theorem c_X9_line {r2 : Int32} {g g2 : Mm} {a1 : Int32} {a2 : Int32} (h : m_X9_line a1 a2 g = some (r2, g2)) : gx_M 3 yX9_line cX9_line 7 (some .int) (fun al => [.ref (al (0)), .int (a1), .int (a2)]) g (some (.int r2)) g2 := by
  have hd : 3 ≤ 3 := Nat.le_refl _
  refine gx_M.of (by decide +kernel) (fun _ => Nat.le_of_ble_eq_true rfl) ?_
  intro p l e R s m args below meth c D al cI cJ A X
  refine gx_eq (pc' := 0) (ls' := [(0, .ref (al (0))), (1, .int (a1)), (2, .int (a2))]) (st' := []) (g' := g) ⟨rfl, rfl, rfl, rfl⟩ ?_
  unfold m_X9_line at h
  refine gx_iload_n X 2 rfl dX9_line_0 ?_
  refine gx_sipush X (v := (10000 : Int32)) dX9_line_1 (by decide) ?_
  refine gx_idiv X dX9_line_4 (by decide) ?_
  refine gx_istore_n X [(3, .int ((a2 / (10000 : Int32)))), (0, .ref (al (0))), (1, .int (a1)), (2, .int (a2))] dX9_line_5 (by decide) rfl ?_
  refine gx_iload_n X 3 rfl dX9_line_6 ?_
  refine gx_bipush X (v := (100 : Int32)) dX9_line_7 (by decide) ?_
  refine gx_idiv X dX9_line_9 (by decide) ?_
  refine gx_bipush X (v := (100 : Int32)) dX9_line_10 (by decide) ?_
  refine gx_irem X dX9_line_12 (by decide) ?_
  refine gx_istore X [(4, .int ((rmI (a2 / (100 : Int32)) (100 : Int32)))), (3, .int ((a2 / (10000 : Int32)))), (0, .ref (al (0))), (1, .int (a1)), (2, .int (a2))] dX9_line_13 (by decide) rfl ?_
  refine gx_iload_n X 4 rfl dX9_line_15 ?_
  refine gx_bipush X (v := (100 : Int32)) dX9_line_16 (by decide) ?_
  refine gx_irem X dX9_line_18 (by decide) ?_
  refine gx_istore X [(5, .int ((rmI a2 (100 : Int32)))), (4, .int ((rmI (a2 / (100 : Int32)) (100 : Int32)))), (3, .int ((a2 / (10000 : Int32)))), (0, .ref (al (0))), (1, .int (a1)), (2, .int (a2))] dX9_line_19 (by decide) rfl ?_
  refine gx_aload_n X 3 rfl dX9_line_21 ?_
  refine gx_getf X (0) lf_X9_10 (by decide) (cl_0 _ _) (v := .ref (al (1))) rfl dX9_line_22 ?_
  refine gx_iload_n X 4 rfl dX9_line_25 ?_
  obtain ⟨ra1, ga2, ca3, h⟩ := bdd_eq h
  refine gx_callNi X (1) (c_X8_hasBell ca3) lc_X8_hasBell li_X8_hasBell lm_X9_110 (by decide) (cl_1 _ _) rfl rfl rfl (Nat.le_trans (by decide) hd) rfl (Nat.le_of_ble_eq_true rfl) dX9_line_26 ?_
  refine gx_if_eq X 55 dX9_line_29 (by decide) (fun q4 => ?_) (fun q4 => ?_)
  · replace h := (if_pos q4).symm.trans h
    refine gx_iconst X (v := (-1 : Int32)) dX9_line_55 (by decide) ?_
    obtain ⟨rfl, rfl⟩ := ret_eq h
    exact gx_iret X rfl dX9_line_56
  · replace h := (if_neg q4).symm.trans h
    refine gx_iload_n X 5 rfl dX9_line_32 ?_
    refine gx_if_lt X 55 dX9_line_33 (by decide) (fun q5 => ?_) (fun q5 => ?_)
    · replace h := (if_pos q5).symm.trans h
      refine gx_iconst X (v := (-1 : Int32)) dX9_line_55 (by decide) ?_
      obtain ⟨rfl, rfl⟩ := ret_eq h
      exact gx_iret X rfl dX9_line_56
    · replace h := (if_neg q5).symm.trans h
      refine gx_iload_n X 2 rfl dX9_line_36 ?_
      refine gx_bipush X (v := (99 : Int32)) dX9_line_37 (by decide) ?_
      refine gx_icmp_gt X 55 dX9_line_39 (by decide) (fun q6 => ?_) (fun q6 => ?_)
      · replace h := (if_pos q6).symm.trans h
        refine gx_iconst X (v := (-1 : Int32)) dX9_line_55 (by decide) ?_
        obtain ⟨rfl, rfl⟩ := ret_eq h
        exact gx_iret X rfl dX9_line_56
      · replace h := (if_neg q6).symm.trans h
        refine gx_iload X 0 rfl dX9_line_42 ?_
        refine gx_iconst X (v := (2 : Int32)) dX9_line_44 (by decide) ?_
        refine gx_icmp_lt X 55 dX9_line_45 (by decide) (fun q7 => ?_) (fun q7 => ?_)
        · replace h := (if_pos q7).symm.trans h
          refine gx_iconst X (v := (-1 : Int32)) dX9_line_55 (by decide) ?_
          obtain ⟨rfl, rfl⟩ := ret_eq h
          exact gx_iret X rfl dX9_line_56
        · replace h := (if_neg q7).symm.trans h
          refine gx_iload X 0 rfl dX9_line_48 ?_
          refine gx_bipush X (v := (16 : Int32)) dX9_line_50 (by decide) ?_
          refine gx_icmp_le X 57 dX9_line_52 (by decide) (fun q8 => ?_) (fun q8 => ?_)
          · replace h := (if_pos q8).symm.trans h
            refine gx_iconst X (v := (0 : Int32)) dX9_line_57 (by decide) ?_
            refine gx_istore X [(6, .int ((0 : Int32))), (5, .int ((rmI a2 (100 : Int32)))), (4, .int ((rmI (a2 / (100 : Int32)) (100 : Int32)))), (3, .int ((a2 / (10000 : Int32)))), (0, .ref (al (0))), (1, .int (a1)), (2, .int (a2))] dX9_line_58 (by decide) rfl ?_
            exact gx_sub [4, 5, 3, 2, 1, 0] rfl (t_X9_line_60 X hd fuL a1 (a2 / (10000 : Int32)) (rmI (a2 / (100 : Int32)) (100 : Int32)) (rmI a2 (100 : Int32)) (0 : Int32) ga2 h)
          · replace h := (if_neg q8).symm.trans h
            refine gx_iconst X (v := (-1 : Int32)) dX9_line_55 (by decide) ?_
            obtain ⟨rfl, rfl⟩ := ret_eq h
            exact gx_iret X rfl dX9_line_56
theorem dX9_mix_0 : decode cX9_mix 0 = .ok (.aload_n 0, 1) := by decide +kernel
theorem dX9_mix_1 : decode cX9_mix 1 = .ok (.getfield 10, 3) := by decide +kernel
theorem dX9_mix_4 : decode cX9_mix 4 = .ok (.iload_n 1, 1) := by decide +kernel
theorem dX9_mix_5 : decode cX9_mix 5 = .ok (.invokevirtual 135, 3) := by decide +kernel
theorem dX9_mix_8 : decode cX9_mix 8 = .ok (.ifCond .eq 12, 3) := by decide +kernel
theorem dX9_mix_11 : decode cX9_mix 11 = .ok (.iload_n 2, 1) := by decide +kernel
theorem dX9_mix_12 : decode cX9_mix 12 = .ok (.ifCond .lt 8, 3) := by decide +kernel
theorem dX9_mix_15 : decode cX9_mix 15 = .ok (.iload_n 2, 1) := by decide +kernel
theorem dX9_mix_16 : decode cX9_mix 16 = .ok (.iconst 1, 1) := by decide +kernel
theorem dX9_mix_17 : decode cX9_mix 17 = .ok (.if_icmp .le 5, 3) := by decide +kernel
theorem dX9_mix_20 : decode cX9_mix 20 = .ok (.iconst (-1), 1) := by decide +kernel
theorem dX9_mix_21 : decode cX9_mix 21 = .ok (.ireturn, 1) := by decide +kernel
theorem dX9_mix_22 : decode cX9_mix 22 = .ok (.aload_n 0, 1) := by decide +kernel
theorem dX9_mix_23 : decode cX9_mix 23 = .ok (.getfield 10, 3) := by decide +kernel
theorem dX9_mix_26 : decode cX9_mix 26 = .ok (.iload_n 1, 1) := by decide +kernel
theorem dX9_mix_27 : decode cX9_mix 27 = .ok (.bipush 100, 2) := by decide +kernel
theorem dX9_mix_29 : decode cX9_mix 29 = .ok (.idiv, 1) := by decide +kernel
theorem dX9_mix_30 : decode cX9_mix 30 = .ok (.iload_n 1, 1) := by decide +kernel
theorem dX9_mix_31 : decode cX9_mix 31 = .ok (.bipush 100, 2) := by decide +kernel
theorem dX9_mix_33 : decode cX9_mix 33 = .ok (.irem, 1) := by decide +kernel
theorem dX9_mix_34 : decode cX9_mix 34 = .ok (.invokevirtual 138, 3) := by decide +kernel
theorem dX9_mix_37 : decode cX9_mix 37 = .ok (.ifCond .eq 7, 3) := by decide +kernel
theorem dX9_mix_40 : decode cX9_mix 40 = .ok (.iconst 1, 1) := by decide +kernel
theorem dX9_mix_41 : decode cX9_mix 41 = .ok (.goto 4, 3) := by decide +kernel
theorem dX9_mix_44 : decode cX9_mix 44 = .ok (.iconst 0, 1) := by decide +kernel
theorem dX9_mix_45 : decode cX9_mix 45 = .ok (.istore_n 3, 1) := by decide +kernel
theorem dX9_mix_46 : decode cX9_mix 46 = .ok (.aload_n 0, 1) := by decide +kernel
theorem dX9_mix_47 : decode cX9_mix 47 = .ok (.getfield 10, 3) := by decide +kernel
theorem dX9_mix_50 : decode cX9_mix 50 = .ok (.iload_n 1, 1) := by decide +kernel
theorem dX9_mix_51 : decode cX9_mix 51 = .ok (.bipush 100, 2) := by decide +kernel
theorem dX9_mix_53 : decode cX9_mix 53 = .ok (.idiv, 1) := by decide +kernel
theorem dX9_mix_54 : decode cX9_mix 54 = .ok (.iload_n 1, 1) := by decide +kernel
theorem dX9_mix_55 : decode cX9_mix 55 = .ok (.bipush 100, 2) := by decide +kernel
theorem dX9_mix_57 : decode cX9_mix 57 = .ok (.irem, 1) := by decide +kernel
theorem dX9_mix_58 : decode cX9_mix 58 = .ok (.iload_n 2, 1) := by decide +kernel
theorem dX9_mix_59 : decode cX9_mix 59 = .ok (.iconst 1, 1) := by decide +kernel
theorem dX9_mix_60 : decode cX9_mix 60 = .ok (.if_icmp .ne 7, 3) := by decide +kernel
theorem dX9_mix_63 : decode cX9_mix 63 = .ok (.iconst 1, 1) := by decide +kernel
theorem dX9_mix_64 : decode cX9_mix 64 = .ok (.goto 4, 3) := by decide +kernel
theorem dX9_mix_67 : decode cX9_mix 67 = .ok (.iconst 0, 1) := by decide +kernel
theorem dX9_mix_68 : decode cX9_mix 68 = .ok (.invokevirtual 141, 3) := by decide +kernel
theorem dX9_mix_71 : decode cX9_mix 71 = .ok (.iload_n 3, 1) := by decide +kernel
theorem dX9_mix_72 : decode cX9_mix 72 = .ok (.ireturn, 1) := by decide +kernel
def m_X9_mix_68 (x3 : Int32) (k0 : Int32) (k1 : Int32) (k2 : Int32) (g : Mm) : Option (Int32 × Mm) := bdd (m_X8_makeMixed k2 k1 k0 g) (fun ra1 ga2 => some (x3, ga2))
set_option maxHeartbeats 2000000 in
theorem t_X9_mix_68 {r2 : Int32} {g2 : Mm} (X : gx_X p R s m args meth c D al cI cJ A RX9 cX9_mix 4 (some .int) d 0 0) (hd : 3 ≤ d) : ∀ (x3 : Int32) (k0 : Int32) (k1 : Int32) (k2 : Int32) (g : Mm), m_X9_mix_68 x3 k0 k1 k2 g = some (r2, g2) → gx_G p l e R s m args below meth c (gx_Q below args s D al cI cJ A (some (.int r2)) g2) D al cI cJ A 4 0 0 68 [(3, .int (x3))] [.int (k0), .int (k1), .int (k2), .ref (al (1))] g := by
  intro x3 k0 k1 k2 g h
  unfold m_X9_mix_68 at h
  obtain ⟨ra1, ga2, ca3, h⟩ := bdd_eq h
  refine gx_callNv X (1) (c_X8_makeMixed ca3) lc_X8_makeMixed li_X8_makeMixed lm_X9_141 (by decide) (cl_1 _ _) rfl rfl rfl (Nat.le_trans (by decide) hd) rfl (Nat.le_of_ble_eq_true rfl) dX9_mix_68 ?_
  refine gx_iload_n X 0 rfl dX9_mix_71 ?_
  obtain ⟨rfl, rfl⟩ := ret_eq h
  exact gx_iret X rfl dX9_mix_72
def m_X9_mix_45 (x1 : Int32) (x2 : Int32) (k0 : Int32) (g : Mm) : Option (Int32 × Mm) := (if x2 = (1 : Int32) then m_X9_mix_68 k0 (1 : Int32) (rmI x1 (100 : Int32)) (x1 / (100 : Int32)) g else m_X9_mix_68 k0 (0 : Int32) (rmI x1 (100 : Int32)) (x1 / (100 : Int32)) g)
set_option maxHeartbeats 2000000 in
theorem t_X9_mix_45 {r2 : Int32} {g2 : Mm} (X : gx_X p R s m args meth c D al cI cJ A RX9 cX9_mix 4 (some .int) d 0 0) (hd : 3 ≤ d) : ∀ (x1 : Int32) (x2 : Int32) (k0 : Int32) (g : Mm), m_X9_mix_45 x1 x2 k0 g = some (r2, g2) → gx_G p l e R s m args below meth c (gx_Q below args s D al cI cJ A (some (.int r2)) g2) D al cI cJ A 4 0 0 45 [(0, .ref (al (0))), (1, .int (x1)), (2, .int (x2))] [.int (k0)] g := by
  intro x1 x2 k0 g h
  unfold m_X9_mix_45 at h
  refine gx_istore_n X [(3, .int (k0)), (0, .ref (al (0))), (1, .int (x1)), (2, .int (x2))] dX9_mix_45 (by decide) rfl ?_
  refine gx_aload_n X 1 rfl dX9_mix_46 ?_
  refine gx_getf X (0) lf_X9_10 (by decide) (cl_0 _ _) (v := .ref (al (1))) rfl dX9_mix_47 ?_
  refine gx_iload_n X 2 rfl dX9_mix_50 ?_
  refine gx_bipush X (v := (100 : Int32)) dX9_mix_51 (by decide) ?_
  refine gx_idiv X dX9_mix_53 (by decide) ?_
  refine gx_iload_n X 2 rfl dX9_mix_54 ?_
  refine gx_bipush X (v := (100 : Int32)) dX9_mix_55 (by decide) ?_
  refine gx_irem X dX9_mix_57 (by decide) ?_
  refine gx_iload_n X 3 rfl dX9_mix_58 ?_
  refine gx_iconst X (v := (1 : Int32)) dX9_mix_59 (by decide) ?_
  refine gx_icmp_ne X 67 dX9_mix_60 (by decide) (fun q1 => ?_) (fun q1 => ?_)
  · replace h := (if_neg q1).symm.trans h
    refine gx_iconst X (v := (0 : Int32)) dX9_mix_67 (by decide) ?_
    exact gx_sub [0] rfl (t_X9_mix_68 X hd k0 (0 : Int32) (rmI x1 (100 : Int32)) (x1 / (100 : Int32)) g h)
  · replace h := (if_pos q1).symm.trans h
    refine gx_iconst X (v := (1 : Int32)) dX9_mix_63 (by decide) ?_
    refine gx_goto X 68 dX9_mix_64 (by decide) ?_
    exact gx_sub [0] rfl (t_X9_mix_68 X hd k0 (1 : Int32) (rmI x1 (100 : Int32)) (x1 / (100 : Int32)) g h)
def m_X9_mix (a1 : Int32) (a2 : Int32) (g : Mm) : Option (Int32 × Mm) := bdd (m_X8_hasPair a1 g) (fun ra1 ga2 => (if ra1 = (0 : Int32) then some ((-1 : Int32), ga2) else (if a2 < (0 : Int32) then some ((-1 : Int32), ga2) else (if a2 ≤ (1 : Int32) then bdd (m_X8_areMixed (a1 / (100 : Int32)) (rmI a1 (100 : Int32)) ga2) (fun ra7 ga8 => (if ra7 = (0 : Int32) then m_X9_mix_45 a1 a2 (0 : Int32) ga8 else m_X9_mix_45 a1 a2 (1 : Int32) ga8)) else some ((-1 : Int32), ga2)))))
set_option maxHeartbeats 2000000 in
theorem c_X9_mix {r2 : Int32} {g g2 : Mm} {a1 : Int32} {a2 : Int32} (h : m_X9_mix a1 a2 g = some (r2, g2)) : gx_M 3 yX9_mix cX9_mix 4 (some .int) (fun al => [.ref (al (0)), .int (a1), .int (a2)]) g (some (.int r2)) g2 := by
  have hd : 3 ≤ 3 := Nat.le_refl _
  refine gx_M.of (by decide +kernel) (fun _ => Nat.le_of_ble_eq_true rfl) ?_
  intro p l e R s m args below meth c D al cI cJ A X
  refine gx_eq (pc' := 0) (ls' := [(0, .ref (al (0))), (1, .int (a1)), (2, .int (a2))]) (st' := []) (g' := g) ⟨rfl, rfl, rfl, rfl⟩ ?_
  unfold m_X9_mix at h
  refine gx_aload_n X 0 rfl dX9_mix_0 ?_
  refine gx_getf X (0) lf_X9_10 (by decide) (cl_0 _ _) (v := .ref (al (1))) rfl dX9_mix_1 ?_
  refine gx_iload_n X 1 rfl dX9_mix_4 ?_
  obtain ⟨ra1, ga2, ca3, h⟩ := bdd_eq h
  refine gx_callNi X (1) (c_X8_hasPair ca3) lc_X8_hasPair li_X8_hasPair lm_X9_135 (by decide) (cl_1 _ _) rfl rfl rfl (Nat.le_trans (by decide) hd) rfl (Nat.le_of_ble_eq_true rfl) dX9_mix_5 ?_
  refine gx_if_eq X 20 dX9_mix_8 (by decide) (fun q4 => ?_) (fun q4 => ?_)
  · replace h := (if_pos q4).symm.trans h
    refine gx_iconst X (v := (-1 : Int32)) dX9_mix_20 (by decide) ?_
    obtain ⟨rfl, rfl⟩ := ret_eq h
    exact gx_iret X rfl dX9_mix_21
  · replace h := (if_neg q4).symm.trans h
    refine gx_iload_n X 2 rfl dX9_mix_11 ?_
    refine gx_if_lt X 20 dX9_mix_12 (by decide) (fun q5 => ?_) (fun q5 => ?_)
    · replace h := (if_pos q5).symm.trans h
      refine gx_iconst X (v := (-1 : Int32)) dX9_mix_20 (by decide) ?_
      obtain ⟨rfl, rfl⟩ := ret_eq h
      exact gx_iret X rfl dX9_mix_21
    · replace h := (if_neg q5).symm.trans h
      refine gx_iload_n X 2 rfl dX9_mix_15 ?_
      refine gx_iconst X (v := (1 : Int32)) dX9_mix_16 (by decide) ?_
      refine gx_icmp_le X 22 dX9_mix_17 (by decide) (fun q6 => ?_) (fun q6 => ?_)
      · replace h := (if_pos q6).symm.trans h
        refine gx_aload_n X 0 rfl dX9_mix_22 ?_
        refine gx_getf X (0) lf_X9_10 (by decide) (cl_0 _ _) (v := .ref (al (1))) rfl dX9_mix_23 ?_
        refine gx_iload_n X 1 rfl dX9_mix_26 ?_
        refine gx_bipush X (v := (100 : Int32)) dX9_mix_27 (by decide) ?_
        refine gx_idiv X dX9_mix_29 (by decide) ?_
        refine gx_iload_n X 1 rfl dX9_mix_30 ?_
        refine gx_bipush X (v := (100 : Int32)) dX9_mix_31 (by decide) ?_
        refine gx_irem X dX9_mix_33 (by decide) ?_
        obtain ⟨ra7, ga8, ca9, h⟩ := bdd_eq h
        refine gx_callNi X (1) (c_X8_areMixed ca9) lc_X8_areMixed li_X8_areMixed lm_X9_138 (by decide) (cl_1 _ _) rfl rfl rfl (Nat.le_trans (by decide) hd) rfl (Nat.le_of_ble_eq_true rfl) dX9_mix_34 ?_
        refine gx_if_eq X 44 dX9_mix_37 (by decide) (fun q10 => ?_) (fun q10 => ?_)
        · replace h := (if_pos q10).symm.trans h
          refine gx_iconst X (v := (0 : Int32)) dX9_mix_44 (by decide) ?_
          exact gx_sub [0, 1, 2] rfl (t_X9_mix_45 X hd a1 a2 (0 : Int32) ga8 h)
        · replace h := (if_neg q10).symm.trans h
          refine gx_iconst X (v := (1 : Int32)) dX9_mix_40 (by decide) ?_
          refine gx_goto X 45 dX9_mix_41 (by decide) ?_
          exact gx_sub [0, 1, 2] rfl (t_X9_mix_45 X hd a1 a2 (1 : Int32) ga8 h)
      · replace h := (if_neg q6).symm.trans h
        refine gx_iconst X (v := (-1 : Int32)) dX9_mix_20 (by decide) ?_
        obtain ⟨rfl, rfl⟩ := ret_eq h
        exact gx_iret X rfl dX9_mix_21
theorem dX9_most_0 : decode cX9_most 0 = .ok (.aload_n 0, 1) := by decide +kernel
theorem dX9_most_1 : decode cX9_most 1 = .ok (.getfield 10, 3) := by decide +kernel
theorem dX9_most_4 : decode cX9_most 4 = .ok (.iload_n 1, 1) := by decide +kernel
theorem dX9_most_5 : decode cX9_most 5 = .ok (.invokevirtual 110, 3) := by decide +kernel
theorem dX9_most_8 : decode cX9_most 8 = .ok (.ifCond .eq 26, 3) := by decide +kernel
theorem dX9_most_11 : decode cX9_most 11 = .ok (.iload_n 2, 1) := by decide +kernel
theorem dX9_most_12 : decode cX9_most 12 = .ok (.iconst 1, 1) := by decide +kernel
theorem dX9_most_13 : decode cX9_most 13 = .ok (.if_icmp .lt 21, 3) := by decide +kernel
theorem dX9_most_16 : decode cX9_most 16 = .ok (.iload_n 2, 1) := by decide +kernel
theorem dX9_most_17 : decode cX9_most 17 = .ok (.bipush 15, 2) := by decide +kernel
theorem dX9_most_19 : decode cX9_most 19 = .ok (.if_icmp .gt 15, 3) := by decide +kernel
theorem dX9_most_22 : decode cX9_most 22 = .ok (.iload_n 2, 1) := by decide +kernel
theorem dX9_most_23 : decode cX9_most 23 = .ok (.aload_n 0, 1) := by decide +kernel
theorem dX9_most_24 : decode cX9_most 24 = .ok (.getfield 10, 3) := by decide +kernel
theorem dX9_most_27 : decode cX9_most 27 = .ok (.iload_n 1, 1) := by decide +kernel
theorem dX9_most_28 : decode cX9_most 28 = .ok (.invokevirtual 127, 3) := by decide +kernel
theorem dX9_most_31 : decode cX9_most 31 = .ok (.if_icmp .ge 5, 3) := by decide +kernel
theorem dX9_most_34 : decode cX9_most 34 = .ok (.iconst (-1), 1) := by decide +kernel
theorem dX9_most_35 : decode cX9_most 35 = .ok (.ireturn, 1) := by decide +kernel
theorem dX9_most_36 : decode cX9_most 36 = .ok (.aload_n 0, 1) := by decide +kernel
theorem dX9_most_37 : decode cX9_most 37 = .ok (.getfield 10, 3) := by decide +kernel
theorem dX9_most_40 : decode cX9_most 40 = .ok (.getfield 131, 3) := by decide +kernel
theorem dX9_most_43 : decode cX9_most 43 = .ok (.iload_n 1, 1) := by decide +kernel
theorem dX9_most_44 : decode cX9_most 44 = .ok (.iaload, 1) := by decide +kernel
theorem dX9_most_45 : decode cX9_most 45 = .ok (.istore_n 3, 1) := by decide +kernel
theorem dX9_most_46 : decode cX9_most 46 = .ok (.iload_n 2, 1) := by decide +kernel
theorem dX9_most_47 : decode cX9_most 47 = .ok (.iload_n 3, 1) := by decide +kernel
theorem dX9_most_48 : decode cX9_most 48 = .ok (.if_icmp .eq 27, 3) := by decide +kernel
theorem dX9_most_51 : decode cX9_most 51 = .ok (.aload_n 0, 1) := by decide +kernel
theorem dX9_most_52 : decode cX9_most 52 = .ok (.getfield 10, 3) := by decide +kernel
theorem dX9_most_55 : decode cX9_most 55 = .ok (.getfield 131, 3) := by decide +kernel
theorem dX9_most_58 : decode cX9_most 58 = .ok (.iload_n 1, 1) := by decide +kernel
theorem dX9_most_59 : decode cX9_most 59 = .ok (.iload_n 2, 1) := by decide +kernel
theorem dX9_most_60 : decode cX9_most 60 = .ok (.iastore, 1) := by decide +kernel
theorem dX9_most_61 : decode cX9_most 61 = .ok (.aload_n 0, 1) := by decide +kernel
theorem dX9_most_62 : decode cX9_most 62 = .ok (.getfield 19, 3) := by decide +kernel
theorem dX9_most_65 : decode cX9_most 65 = .ok (.sipush 1000, 3) := by decide +kernel
theorem dX9_most_68 : decode cX9_most 68 = .ok (.iload_n 1, 1) := by decide +kernel
theorem dX9_most_69 : decode cX9_most 69 = .ok (.iadd, 1) := by decide +kernel
theorem dX9_most_70 : decode cX9_most 70 = .ok (.iload_n 3, 1) := by decide +kernel
theorem dX9_most_71 : decode cX9_most 71 = .ok (.iload_n 2, 1) := by decide +kernel
theorem dX9_most_72 : decode cX9_most 72 = .ok (.invokevirtual 104, 3) := by decide +kernel
theorem dX9_most_75 : decode cX9_most 75 = .ok (.iload_n 3, 1) := by decide +kernel
theorem dX9_most_76 : decode cX9_most 76 = .ok (.ireturn, 1) := by decide +kernel
def m_X9_most (a1 : Int32) (a2 : Int32) (g : Mm) : Option (Int32 × Mm) := bdd (m_X8_hasBell a1 g) (fun ra1 ga2 => (if ra1 = (0 : Int32) then some ((-1 : Int32), ga2) else (if a2 < (1 : Int32) then some ((-1 : Int32), ga2) else (if (15 : Int32) < a2 then some ((-1 : Int32), ga2) else bdd (m_X8_greatestOf a1 ga2) (fun ra7 ga8 => (if ra7 ≤ a2 then gdd (ixo a1 6) ((if a2 = (rdI ga8 2 a1.toNatClampNeg) then some ((rdI ga8 2 a1.toNatClampNeg), ga8) else gdd (ixo a1 6) (bdd (m_X1_note ((1000 : Int32) + a1) (rdI ga8 2 a1.toNatClampNeg) a2 (wrI ga8 2 a1.toNatClampNeg a2)) (fun ra14 ga15 => some ((rdI ga8 2 a1.toNatClampNeg), ga15))))) else some ((-1 : Int32), ga8)))))))
set_option maxHeartbeats 2000000 in
theorem c_X9_most {r2 : Int32} {g g2 : Mm} {a1 : Int32} {a2 : Int32} (h : m_X9_most a1 a2 g = some (r2, g2)) : gx_M 3 yX9_most cX9_most 4 (some .int) (fun al => [.ref (al (0)), .int (a1), .int (a2)]) g (some (.int r2)) g2 := by
  have hd : 3 ≤ 3 := Nat.le_refl _
  refine gx_M.of (by decide +kernel) (fun _ => Nat.le_of_ble_eq_true rfl) ?_
  intro p l e R s m args below meth c D al cI cJ A X
  refine gx_eq (pc' := 0) (ls' := [(0, .ref (al (0))), (1, .int (a1)), (2, .int (a2))]) (st' := []) (g' := g) ⟨rfl, rfl, rfl, rfl⟩ ?_
  unfold m_X9_most at h
  refine gx_aload_n X 0 rfl dX9_most_0 ?_
  refine gx_getf X (0) lf_X9_10 (by decide) (cl_0 _ _) (v := .ref (al (1))) rfl dX9_most_1 ?_
  refine gx_iload_n X 1 rfl dX9_most_4 ?_
  obtain ⟨ra1, ga2, ca3, h⟩ := bdd_eq h
  refine gx_callNi X (1) (c_X8_hasBell ca3) lc_X8_hasBell li_X8_hasBell lm_X9_110 (by decide) (cl_1 _ _) rfl rfl rfl (Nat.le_trans (by decide) hd) rfl (Nat.le_of_ble_eq_true rfl) dX9_most_5 ?_
  refine gx_if_eq X 34 dX9_most_8 (by decide) (fun q4 => ?_) (fun q4 => ?_)
  · replace h := (if_pos q4).symm.trans h
    refine gx_iconst X (v := (-1 : Int32)) dX9_most_34 (by decide) ?_
    obtain ⟨rfl, rfl⟩ := ret_eq h
    exact gx_iret X rfl dX9_most_35
  · replace h := (if_neg q4).symm.trans h
    refine gx_iload_n X 2 rfl dX9_most_11 ?_
    refine gx_iconst X (v := (1 : Int32)) dX9_most_12 (by decide) ?_
    refine gx_icmp_lt X 34 dX9_most_13 (by decide) (fun q5 => ?_) (fun q5 => ?_)
    · replace h := (if_pos q5).symm.trans h
      refine gx_iconst X (v := (-1 : Int32)) dX9_most_34 (by decide) ?_
      obtain ⟨rfl, rfl⟩ := ret_eq h
      exact gx_iret X rfl dX9_most_35
    · replace h := (if_neg q5).symm.trans h
      refine gx_iload_n X 2 rfl dX9_most_16 ?_
      refine gx_bipush X (v := (15 : Int32)) dX9_most_17 (by decide) ?_
      refine gx_icmp_gt X 34 dX9_most_19 (by decide) (fun q6 => ?_) (fun q6 => ?_)
      · replace h := (if_pos q6).symm.trans h
        refine gx_iconst X (v := (-1 : Int32)) dX9_most_34 (by decide) ?_
        obtain ⟨rfl, rfl⟩ := ret_eq h
        exact gx_iret X rfl dX9_most_35
      · replace h := (if_neg q6).symm.trans h
        refine gx_iload_n X 2 rfl dX9_most_22 ?_
        refine gx_aload_n X 0 rfl dX9_most_23 ?_
        refine gx_getf X (0) lf_X9_10 (by decide) (cl_0 _ _) (v := .ref (al (1))) rfl dX9_most_24 ?_
        refine gx_iload_n X 1 rfl dX9_most_27 ?_
        obtain ⟨ra7, ga8, ca9, h⟩ := bdd_eq h
        refine gx_callNi X (1) (c_X8_greatestOf ca9) lc_X8_greatestOf li_X8_greatestOf lm_X9_127 (by decide) (cl_1 _ _) rfl rfl rfl (Nat.le_trans (by decide) hd) rfl (Nat.le_of_ble_eq_true rfl) dX9_most_28 ?_
        refine gx_icmp_ge X 36 dX9_most_31 (by decide) (fun q10 => ?_) (fun q10 => ?_)
        · replace h := (if_pos q10).symm.trans h
          refine gx_aload_n X 0 rfl dX9_most_36 ?_
          refine gx_getf X (0) lf_X9_10 (by decide) (cl_0 _ _) (v := .ref (al (1))) rfl dX9_most_37 ?_
          refine gx_getn X (1) lf_X9_131 (by decide) (cl_1 _ _) (v := .ref (al (2))) rfl dX9_most_40 ?_
          refine gx_iload_n X 1 rfl dX9_most_43 ?_
          obtain ⟨q11, h⟩ := gdd_eq h
          refine gx_iald X (2) 6 (by decide) (cl_2 _ _) q11 dX9_most_44 ?_
          refine gx_istore_n X [(3, .int ((rdI ga8 2 a1.toNatClampNeg))), (0, .ref (al (0))), (1, .int (a1)), (2, .int (a2))] dX9_most_45 (by decide) rfl ?_
          refine gx_iload_n X 3 rfl dX9_most_46 ?_
          refine gx_iload_n X 0 rfl dX9_most_47 ?_
          refine gx_icmp_eq X 75 dX9_most_48 (by decide) (fun q12 => ?_) (fun q12 => ?_)
          · replace h := (if_pos q12).symm.trans h
            refine gx_iload_n X 0 rfl dX9_most_75 ?_
            obtain ⟨rfl, rfl⟩ := ret_eq h
            exact gx_iret X rfl dX9_most_76
          · replace h := (if_neg q12).symm.trans h
            refine gx_aload_n X 1 rfl dX9_most_51 ?_
            refine gx_getf X (0) lf_X9_10 (by decide) (cl_0 _ _) (v := .ref (al (1))) rfl dX9_most_52 ?_
            refine gx_getn X (1) lf_X9_131 (by decide) (cl_1 _ _) (v := .ref (al (2))) rfl dX9_most_55 ?_
            refine gx_iload_n X 2 rfl dX9_most_58 ?_
            refine gx_iload_n X 3 rfl dX9_most_59 ?_
            obtain ⟨q13, h⟩ := gdd_eq h
            refine gx_iast X (2) 6 (by decide) (fun r => cl_2 r _) q13 dX9_most_60 ?_
            refine gx_aload_n X 1 rfl dX9_most_61 ?_
            refine gx_getf X (0) lf_X9_19 (by decide) (cl_0 _ _) (v := .ref (al (7))) rfl dX9_most_62 ?_
            refine gx_sipush X (v := (1000 : Int32)) dX9_most_65 (by decide) ?_
            refine gx_iload_n X 2 rfl dX9_most_68 ?_
            refine gx_iadd X dX9_most_69 ?_
            refine gx_iload_n X 0 rfl dX9_most_70 ?_
            refine gx_iload_n X 3 rfl dX9_most_71 ?_
            obtain ⟨ra14, ga15, ca16, h⟩ := bdd_eq h
            refine gx_callNv X (7) (c_X1_note ca16) lc_X1_note li_X1_note lm_X9_104 (by decide) (cl_7 _ _) rfl rfl rfl (Nat.le_trans (by decide) hd) rfl (Nat.le_of_ble_eq_true rfl) dX9_most_72 ?_
            refine gx_iload_n X 0 rfl dX9_most_75 ?_
            obtain ⟨rfl, rfl⟩ := ret_eq h
            exact gx_iret X rfl dX9_most_76
        · replace h := (if_neg q10).symm.trans h
          refine gx_iconst X (v := (-1 : Int32)) dX9_most_34 (by decide) ?_
          obtain ⟨rfl, rfl⟩ := ret_eq h
          exact gx_iret X rfl dX9_most_35
theorem dX9_night_0 : decode cX9_night 0 = .ok (.iload_n 1, 1) := by decide +kernel
theorem dX9_night_1 : decode cX9_night 1 = .ok (.ifCond .lt 8, 3) := by decide +kernel
theorem dX9_night_4 : decode cX9_night 4 = .ok (.iload_n 1, 1) := by decide +kernel
theorem dX9_night_5 : decode cX9_night 5 = .ok (.iconst 1, 1) := by decide +kernel
theorem dX9_night_6 : decode cX9_night 6 = .ok (.if_icmp .le 5, 3) := by decide +kernel
theorem dX9_night_9 : decode cX9_night 9 = .ok (.iconst (-1), 1) := by decide +kernel
theorem dX9_night_10 : decode cX9_night 10 = .ok (.ireturn, 1) := by decide +kernel
theorem dX9_night_11 : decode cX9_night 11 = .ok (.iload_n 1, 1) := by decide +kernel
theorem dX9_night_12 : decode cX9_night 12 = .ok (.ifCond .ne 13, 3) := by decide +kernel
theorem dX9_night_15 : decode cX9_night 15 = .ok (.aload_n 0, 1) := by decide +kernel
theorem dX9_night_16 : decode cX9_night 16 = .ok (.getfield 49, 3) := by decide +kernel
theorem dX9_night_19 : decode cX9_night 19 = .ok (.iconst 0, 1) := by decide +kernel
theorem dX9_night_20 : decode cX9_night 20 = .ok (.putfield 255, 3) := by decide +kernel
theorem dX9_night_23 : decode cX9_night 23 = .ok (.iconst 0, 1) := by decide +kernel
theorem dX9_night_24 : decode cX9_night 24 = .ok (.ireturn, 1) := by decide +kernel
theorem dX9_night_25 : decode cX9_night 25 = .ok (.aload_n 0, 1) := by decide +kernel
theorem dX9_night_26 : decode cX9_night 26 = .ok (.getfield 49, 3) := by decide +kernel
theorem dX9_night_29 : decode cX9_night 29 = .ok (.invokevirtual 258, 3) := by decide +kernel
theorem dX9_night_32 : decode cX9_night 32 = .ok (.ifCond .eq 13, 3) := by decide +kernel
theorem dX9_night_35 : decode cX9_night 35 = .ok (.aload_n 0, 1) := by decide +kernel
theorem dX9_night_36 : decode cX9_night 36 = .ok (.getfield 49, 3) := by decide +kernel
theorem dX9_night_39 : decode cX9_night 39 = .ok (.getfield 255, 3) := by decide +kernel
theorem dX9_night_42 : decode cX9_night 42 = .ok (.goto 5, 3) := by decide +kernel
theorem dX9_night_45 : decode cX9_night 45 = .ok (.bipush (-3), 2) := by decide +kernel
theorem dX9_night_47 : decode cX9_night 47 = .ok (.ireturn, 1) := by decide +kernel
def m_X9_night (a1 : Int32) (g : Mm) : Option (Int32 × Mm) := (if a1 < (0 : Int32) then some ((-1 : Int32), g) else (if a1 ≤ (1 : Int32) then (if a1 = (0 : Int32) then some ((0 : Int32), (wrI g 29 4 (0 : Int32))) else bdd (m_X2_keepTold  g) (fun ra4 ga5 => (if ra4 = (0 : Int32) then some ((-3 : Int32), ga5) else some ((rdI ga5 29 4), ga5)))) else some ((-1 : Int32), g)))
set_option maxHeartbeats 2000000 in
theorem c_X9_night {r2 : Int32} {g g2 : Mm} {a1 : Int32} (h : m_X9_night a1 g = some (r2, g2)) : gx_M 3 yX9_night cX9_night 2 (some .int) (fun al => [.ref (al (0)), .int (a1)]) g (some (.int r2)) g2 := by
  have hd : 3 ≤ 3 := Nat.le_refl _
  refine gx_M.of (by decide +kernel) (fun _ => Nat.le_of_ble_eq_true rfl) ?_
  intro p l e R s m args below meth c D al cI cJ A X
  refine gx_eq (pc' := 0) (ls' := [(0, .ref (al (0))), (1, .int (a1))]) (st' := []) (g' := g) ⟨rfl, rfl, rfl, rfl⟩ ?_
  unfold m_X9_night at h
  refine gx_iload_n X 1 rfl dX9_night_0 ?_
  refine gx_if_lt X 9 dX9_night_1 (by decide) (fun q1 => ?_) (fun q1 => ?_)
  · replace h := (if_pos q1).symm.trans h
    refine gx_iconst X (v := (-1 : Int32)) dX9_night_9 (by decide) ?_
    obtain ⟨rfl, rfl⟩ := ret_eq h
    exact gx_iret X rfl dX9_night_10
  · replace h := (if_neg q1).symm.trans h
    refine gx_iload_n X 1 rfl dX9_night_4 ?_
    refine gx_iconst X (v := (1 : Int32)) dX9_night_5 (by decide) ?_
    refine gx_icmp_le X 11 dX9_night_6 (by decide) (fun q2 => ?_) (fun q2 => ?_)
    · replace h := (if_pos q2).symm.trans h
      refine gx_iload_n X 1 rfl dX9_night_11 ?_
      refine gx_if_ne X 25 dX9_night_12 (by decide) (fun q3 => ?_) (fun q3 => ?_)
      · replace h := (if_neg q3).symm.trans h
        refine gx_aload_n X 0 rfl dX9_night_25 ?_
        refine gx_getf X (0) lf_X9_49 (by decide) (cl_0 _ _) (v := .ref (al (29))) rfl dX9_night_26 ?_
        obtain ⟨ra4, ga5, ca6, h⟩ := bdd_eq h
        refine gx_callNi X (29) (c_X2_keepTold ca6) lc_X2_keepTold li_X2_keepTold lm_X9_258 (by decide) (cl_29 _ _) rfl rfl rfl (Nat.le_trans (by decide) hd) rfl (Nat.le_of_ble_eq_true rfl) dX9_night_29 ?_
        refine gx_if_eq X 45 dX9_night_32 (by decide) (fun q7 => ?_) (fun q7 => ?_)
        · replace h := (if_pos q7).symm.trans h
          refine gx_bipush X (v := (-3 : Int32)) dX9_night_45 (by decide) ?_
          obtain ⟨rfl, rfl⟩ := ret_eq h
          exact gx_iret X rfl dX9_night_47
        · replace h := (if_neg q7).symm.trans h
          refine gx_aload_n X 0 rfl dX9_night_35 ?_
          refine gx_getf X (0) lf_X9_49 (by decide) (cl_0 _ _) (v := .ref (al (29))) rfl dX9_night_36 ?_
          refine gx_getn X (29) lf_X9_255 (by decide) (cl_29 _ _) (v := .int ((rdI ga5 29 4))) rfl dX9_night_39 ?_
          refine gx_goto X 47 dX9_night_42 (by decide) ?_
          obtain ⟨rfl, rfl⟩ := ret_eq h
          exact gx_iret X rfl dX9_night_47
      · replace h := (if_pos q3).symm.trans h
        refine gx_aload_n X 0 rfl dX9_night_15 ?_
        refine gx_getf X (0) lf_X9_49 (by decide) (cl_0 _ _) (v := .ref (al (29))) rfl dX9_night_16 ?_
        refine gx_iconst X (v := (0 : Int32)) dX9_night_19 (by decide) ?_
        refine gx_putn X (29) (0 : Int32) lf_X9_255 lp_X2_4 (by decide) (cl_29 _ _) (Nat.le_of_ble_eq_true rfl) rfl rfl rfl dX9_night_20 ?_
        refine gx_iconst X (v := (0 : Int32)) dX9_night_23 (by decide) ?_
        obtain ⟨rfl, rfl⟩ := ret_eq h
        exact gx_iret X rfl dX9_night_24
    · replace h := (if_neg q2).symm.trans h
      refine gx_iconst X (v := (-1 : Int32)) dX9_night_9 (by decide) ?_
      obtain ⟨rfl, rfl⟩ := ret_eq h
      exact gx_iret X rfl dX9_night_10
theorem dX9_odds_0 : decode cX9_odds 0 = .ok (.iload_n 1, 1) := by decide +kernel
theorem dX9_odds_1 : decode cX9_odds 1 = .ok (.iconst (-1), 1) := by decide +kernel
theorem dX9_odds_2 : decode cX9_odds 2 = .ok (.if_icmp .lt 23, 3) := by decide +kernel
theorem dX9_odds_5 : decode cX9_odds 5 = .ok (.iload_n 1, 1) := by decide +kernel
theorem dX9_odds_6 : decode cX9_odds 6 = .ok (.aload_n 0, 1) := by decide +kernel
theorem dX9_odds_7 : decode cX9_odds 7 = .ok (.getfield 10, 3) := by decide +kernel
theorem dX9_odds_10 : decode cX9_odds 10 = .ok (.getfield 75, 3) := by decide +kernel
theorem dX9_odds_13 : decode cX9_odds 13 = .ok (.if_icmp .ge 12, 3) := by decide +kernel
theorem dX9_odds_16 : decode cX9_odds 16 = .ok (.iload_n 2, 1) := by decide +kernel
theorem dX9_odds_17 : decode cX9_odds 17 = .ok (.ifCond .lt 8, 3) := by decide +kernel
theorem dX9_odds_20 : decode cX9_odds 20 = .ok (.iload_n 2, 1) := by decide +kernel
theorem dX9_odds_21 : decode cX9_odds 21 = .ok (.iconst 1, 1) := by decide +kernel
theorem dX9_odds_22 : decode cX9_odds 22 = .ok (.if_icmp .le 7, 3) := by decide +kernel
theorem dX9_odds_25 : decode cX9_odds 25 = .ok (.ldc2_w 229, 3) := by decide +kernel
theorem dX9_odds_28 : decode cX9_odds 28 = .ok (.lreturn, 1) := by decide +kernel
theorem dX9_odds_29 : decode cX9_odds 29 = .ok (.aload_n 0, 1) := by decide +kernel
theorem dX9_odds_30 : decode cX9_odds 30 = .ok (.getfield 35, 3) := by decide +kernel
theorem dX9_odds_33 : decode cX9_odds 33 = .ok (.iload_n 1, 1) := by decide +kernel
theorem dX9_odds_34 : decode cX9_odds 34 = .ok (.iload_n 2, 1) := by decide +kernel
theorem dX9_odds_35 : decode cX9_odds 35 = .ok (.invokevirtual 231, 3) := by decide +kernel
theorem dX9_odds_38 : decode cX9_odds 38 = .ok (.lreturn, 1) := by decide +kernel
def m_X9_odds (a1 : Int32) (a2 : Int32) (g : Mm) : Option (Int64 × Mm) := (if a1 < (-1 : Int32) then some ((-9223372036854775808 : Int64), g) else (if (rdI g 1 1) ≤ a1 then some ((-9223372036854775808 : Int64), g) else (if a2 < (0 : Int32) then some ((-9223372036854775808 : Int64), g) else (if a2 ≤ (1 : Int32) then bdd (m_X7_chanceInLowestTerms a1 a2 g) (fun ra5 ga6 => some (ra5, ga6)) else some ((-9223372036854775808 : Int64), g)))))
set_option maxHeartbeats 2000000 in
theorem c_X9_odds {r2 : Int64} {g g2 : Mm} {a1 : Int32} {a2 : Int32} (h : m_X9_odds a1 a2 g = some (r2, g2)) : gx_M 7 yX9_odds cX9_odds 3 (some .long) (fun al => [.ref (al (0)), .int (a1), .int (a2)]) g (some (.long r2)) g2 := by
  have hd : 7 ≤ 7 := Nat.le_refl _
  refine gx_M.of (by decide +kernel) (fun _ => Nat.le_of_ble_eq_true rfl) ?_
  intro p l e R s m args below meth c D al cI cJ A X
  refine gx_eq (pc' := 0) (ls' := [(0, .ref (al (0))), (1, .int (a1)), (2, .int (a2))]) (st' := []) (g' := g) ⟨rfl, rfl, rfl, rfl⟩ ?_
  unfold m_X9_odds at h
  refine gx_iload_n X 1 rfl dX9_odds_0 ?_
  refine gx_iconst X (v := (-1 : Int32)) dX9_odds_1 (by decide) ?_
  refine gx_icmp_lt X 25 dX9_odds_2 (by decide) (fun q1 => ?_) (fun q1 => ?_)
  · replace h := (if_pos q1).symm.trans h
    refine gx_ldc2 X (v := (-9223372036854775808 : Int64)) lk_X9_229 dX9_odds_25 ?_
    obtain ⟨rfl, rfl⟩ := ret_eq h
    exact gx_lret X dX9_odds_28
  · replace h := (if_neg q1).symm.trans h
    refine gx_iload_n X 1 rfl dX9_odds_5 ?_
    refine gx_aload_n X 0 rfl dX9_odds_6 ?_
    refine gx_getf X (0) lf_X9_10 (by decide) (cl_0 _ _) (v := .ref (al (1))) rfl dX9_odds_7 ?_
    refine gx_getn X (1) lf_X9_75 (by decide) (cl_1 _ _) (v := .int ((rdI g 1 1))) rfl dX9_odds_10 ?_
    refine gx_icmp_ge X 25 dX9_odds_13 (by decide) (fun q2 => ?_) (fun q2 => ?_)
    · replace h := (if_pos q2).symm.trans h
      refine gx_ldc2 X (v := (-9223372036854775808 : Int64)) lk_X9_229 dX9_odds_25 ?_
      obtain ⟨rfl, rfl⟩ := ret_eq h
      exact gx_lret X dX9_odds_28
    · replace h := (if_neg q2).symm.trans h
      refine gx_iload_n X 2 rfl dX9_odds_16 ?_
      refine gx_if_lt X 25 dX9_odds_17 (by decide) (fun q3 => ?_) (fun q3 => ?_)
      · replace h := (if_pos q3).symm.trans h
        refine gx_ldc2 X (v := (-9223372036854775808 : Int64)) lk_X9_229 dX9_odds_25 ?_
        obtain ⟨rfl, rfl⟩ := ret_eq h
        exact gx_lret X dX9_odds_28
      · replace h := (if_neg q3).symm.trans h
        refine gx_iload_n X 2 rfl dX9_odds_20 ?_
        refine gx_iconst X (v := (1 : Int32)) dX9_odds_21 (by decide) ?_
        refine gx_icmp_le X 29 dX9_odds_22 (by decide) (fun q4 => ?_) (fun q4 => ?_)
        · replace h := (if_pos q4).symm.trans h
          refine gx_aload_n X 0 rfl dX9_odds_29 ?_
          refine gx_getf X (0) lf_X9_35 (by decide) (cl_0 _ _) (v := .ref (al (23))) rfl dX9_odds_30 ?_
          refine gx_iload_n X 1 rfl dX9_odds_33 ?_
          refine gx_iload_n X 2 rfl dX9_odds_34 ?_
          obtain ⟨ra5, ga6, ca7, h⟩ := bdd_eq h
          refine gx_callNl X (23) (c_X7_chanceInLowestTerms ca7) lc_X7_chanceInLowestTerms li_X7_chanceInLowestTerms lm_X9_231 (by decide) (cl_23 _ _) rfl rfl rfl (Nat.le_trans (by decide) hd) rfl (Nat.le_of_ble_eq_true rfl) dX9_odds_35 ?_
          obtain ⟨rfl, rfl⟩ := ret_eq h
          exact gx_lret X dX9_odds_38
        · replace h := (if_neg q4).symm.trans h
          refine gx_ldc2 X (v := (-9223372036854775808 : Int64)) lk_X9_229 dX9_odds_25 ?_
          obtain ⟨rfl, rfl⟩ := ret_eq h
          exact gx_lret X dX9_odds_28
theorem dX9_of_0 : decode cX9_of 0 = .ok (.iload_n 2, 1) := by decide +kernel
theorem dX9_of_1 : decode cX9_of 1 = .ok (.lookupswitch 194 #[(0, 51), (1, 76), (2, 101), (10, 126), (20, 157)], 51) := by decide +kernel
theorem dX9_of_52 : decode cX9_of 52 = .ok (.aload_n 0, 1) := by decide +kernel
theorem dX9_of_53 : decode cX9_of 53 = .ok (.getfield 10, 3) := by decide +kernel
theorem dX9_of_56 : decode cX9_of 56 = .ok (.iload_n 1, 1) := by decide +kernel
theorem dX9_of_57 : decode cX9_of 57 = .ok (.invokevirtual 110, 3) := by decide +kernel
theorem dX9_of_60 : decode cX9_of 60 = .ok (.ifCond .eq 15, 3) := by decide +kernel
theorem dX9_of_63 : decode cX9_of 63 = .ok (.aload_n 0, 1) := by decide +kernel
theorem dX9_of_64 : decode cX9_of 64 = .ok (.getfield 10, 3) := by decide +kernel
theorem dX9_of_67 : decode cX9_of 67 = .ok (.getfield 131, 3) := by decide +kernel
theorem dX9_of_70 : decode cX9_of 70 = .ok (.iload_n 1, 1) := by decide +kernel
theorem dX9_of_71 : decode cX9_of 71 = .ok (.iaload, 1) := by decide +kernel
theorem dX9_of_72 : decode cX9_of 72 = .ok (.goto 4, 3) := by decide +kernel
theorem dX9_of_75 : decode cX9_of 75 = .ok (.iconst (-1), 1) := by decide +kernel
theorem dX9_of_76 : decode cX9_of 76 = .ok (.ireturn, 1) := by decide +kernel
theorem dX9_of_77 : decode cX9_of 77 = .ok (.aload_n 0, 1) := by decide +kernel
theorem dX9_of_78 : decode cX9_of 78 = .ok (.getfield 10, 3) := by decide +kernel
theorem dX9_of_81 : decode cX9_of 81 = .ok (.iload_n 1, 1) := by decide +kernel
theorem dX9_of_82 : decode cX9_of 82 = .ok (.invokevirtual 110, 3) := by decide +kernel
theorem dX9_of_85 : decode cX9_of 85 = .ok (.ifCond .eq 15, 3) := by decide +kernel
theorem dX9_of_88 : decode cX9_of 88 = .ok (.aload_n 0, 1) := by decide +kernel
theorem dX9_of_89 : decode cX9_of 89 = .ok (.getfield 10, 3) := by decide +kernel
theorem dX9_of_92 : decode cX9_of 92 = .ok (.getfield 172, 3) := by decide +kernel
theorem dX9_of_95 : decode cX9_of 95 = .ok (.iload_n 1, 1) := by decide +kernel
theorem dX9_of_96 : decode cX9_of 96 = .ok (.iaload, 1) := by decide +kernel
theorem dX9_of_97 : decode cX9_of 97 = .ok (.goto 4, 3) := by decide +kernel
theorem dX9_of_100 : decode cX9_of 100 = .ok (.iconst (-1), 1) := by decide +kernel
theorem dX9_of_101 : decode cX9_of 101 = .ok (.ireturn, 1) := by decide +kernel
theorem dX9_of_102 : decode cX9_of 102 = .ok (.aload_n 0, 1) := by decide +kernel
theorem dX9_of_103 : decode cX9_of 103 = .ok (.getfield 10, 3) := by decide +kernel
theorem dX9_of_106 : decode cX9_of 106 = .ok (.iload_n 1, 1) := by decide +kernel
theorem dX9_of_107 : decode cX9_of 107 = .ok (.invokevirtual 110, 3) := by decide +kernel
theorem dX9_of_110 : decode cX9_of 110 = .ok (.ifCond .eq 15, 3) := by decide +kernel
theorem dX9_of_113 : decode cX9_of 113 = .ok (.aload_n 0, 1) := by decide +kernel
theorem dX9_of_114 : decode cX9_of 114 = .ok (.getfield 10, 3) := by decide +kernel
theorem dX9_of_117 : decode cX9_of 117 = .ok (.getfield 175, 3) := by decide +kernel
theorem dX9_of_120 : decode cX9_of 120 = .ok (.iload_n 1, 1) := by decide +kernel
theorem dX9_of_121 : decode cX9_of 121 = .ok (.iaload, 1) := by decide +kernel
theorem dX9_of_122 : decode cX9_of 122 = .ok (.goto 4, 3) := by decide +kernel
theorem dX9_of_125 : decode cX9_of 125 = .ok (.iconst (-1), 1) := by decide +kernel
theorem dX9_of_126 : decode cX9_of 126 = .ok (.ireturn, 1) := by decide +kernel
theorem dX9_of_127 : decode cX9_of 127 = .ok (.aload_n 0, 1) := by decide +kernel
theorem dX9_of_128 : decode cX9_of 128 = .ok (.getfield 10, 3) := by decide +kernel
theorem dX9_of_131 : decode cX9_of 131 = .ok (.iload_n 1, 1) := by decide +kernel
theorem dX9_of_132 : decode cX9_of 132 = .ok (.invokevirtual 88, 3) := by decide +kernel
theorem dX9_of_135 : decode cX9_of 135 = .ok (.ifCond .eq 21, 3) := by decide +kernel
theorem dX9_of_138 : decode cX9_of 138 = .ok (.aload_n 0, 1) := by decide +kernel
theorem dX9_of_139 : decode cX9_of 139 = .ok (.getfield 10, 3) := by decide +kernel
theorem dX9_of_142 : decode cX9_of 142 = .ok (.iload_n 1, 1) := by decide +kernel
theorem dX9_of_143 : decode cX9_of 143 = .ok (.bipush 10, 2) := by decide +kernel
theorem dX9_of_145 : decode cX9_of 145 = .ok (.idiv, 1) := by decide +kernel
theorem dX9_of_146 : decode cX9_of 146 = .ok (.iload_n 1, 1) := by decide +kernel
theorem dX9_of_147 : decode cX9_of 147 = .ok (.bipush 10, 2) := by decide +kernel
theorem dX9_of_149 : decode cX9_of 149 = .ok (.irem, 1) := by decide +kernel
theorem dX9_of_150 : decode cX9_of 150 = .ok (.invokevirtual 96, 3) := by decide +kernel
theorem dX9_of_153 : decode cX9_of 153 = .ok (.goto 4, 3) := by decide +kernel
theorem dX9_of_156 : decode cX9_of 156 = .ok (.iconst (-1), 1) := by decide +kernel
theorem dX9_of_157 : decode cX9_of 157 = .ok (.ireturn, 1) := by decide +kernel
theorem dX9_of_158 : decode cX9_of 158 = .ok (.aload_n 0, 1) := by decide +kernel
theorem dX9_of_159 : decode cX9_of 159 = .ok (.getfield 10, 3) := by decide +kernel
theorem dX9_of_162 : decode cX9_of 162 = .ok (.iload_n 1, 1) := by decide +kernel
theorem dX9_of_163 : decode cX9_of 163 = .ok (.invokevirtual 135, 3) := by decide +kernel
theorem dX9_of_166 : decode cX9_of 166 = .ok (.ifCond .ne 5, 3) := by decide +kernel
theorem dX9_of_169 : decode cX9_of 169 = .ok (.iconst (-1), 1) := by decide +kernel
theorem dX9_of_170 : decode cX9_of 170 = .ok (.ireturn, 1) := by decide +kernel
theorem dX9_of_171 : decode cX9_of 171 = .ok (.aload_n 0, 1) := by decide +kernel
theorem dX9_of_172 : decode cX9_of 172 = .ok (.getfield 10, 3) := by decide +kernel
theorem dX9_of_175 : decode cX9_of 175 = .ok (.iload_n 1, 1) := by decide +kernel
theorem dX9_of_176 : decode cX9_of 176 = .ok (.bipush 100, 2) := by decide +kernel
theorem dX9_of_178 : decode cX9_of 178 = .ok (.idiv, 1) := by decide +kernel
theorem dX9_of_179 : decode cX9_of 179 = .ok (.iload_n 1, 1) := by decide +kernel
theorem dX9_of_180 : decode cX9_of 180 = .ok (.bipush 100, 2) := by decide +kernel
theorem dX9_of_182 : decode cX9_of 182 = .ok (.irem, 1) := by decide +kernel
theorem dX9_of_183 : decode cX9_of 183 = .ok (.invokevirtual 138, 3) := by decide +kernel
theorem dX9_of_186 : decode cX9_of 186 = .ok (.ifCond .eq 7, 3) := by decide +kernel
theorem dX9_of_189 : decode cX9_of 189 = .ok (.iconst 1, 1) := by decide +kernel
theorem dX9_of_190 : decode cX9_of 190 = .ok (.goto 4, 3) := by decide +kernel
theorem dX9_of_193 : decode cX9_of 193 = .ok (.iconst 0, 1) := by decide +kernel
theorem dX9_of_194 : decode cX9_of 194 = .ok (.ireturn, 1) := by decide +kernel
theorem dX9_of_195 : decode cX9_of 195 = .ok (.iconst (-1), 1) := by decide +kernel
theorem dX9_of_196 : decode cX9_of 196 = .ok (.ireturn, 1) := by decide +kernel
def m_X9_of (a1 : Int32) (a2 : Int32) (g : Mm) : Option (Int32 × Mm) := (if a2 = (0 : Int32) then bdd (m_X8_hasBell a1 g) (fun ra2 ga3 => (if ra2 = (0 : Int32) then some ((-1 : Int32), ga3) else gdd (ixo a1 6) (some ((rdI ga3 2 a1.toNatClampNeg), ga3)))) else if a2 = (1 : Int32) then bdd (m_X8_hasBell a1 g) (fun ra8 ga9 => (if ra8 = (0 : Int32) then some ((-1 : Int32), ga9) else gdd (ixo a1 6) (some ((rdI ga9 3 a1.toNatClampNeg), ga9)))) else if a2 = (2 : Int32) then bdd (m_X8_hasBell a1 g) (fun ra14 ga15 => (if ra14 = (0 : Int32) then some ((-1 : Int32), ga15) else gdd (ixo a1 6) (some ((rdI ga15 4 a1.toNatClampNeg), ga15)))) else if a2 = (10 : Int32) then bdd (m_X8_hasCell a1 g) (fun ra20 ga21 => (if ra20 = (0 : Int32) then some ((-1 : Int32), ga21) else bdd (m_X8_struck (a1 / (10 : Int32)) (rmI a1 (10 : Int32)) ga21) (fun ra24 ga25 => some (ra24, ga25)))) else if a2 = (20 : Int32) then bdd (m_X8_hasPair a1 g) (fun ra28 ga29 => (if ra28 = (0 : Int32) then some ((-1 : Int32), ga29) else bdd (m_X8_areMixed (a1 / (100 : Int32)) (rmI a1 (100 : Int32)) ga29) (fun ra32 ga33 => (if ra32 = (0 : Int32) then some ((0 : Int32), ga33) else some ((1 : Int32), ga33))))) else some ((-1 : Int32), g))
set_option maxHeartbeats 2000000 in
theorem c_X9_of {r2 : Int32} {g g2 : Mm} {a1 : Int32} {a2 : Int32} (h : m_X9_of a1 a2 g = some (r2, g2)) : gx_M 3 yX9_of cX9_of 3 (some .int) (fun al => [.ref (al (0)), .int (a1), .int (a2)]) g (some (.int r2)) g2 := by
  have hd : 3 ≤ 3 := Nat.le_refl _
  refine gx_M.of (by decide +kernel) (fun _ => Nat.le_of_ble_eq_true rfl) ?_
  intro p l e R s m args below meth c D al cI cJ A X
  refine gx_eq (pc' := 0) (ls' := [(0, .ref (al (0))), (1, .int (a1)), (2, .int (a2))]) (st' := []) (g' := g) ⟨rfl, rfl, rfl, rfl⟩ ?_
  unfold m_X9_of at h
  refine gx_iload_n X 2 rfl dX9_of_0 ?_
  by_cases q1 : a2 = (0 : Int32)
  · replace h := (if_pos q1).symm.trans h
    refine gx_look (off := 51) 52 X dX9_of_1 (by decide) (by rw [q1] <;> rfl) (by decide) ?_
    refine gx_aload_n X 0 rfl dX9_of_52 ?_
    refine gx_getf X (0) lf_X9_10 (by decide) (cl_0 _ _) (v := .ref (al (1))) rfl dX9_of_53 ?_
    refine gx_iload_n X 1 rfl dX9_of_56 ?_
    obtain ⟨ra2, ga3, ca4, h⟩ := bdd_eq h
    refine gx_callNi X (1) (c_X8_hasBell ca4) lc_X8_hasBell li_X8_hasBell lm_X9_110 (by decide) (cl_1 _ _) rfl rfl rfl (Nat.le_trans (by decide) hd) rfl (Nat.le_of_ble_eq_true rfl) dX9_of_57 ?_
    refine gx_if_eq X 75 dX9_of_60 (by decide) (fun q5 => ?_) (fun q5 => ?_)
    · replace h := (if_pos q5).symm.trans h
      refine gx_iconst X (v := (-1 : Int32)) dX9_of_75 (by decide) ?_
      obtain ⟨rfl, rfl⟩ := ret_eq h
      exact gx_iret X rfl dX9_of_76
    · replace h := (if_neg q5).symm.trans h
      refine gx_aload_n X 0 rfl dX9_of_63 ?_
      refine gx_getf X (0) lf_X9_10 (by decide) (cl_0 _ _) (v := .ref (al (1))) rfl dX9_of_64 ?_
      refine gx_getn X (1) lf_X9_131 (by decide) (cl_1 _ _) (v := .ref (al (2))) rfl dX9_of_67 ?_
      refine gx_iload_n X 1 rfl dX9_of_70 ?_
      obtain ⟨q6, h⟩ := gdd_eq h
      refine gx_iald X (2) 6 (by decide) (cl_2 _ _) q6 dX9_of_71 ?_
      refine gx_goto X 76 dX9_of_72 (by decide) ?_
      obtain ⟨rfl, rfl⟩ := ret_eq h
      exact gx_iret X rfl dX9_of_76
  · replace h := (if_neg q1).symm.trans h
    by_cases q7 : a2 = (1 : Int32)
    · replace h := (if_pos q7).symm.trans h
      refine gx_look (off := 76) 77 X dX9_of_1 (by decide) ((lv_osw q1 (by decide)).trans (by rw [q7] <;> rfl)) (by decide) ?_
      refine gx_aload_n X 0 rfl dX9_of_77 ?_
      refine gx_getf X (0) lf_X9_10 (by decide) (cl_0 _ _) (v := .ref (al (1))) rfl dX9_of_78 ?_
      refine gx_iload_n X 1 rfl dX9_of_81 ?_
      obtain ⟨ra8, ga9, ca10, h⟩ := bdd_eq h
      refine gx_callNi X (1) (c_X8_hasBell ca10) lc_X8_hasBell li_X8_hasBell lm_X9_110 (by decide) (cl_1 _ _) rfl rfl rfl (Nat.le_trans (by decide) hd) rfl (Nat.le_of_ble_eq_true rfl) dX9_of_82 ?_
      refine gx_if_eq X 100 dX9_of_85 (by decide) (fun q11 => ?_) (fun q11 => ?_)
      · replace h := (if_pos q11).symm.trans h
        refine gx_iconst X (v := (-1 : Int32)) dX9_of_100 (by decide) ?_
        obtain ⟨rfl, rfl⟩ := ret_eq h
        exact gx_iret X rfl dX9_of_101
      · replace h := (if_neg q11).symm.trans h
        refine gx_aload_n X 0 rfl dX9_of_88 ?_
        refine gx_getf X (0) lf_X9_10 (by decide) (cl_0 _ _) (v := .ref (al (1))) rfl dX9_of_89 ?_
        refine gx_getn X (1) lf_X9_172 (by decide) (cl_1 _ _) (v := .ref (al (3))) rfl dX9_of_92 ?_
        refine gx_iload_n X 1 rfl dX9_of_95 ?_
        obtain ⟨q12, h⟩ := gdd_eq h
        refine gx_iald X (3) 6 (by decide) (cl_3 _ _) q12 dX9_of_96 ?_
        refine gx_goto X 101 dX9_of_97 (by decide) ?_
        obtain ⟨rfl, rfl⟩ := ret_eq h
        exact gx_iret X rfl dX9_of_101
    · replace h := (if_neg q7).symm.trans h
      by_cases q13 : a2 = (2 : Int32)
      · replace h := (if_pos q13).symm.trans h
        refine gx_look (off := 101) 102 X dX9_of_1 (by decide) ((lv_osw q1 (by decide)).trans ((lv_osw q7 (by decide)).trans (by rw [q13] <;> rfl))) (by decide) ?_
        refine gx_aload_n X 0 rfl dX9_of_102 ?_
        refine gx_getf X (0) lf_X9_10 (by decide) (cl_0 _ _) (v := .ref (al (1))) rfl dX9_of_103 ?_
        refine gx_iload_n X 1 rfl dX9_of_106 ?_
        obtain ⟨ra14, ga15, ca16, h⟩ := bdd_eq h
        refine gx_callNi X (1) (c_X8_hasBell ca16) lc_X8_hasBell li_X8_hasBell lm_X9_110 (by decide) (cl_1 _ _) rfl rfl rfl (Nat.le_trans (by decide) hd) rfl (Nat.le_of_ble_eq_true rfl) dX9_of_107 ?_
        refine gx_if_eq X 125 dX9_of_110 (by decide) (fun q17 => ?_) (fun q17 => ?_)
        · replace h := (if_pos q17).symm.trans h
          refine gx_iconst X (v := (-1 : Int32)) dX9_of_125 (by decide) ?_
          obtain ⟨rfl, rfl⟩ := ret_eq h
          exact gx_iret X rfl dX9_of_126
        · replace h := (if_neg q17).symm.trans h
          refine gx_aload_n X 0 rfl dX9_of_113 ?_
          refine gx_getf X (0) lf_X9_10 (by decide) (cl_0 _ _) (v := .ref (al (1))) rfl dX9_of_114 ?_
          refine gx_getn X (1) lf_X9_175 (by decide) (cl_1 _ _) (v := .ref (al (4))) rfl dX9_of_117 ?_
          refine gx_iload_n X 1 rfl dX9_of_120 ?_
          obtain ⟨q18, h⟩ := gdd_eq h
          refine gx_iald X (4) 6 (by decide) (cl_4 _ _) q18 dX9_of_121 ?_
          refine gx_goto X 126 dX9_of_122 (by decide) ?_
          obtain ⟨rfl, rfl⟩ := ret_eq h
          exact gx_iret X rfl dX9_of_126
      · replace h := (if_neg q13).symm.trans h
        by_cases q19 : a2 = (10 : Int32)
        · replace h := (if_pos q19).symm.trans h
          refine gx_look (off := 126) 127 X dX9_of_1 (by decide) ((lv_osw q1 (by decide)).trans ((lv_osw q7 (by decide)).trans ((lv_osw q13 (by decide)).trans (by rw [q19] <;> rfl)))) (by decide) ?_
          refine gx_aload_n X 0 rfl dX9_of_127 ?_
          refine gx_getf X (0) lf_X9_10 (by decide) (cl_0 _ _) (v := .ref (al (1))) rfl dX9_of_128 ?_
          refine gx_iload_n X 1 rfl dX9_of_131 ?_
          obtain ⟨ra20, ga21, ca22, h⟩ := bdd_eq h
          refine gx_callNi X (1) (c_X8_hasCell ca22) lc_X8_hasCell li_X8_hasCell lm_X9_88 (by decide) (cl_1 _ _) rfl rfl rfl (Nat.le_trans (by decide) hd) rfl (Nat.le_of_ble_eq_true rfl) dX9_of_132 ?_
          refine gx_if_eq X 156 dX9_of_135 (by decide) (fun q23 => ?_) (fun q23 => ?_)
          · replace h := (if_pos q23).symm.trans h
            refine gx_iconst X (v := (-1 : Int32)) dX9_of_156 (by decide) ?_
            obtain ⟨rfl, rfl⟩ := ret_eq h
            exact gx_iret X rfl dX9_of_157
          · replace h := (if_neg q23).symm.trans h
            refine gx_aload_n X 0 rfl dX9_of_138 ?_
            refine gx_getf X (0) lf_X9_10 (by decide) (cl_0 _ _) (v := .ref (al (1))) rfl dX9_of_139 ?_
            refine gx_iload_n X 1 rfl dX9_of_142 ?_
            refine gx_bipush X (v := (10 : Int32)) dX9_of_143 (by decide) ?_
            refine gx_idiv X dX9_of_145 (by decide) ?_
            refine gx_iload_n X 1 rfl dX9_of_146 ?_
            refine gx_bipush X (v := (10 : Int32)) dX9_of_147 (by decide) ?_
            refine gx_irem X dX9_of_149 (by decide) ?_
            obtain ⟨ra24, ga25, ca26, h⟩ := bdd_eq h
            refine gx_callNi X (1) (c_X8_struck ca26) lc_X8_struck li_X8_struck lm_X9_96 (by decide) (cl_1 _ _) rfl rfl rfl (Nat.le_trans (by decide) hd) rfl (Nat.le_of_ble_eq_true rfl) dX9_of_150 ?_
            refine gx_goto X 157 dX9_of_153 (by decide) ?_
            obtain ⟨rfl, rfl⟩ := ret_eq h
            exact gx_iret X rfl dX9_of_157
        · replace h := (if_neg q19).symm.trans h
          by_cases q27 : a2 = (20 : Int32)
          · replace h := (if_pos q27).symm.trans h
            refine gx_look (off := 157) 158 X dX9_of_1 (by decide) ((lv_osw q1 (by decide)).trans ((lv_osw q7 (by decide)).trans ((lv_osw q13 (by decide)).trans ((lv_osw q19 (by decide)).trans (by rw [q27] <;> rfl))))) (by decide) ?_
            refine gx_aload_n X 0 rfl dX9_of_158 ?_
            refine gx_getf X (0) lf_X9_10 (by decide) (cl_0 _ _) (v := .ref (al (1))) rfl dX9_of_159 ?_
            refine gx_iload_n X 1 rfl dX9_of_162 ?_
            obtain ⟨ra28, ga29, ca30, h⟩ := bdd_eq h
            refine gx_callNi X (1) (c_X8_hasPair ca30) lc_X8_hasPair li_X8_hasPair lm_X9_135 (by decide) (cl_1 _ _) rfl rfl rfl (Nat.le_trans (by decide) hd) rfl (Nat.le_of_ble_eq_true rfl) dX9_of_163 ?_
            refine gx_if_ne X 171 dX9_of_166 (by decide) (fun q31 => ?_) (fun q31 => ?_)
            · replace h := (if_neg q31).symm.trans h
              refine gx_aload_n X 0 rfl dX9_of_171 ?_
              refine gx_getf X (0) lf_X9_10 (by decide) (cl_0 _ _) (v := .ref (al (1))) rfl dX9_of_172 ?_
              refine gx_iload_n X 1 rfl dX9_of_175 ?_
              refine gx_bipush X (v := (100 : Int32)) dX9_of_176 (by decide) ?_
              refine gx_idiv X dX9_of_178 (by decide) ?_
              refine gx_iload_n X 1 rfl dX9_of_179 ?_
              refine gx_bipush X (v := (100 : Int32)) dX9_of_180 (by decide) ?_
              refine gx_irem X dX9_of_182 (by decide) ?_
              obtain ⟨ra32, ga33, ca34, h⟩ := bdd_eq h
              refine gx_callNi X (1) (c_X8_areMixed ca34) lc_X8_areMixed li_X8_areMixed lm_X9_138 (by decide) (cl_1 _ _) rfl rfl rfl (Nat.le_trans (by decide) hd) rfl (Nat.le_of_ble_eq_true rfl) dX9_of_183 ?_
              refine gx_if_eq X 193 dX9_of_186 (by decide) (fun q35 => ?_) (fun q35 => ?_)
              · replace h := (if_pos q35).symm.trans h
                refine gx_iconst X (v := (0 : Int32)) dX9_of_193 (by decide) ?_
                obtain ⟨rfl, rfl⟩ := ret_eq h
                exact gx_iret X rfl dX9_of_194
              · replace h := (if_neg q35).symm.trans h
                refine gx_iconst X (v := (1 : Int32)) dX9_of_189 (by decide) ?_
                refine gx_goto X 194 dX9_of_190 (by decide) ?_
                obtain ⟨rfl, rfl⟩ := ret_eq h
                exact gx_iret X rfl dX9_of_194
            · replace h := (if_pos q31).symm.trans h
              refine gx_iconst X (v := (-1 : Int32)) dX9_of_169 (by decide) ?_
              obtain ⟨rfl, rfl⟩ := ret_eq h
              exact gx_iret X rfl dX9_of_170
          · replace h := (if_neg q27).symm.trans h
            refine gx_look (off := 194) 195 X dX9_of_1 (by decide) ((lv_osw q1 (by decide)).trans ((lv_osw q7 (by decide)).trans ((lv_osw q13 (by decide)).trans ((lv_osw q19 (by decide)).trans ((lv_osw q27 (by decide)).trans (rfl)))))) (by decide) ?_
            refine gx_iconst X (v := (-1 : Int32)) dX9_of_195 (by decide) ?_
            obtain ⟨rfl, rfl⟩ := ret_eq h
            exact gx_iret X rfl dX9_of_196
theorem dX9_put_0 : decode cX9_put 0 = .ok (.aload_n 0, 1) := by decide +kernel
theorem dX9_put_1 : decode cX9_put 1 = .ok (.getfield 63, 3) := by decide +kernel
theorem dX9_put_4 : decode cX9_put 4 = .ok (.iload_n 1, 1) := by decide +kernel
theorem dX9_put_5 : decode cX9_put 5 = .ok (.iload_n 2, 1) := by decide +kernel
theorem dX9_put_6 : decode cX9_put 6 = .ok (.invokevirtual 317, 3) := by decide +kernel
theorem dX9_put_9 : decode cX9_put 9 = .ok (.istore 5, 2) := by decide +kernel
theorem dX9_put_11 : decode cX9_put 11 = .ok (.iload 5, 2) := by decide +kernel
theorem dX9_put_13 : decode cX9_put 13 = .ok (.ifCond .eq 6, 3) := by decide +kernel
theorem dX9_put_16 : decode cX9_put 16 = .ok (.iload 5, 2) := by decide +kernel
theorem dX9_put_18 : decode cX9_put 18 = .ok (.ireturn, 1) := by decide +kernel
theorem dX9_put_19 : decode cX9_put 19 = .ok (.aload_n 0, 1) := by decide +kernel
theorem dX9_put_20 : decode cX9_put 20 = .ok (.getfield 63, 3) := by decide +kernel
theorem dX9_put_23 : decode cX9_put 23 = .ok (.iload_n 1, 1) := by decide +kernel
theorem dX9_put_24 : decode cX9_put 24 = .ok (.iload_n 2, 1) := by decide +kernel
theorem dX9_put_25 : decode cX9_put 25 = .ok (.lload_n 3, 1) := by decide +kernel
theorem dX9_put_26 : decode cX9_put 26 = .ok (.invokevirtual 320, 3) := by decide +kernel
theorem dX9_put_29 : decode cX9_put 29 = .ok (.iconst 1, 1) := by decide +kernel
theorem dX9_put_30 : decode cX9_put 30 = .ok (.ireturn, 1) := by decide +kernel
def m_X9_put (a1 : Int32) (a2 : Int32) (a3 : Int64) (g : Mm) : Option (Int32 × Mm) := bdd (m_X6_refusalAt a1 a2 g) (fun ra1 ga2 => (if ra1 = (0 : Int32) then bdd (m_X6_write a1 a2 a3 ga2) (fun ra5 ga6 => some ((1 : Int32), ga6)) else some (ra1, ga2)))
set_option maxHeartbeats 2000000 in
theorem c_X9_put {r2 : Int32} {g g2 : Mm} {a1 : Int32} {a2 : Int32} {a3 : Int64} (h : m_X9_put a1 a2 a3 g = some (r2, g2)) : gx_M 3 yX9_put cX9_put 6 (some .int) (fun al => [.ref (al (0)), .int (a1), .int (a2), .long (a3)]) g (some (.int r2)) g2 := by
  have hd : 3 ≤ 3 := Nat.le_refl _
  refine gx_M.of (by decide +kernel) (fun _ => Nat.le_of_ble_eq_true rfl) ?_
  intro p l e R s m args below meth c D al cI cJ A X
  refine gx_eq (pc' := 0) (ls' := [(0, .ref (al (0))), (1, .int (a1)), (2, .int (a2)), (3, .long (a3))]) (st' := []) (g' := g) ⟨rfl, rfl, rfl, rfl⟩ ?_
  unfold m_X9_put at h
  refine gx_aload_n X 0 rfl dX9_put_0 ?_
  refine gx_getf X (0) lf_X9_63 (by decide) (cl_0 _ _) (v := .ref (al (35))) rfl dX9_put_1 ?_
  refine gx_iload_n X 1 rfl dX9_put_4 ?_
  refine gx_iload_n X 2 rfl dX9_put_5 ?_
  obtain ⟨ra1, ga2, ca3, h⟩ := bdd_eq h
  refine gx_callNi X (35) (c_X6_refusalAt ca3) lc_X6_refusalAt li_X6_refusalAt lm_X9_317 (by decide) (cl_35 _ _) rfl rfl rfl (Nat.le_trans (by decide) hd) rfl (Nat.le_of_ble_eq_true rfl) dX9_put_6 ?_
  refine gx_istore X [(5, .int (ra1)), (0, .ref (al (0))), (1, .int (a1)), (2, .int (a2)), (3, .long (a3))] dX9_put_9 (by decide) rfl ?_
  refine gx_iload X 0 rfl dX9_put_11 ?_
  refine gx_if_eq X 19 dX9_put_13 (by decide) (fun q4 => ?_) (fun q4 => ?_)
  · replace h := (if_pos q4).symm.trans h
    refine gx_aload_n X 1 rfl dX9_put_19 ?_
    refine gx_getf X (0) lf_X9_63 (by decide) (cl_0 _ _) (v := .ref (al (35))) rfl dX9_put_20 ?_
    refine gx_iload_n X 2 rfl dX9_put_23 ?_
    refine gx_iload_n X 3 rfl dX9_put_24 ?_
    refine gx_lload_n X 4 rfl dX9_put_25 ?_
    obtain ⟨ra5, ga6, ca7, h⟩ := bdd_eq h
    refine gx_callNv X (35) (c_X6_write ca7) lc_X6_write li_X6_write lm_X9_320 (by decide) (cl_35 _ _) rfl rfl rfl (Nat.le_trans (by decide) hd) rfl (Nat.le_of_ble_eq_true rfl) dX9_put_26 ?_
    refine gx_iconst X (v := (1 : Int32)) dX9_put_29 (by decide) ?_
    obtain ⟨rfl, rfl⟩ := ret_eq h
    exact gx_iret X rfl dX9_put_30
  · replace h := (if_neg q4).symm.trans h
    refine gx_iload X 0 rfl dX9_put_16 ?_
    obtain ⟨rfl, rfl⟩ := ret_eq h
    exact gx_iret X rfl dX9_put_18
theorem dX9_putBack_0 : decode cX9_putBack 0 = .ok (.iload_n 1, 1) := by decide +kernel
theorem dX9_putBack_1 : decode cX9_putBack 1 = .ok (.sipush 1000, 3) := by decide +kernel
theorem dX9_putBack_4 : decode cX9_putBack 4 = .ok (.if_icmp .lt 20, 3) := by decide +kernel
theorem dX9_putBack_7 : decode cX9_putBack 7 = .ok (.aload_n 0, 1) := by decide +kernel
theorem dX9_putBack_8 : decode cX9_putBack 8 = .ok (.getfield 10, 3) := by decide +kernel
theorem dX9_putBack_11 : decode cX9_putBack 11 = .ok (.getfield 131, 3) := by decide +kernel
theorem dX9_putBack_14 : decode cX9_putBack 14 = .ok (.iload_n 1, 1) := by decide +kernel
theorem dX9_putBack_15 : decode cX9_putBack 15 = .ok (.sipush 1000, 3) := by decide +kernel
theorem dX9_putBack_18 : decode cX9_putBack 18 = .ok (.isub, 1) := by decide +kernel
theorem dX9_putBack_19 : decode cX9_putBack 19 = .ok (.iload_n 2, 1) := by decide +kernel
theorem dX9_putBack_20 : decode cX9_putBack 20 = .ok (.iastore, 1) := by decide +kernel
theorem dX9_putBack_21 : decode cX9_putBack 21 = .ok (.goto 19, 3) := by decide +kernel
theorem dX9_putBack_24 : decode cX9_putBack 24 = .ok (.aload_n 0, 1) := by decide +kernel
theorem dX9_putBack_25 : decode cX9_putBack 25 = .ok (.getfield 10, 3) := by decide +kernel
theorem dX9_putBack_28 : decode cX9_putBack 28 = .ok (.iload_n 1, 1) := by decide +kernel
theorem dX9_putBack_29 : decode cX9_putBack 29 = .ok (.bipush 10, 2) := by decide +kernel
theorem dX9_putBack_31 : decode cX9_putBack 31 = .ok (.idiv, 1) := by decide +kernel
theorem dX9_putBack_32 : decode cX9_putBack 32 = .ok (.iload_n 1, 1) := by decide +kernel
theorem dX9_putBack_33 : decode cX9_putBack 33 = .ok (.bipush 10, 2) := by decide +kernel
theorem dX9_putBack_35 : decode cX9_putBack 35 = .ok (.irem, 1) := by decide +kernel
theorem dX9_putBack_36 : decode cX9_putBack 36 = .ok (.iload_n 2, 1) := by decide +kernel
theorem dX9_putBack_37 : decode cX9_putBack 37 = .ok (.invokevirtual 100, 3) := by decide +kernel
theorem dX9_putBack_40 : decode cX9_putBack 40 = .ok (.return_, 1) := by decide +kernel
def m_X9_putBack (a1 : Int32) (a2 : Int32) (g : Mm) : Option (Int32 × Mm) := (if a1 < (1000 : Int32) then bdd (m_X8_write (a1 / (10 : Int32)) (rmI a1 (10 : Int32)) a2 g) (fun ra2 ga3 => some ((0 : Int32), ga3)) else gdd (ixo (a1 - (1000 : Int32)) 6) (some ((0 : Int32), (wrI g 2 (a1 - (1000 : Int32)).toNatClampNeg a2))))
set_option maxHeartbeats 2000000 in
theorem c_X9_putBack {r2 : Int32} {g g2 : Mm} {a1 : Int32} {a2 : Int32} (h : m_X9_putBack a1 a2 g = some (r2, g2)) : gx_M 2 yX9_putBack cX9_putBack 3 none (fun al => [.ref (al (0)), .int (a1), .int (a2)]) g none g2 := by
  have hd : 2 ≤ 2 := Nat.le_refl _
  refine gx_M.of (by decide +kernel) (fun _ => Nat.le_of_ble_eq_true rfl) ?_
  intro p l e R s m args below meth c D al cI cJ A X
  refine gx_eq (pc' := 0) (ls' := [(0, .ref (al (0))), (1, .int (a1)), (2, .int (a2))]) (st' := []) (g' := g) ⟨rfl, rfl, rfl, rfl⟩ ?_
  unfold m_X9_putBack at h
  refine gx_iload_n X 1 rfl dX9_putBack_0 ?_
  refine gx_sipush X (v := (1000 : Int32)) dX9_putBack_1 (by decide) ?_
  refine gx_icmp_lt X 24 dX9_putBack_4 (by decide) (fun q1 => ?_) (fun q1 => ?_)
  · replace h := (if_pos q1).symm.trans h
    refine gx_aload_n X 0 rfl dX9_putBack_24 ?_
    refine gx_getf X (0) lf_X9_10 (by decide) (cl_0 _ _) (v := .ref (al (1))) rfl dX9_putBack_25 ?_
    refine gx_iload_n X 1 rfl dX9_putBack_28 ?_
    refine gx_bipush X (v := (10 : Int32)) dX9_putBack_29 (by decide) ?_
    refine gx_idiv X dX9_putBack_31 (by decide) ?_
    refine gx_iload_n X 1 rfl dX9_putBack_32 ?_
    refine gx_bipush X (v := (10 : Int32)) dX9_putBack_33 (by decide) ?_
    refine gx_irem X dX9_putBack_35 (by decide) ?_
    refine gx_iload_n X 2 rfl dX9_putBack_36 ?_
    obtain ⟨ra2, ga3, ca4, h⟩ := bdd_eq h
    refine gx_callNv X (1) (c_X8_write ca4) lc_X8_write li_X8_write lm_X9_100 (by decide) (cl_1 _ _) rfl rfl rfl (Nat.le_trans (by decide) hd) rfl (Nat.le_of_ble_eq_true rfl) dX9_putBack_37 ?_
    obtain ⟨rfl, rfl⟩ := ret_eq h
    exact gx_vret X dX9_putBack_40
  · replace h := (if_neg q1).symm.trans h
    refine gx_aload_n X 0 rfl dX9_putBack_7 ?_
    refine gx_getf X (0) lf_X9_10 (by decide) (cl_0 _ _) (v := .ref (al (1))) rfl dX9_putBack_8 ?_
    refine gx_getn X (1) lf_X9_131 (by decide) (cl_1 _ _) (v := .ref (al (2))) rfl dX9_putBack_11 ?_
    refine gx_iload_n X 1 rfl dX9_putBack_14 ?_
    refine gx_sipush X (v := (1000 : Int32)) dX9_putBack_15 (by decide) ?_
    refine gx_isub X dX9_putBack_18 ?_
    refine gx_iload_n X 2 rfl dX9_putBack_19 ?_
    obtain ⟨q5, h⟩ := gdd_eq h
    refine gx_iast X (2) 6 (by decide) (fun r => cl_2 r _) q5 dX9_putBack_20 ?_
    refine gx_goto X 40 dX9_putBack_21 (by decide) ?_
    obtain ⟨rfl, rfl⟩ := ret_eq h
    exact gx_vret X dX9_putBack_40
theorem dX9_redo_0 : decode cX9_redo 0 = .ok (.aload_n 0, 1) := by decide +kernel
theorem dX9_redo_1 : decode cX9_redo 1 = .ok (.getfield 19, 3) := by decide +kernel
theorem dX9_redo_4 : decode cX9_redo 4 = .ok (.getfield 270, 3) := by decide +kernel
theorem dX9_redo_7 : decode cX9_redo 7 = .ok (.aload_n 0, 1) := by decide +kernel
theorem dX9_redo_8 : decode cX9_redo 8 = .ok (.getfield 19, 3) := by decide +kernel
theorem dX9_redo_11 : decode cX9_redo 11 = .ok (.getfield 286, 3) := by decide +kernel
theorem dX9_redo_14 : decode cX9_redo 14 = .ok (.if_icmp .lt 6, 3) := by decide +kernel
theorem dX9_redo_17 : decode cX9_redo 17 = .ok (.bipush (-5), 2) := by decide +kernel
theorem dX9_redo_19 : decode cX9_redo 19 = .ok (.ireturn, 1) := by decide +kernel
theorem dX9_redo_20 : decode cX9_redo 20 = .ok (.aload_n 0, 1) := by decide +kernel
theorem dX9_redo_21 : decode cX9_redo 21 = .ok (.getfield 19, 3) := by decide +kernel
theorem dX9_redo_24 : decode cX9_redo 24 = .ok (.invokevirtual 289, 3) := by decide +kernel
theorem dX9_redo_27 : decode cX9_redo 27 = .ok (.istore_n 1, 1) := by decide +kernel
theorem dX9_redo_28 : decode cX9_redo 28 = .ok (.aload_n 0, 1) := by decide +kernel
theorem dX9_redo_29 : decode cX9_redo 29 = .ok (.aload_n 0, 1) := by decide +kernel
theorem dX9_redo_30 : decode cX9_redo 30 = .ok (.getfield 19, 3) := by decide +kernel
theorem dX9_redo_33 : decode cX9_redo 33 = .ok (.getfield 276, 3) := by decide +kernel
theorem dX9_redo_36 : decode cX9_redo 36 = .ok (.iload_n 1, 1) := by decide +kernel
theorem dX9_redo_37 : decode cX9_redo 37 = .ok (.iaload, 1) := by decide +kernel
theorem dX9_redo_38 : decode cX9_redo 38 = .ok (.aload_n 0, 1) := by decide +kernel
theorem dX9_redo_39 : decode cX9_redo 39 = .ok (.getfield 19, 3) := by decide +kernel
theorem dX9_redo_42 : decode cX9_redo 42 = .ok (.getfield 292, 3) := by decide +kernel
theorem dX9_redo_45 : decode cX9_redo 45 = .ok (.iload_n 1, 1) := by decide +kernel
theorem dX9_redo_46 : decode cX9_redo 46 = .ok (.iaload, 1) := by decide +kernel
theorem dX9_redo_47 : decode cX9_redo 47 = .ok (.invokevirtual 282, 3) := by decide +kernel
theorem dX9_redo_50 : decode cX9_redo 50 = .ok (.aload_n 0, 1) := by decide +kernel
theorem dX9_redo_51 : decode cX9_redo 51 = .ok (.getfield 19, 3) := by decide +kernel
theorem dX9_redo_54 : decode cX9_redo 54 = .ok (.getfield 286, 3) := by decide +kernel
theorem dX9_redo_57 : decode cX9_redo 57 = .ok (.aload_n 0, 1) := by decide +kernel
theorem dX9_redo_58 : decode cX9_redo 58 = .ok (.getfield 19, 3) := by decide +kernel
theorem dX9_redo_61 : decode cX9_redo 61 = .ok (.getfield 270, 3) := by decide +kernel
theorem dX9_redo_64 : decode cX9_redo 64 = .ok (.isub, 1) := by decide +kernel
theorem dX9_redo_65 : decode cX9_redo 65 = .ok (.ireturn, 1) := by decide +kernel
def m_X9_redo (g : Mm) : Option (Int32 × Mm) := (if (rdI g 7 3) < (rdI g 7 4) then bdd (m_X1_stepOn  g) (fun ra2 ga3 => gdd (ixo ra2 40) (gdd (ixo ra2 40) (bdd (m_X9_putBack (rdI ga3 8 ra2.toNatClampNeg) (rdI ga3 10 ra2.toNatClampNeg) ga3) (fun ra7 ga8 => some (((rdI ga8 7 4) - (rdI ga8 7 3)), ga8))))) else some ((-5 : Int32), g))
set_option maxHeartbeats 2000000 in
theorem c_X9_redo {r2 : Int32} {g g2 : Mm} (h : m_X9_redo g = some (r2, g2)) : gx_M 3 yX9_redo cX9_redo 2 (some .int) (fun al => [.ref (al (0))]) g (some (.int r2)) g2 := by
  have hd : 3 ≤ 3 := Nat.le_refl _
  refine gx_M.of (by decide +kernel) (fun _ => Nat.le_of_ble_eq_true rfl) ?_
  intro p l e R s m args below meth c D al cI cJ A X
  refine gx_eq (pc' := 0) (ls' := [(0, .ref (al (0)))]) (st' := []) (g' := g) ⟨rfl, rfl, rfl, rfl⟩ ?_
  unfold m_X9_redo at h
  refine gx_aload_n X 0 rfl dX9_redo_0 ?_
  refine gx_getf X (0) lf_X9_19 (by decide) (cl_0 _ _) (v := .ref (al (7))) rfl dX9_redo_1 ?_
  refine gx_getn X (7) lf_X9_270 (by decide) (cl_7 _ _) (v := .int ((rdI g 7 3))) rfl dX9_redo_4 ?_
  refine gx_aload_n X 0 rfl dX9_redo_7 ?_
  refine gx_getf X (0) lf_X9_19 (by decide) (cl_0 _ _) (v := .ref (al (7))) rfl dX9_redo_8 ?_
  refine gx_getn X (7) lf_X9_286 (by decide) (cl_7 _ _) (v := .int ((rdI g 7 4))) rfl dX9_redo_11 ?_
  refine gx_icmp_lt X 20 dX9_redo_14 (by decide) (fun q1 => ?_) (fun q1 => ?_)
  · replace h := (if_pos q1).symm.trans h
    refine gx_aload_n X 0 rfl dX9_redo_20 ?_
    refine gx_getf X (0) lf_X9_19 (by decide) (cl_0 _ _) (v := .ref (al (7))) rfl dX9_redo_21 ?_
    obtain ⟨ra2, ga3, ca4, h⟩ := bdd_eq h
    refine gx_callNi X (7) (c_X1_stepOn ca4) lc_X1_stepOn li_X1_stepOn lm_X9_289 (by decide) (cl_7 _ _) rfl rfl rfl (Nat.le_trans (by decide) hd) rfl (Nat.le_of_ble_eq_true rfl) dX9_redo_24 ?_
    refine gx_istore_n X [(1, .int (ra2)), (0, .ref (al (0)))] dX9_redo_27 (by decide) rfl ?_
    refine gx_aload_n X 1 rfl dX9_redo_28 ?_
    refine gx_aload_n X 1 rfl dX9_redo_29 ?_
    refine gx_getf X (0) lf_X9_19 (by decide) (cl_0 _ _) (v := .ref (al (7))) rfl dX9_redo_30 ?_
    refine gx_getn X (7) lf_X9_276 (by decide) (cl_7 _ _) (v := .ref (al (8))) rfl dX9_redo_33 ?_
    refine gx_iload_n X 0 rfl dX9_redo_36 ?_
    obtain ⟨q5, h⟩ := gdd_eq h
    refine gx_iald X (8) 40 (by decide) (cl_8 _ _) q5 dX9_redo_37 ?_
    refine gx_aload_n X 1 rfl dX9_redo_38 ?_
    refine gx_getf X (0) lf_X9_19 (by decide) (cl_0 _ _) (v := .ref (al (7))) rfl dX9_redo_39 ?_
    refine gx_getn X (7) lf_X9_292 (by decide) (cl_7 _ _) (v := .ref (al (10))) rfl dX9_redo_42 ?_
    refine gx_iload_n X 0 rfl dX9_redo_45 ?_
    obtain ⟨q6, h⟩ := gdd_eq h
    refine gx_iald X (10) 40 (by decide) (cl_10 _ _) q6 dX9_redo_46 ?_
    obtain ⟨ra7, ga8, ca9, h⟩ := bdd_eq h
    refine gx_callVv X (0) (c_X9_putBack ca9) lc_X9_putBack li_X9_putBack lm_X9_282 (by decide) (cl_0 _ _) rfl rfl rfl (Nat.le_trans (by decide) hd) rfl (Nat.le_of_ble_eq_true rfl) dX9_redo_47 ?_
    refine gx_aload_n X 1 rfl dX9_redo_50 ?_
    refine gx_getf X (0) lf_X9_19 (by decide) (cl_0 _ _) (v := .ref (al (7))) rfl dX9_redo_51 ?_
    refine gx_getn X (7) lf_X9_286 (by decide) (cl_7 _ _) (v := .int ((rdI ga8 7 4))) rfl dX9_redo_54 ?_
    refine gx_aload_n X 1 rfl dX9_redo_57 ?_
    refine gx_getf X (0) lf_X9_19 (by decide) (cl_0 _ _) (v := .ref (al (7))) rfl dX9_redo_58 ?_
    refine gx_getn X (7) lf_X9_270 (by decide) (cl_7 _ _) (v := .int ((rdI ga8 7 3))) rfl dX9_redo_61 ?_
    refine gx_isub X dX9_redo_64 ?_
    obtain ⟨rfl, rfl⟩ := ret_eq h
    exact gx_iret X rfl dX9_redo_65
  · replace h := (if_neg q1).symm.trans h
    refine gx_bipush X (v := (-5 : Int32)) dX9_redo_17 (by decide) ?_
    obtain ⟨rfl, rfl⟩ := ret_eq h
    exact gx_iret X rfl dX9_redo_19
theorem dX9_rest_0 : decode cX9_rest 0 = .ok (.aload_n 0, 1) := by decide +kernel
theorem dX9_rest_1 : decode cX9_rest 1 = .ok (.getfield 35, 3) := by decide +kernel
theorem dX9_rest_4 : decode cX9_rest 4 = .ok (.invokevirtual 267, 3) := by decide +kernel
theorem dX9_rest_7 : decode cX9_rest 7 = .ok (.ireturn, 1) := by decide +kernel
def m_X9_rest (g : Mm) : Option (Int32 × Mm) := bdd (m_X7_bellsThatMayRest  g) (fun ra1 ga2 => some (ra1, ga2))
set_option maxHeartbeats 2000000 in
theorem c_X9_rest {r2 : Int32} {g g2 : Mm} (h : m_X9_rest g = some (r2, g2)) : gx_M 6 yX9_rest cX9_rest 1 (some .int) (fun al => [.ref (al (0))]) g (some (.int r2)) g2 := by
  have hd : 6 ≤ 6 := Nat.le_refl _
  refine gx_M.of (by decide +kernel) (fun _ => Nat.le_of_ble_eq_true rfl) ?_
  intro p l e R s m args below meth c D al cI cJ A X
  refine gx_eq (pc' := 0) (ls' := [(0, .ref (al (0)))]) (st' := []) (g' := g) ⟨rfl, rfl, rfl, rfl⟩ ?_
  unfold m_X9_rest at h
  refine gx_aload_n X 0 rfl dX9_rest_0 ?_
  refine gx_getf X (0) lf_X9_35 (by decide) (cl_0 _ _) (v := .ref (al (23))) rfl dX9_rest_1 ?_
  obtain ⟨ra1, ga2, ca3, h⟩ := bdd_eq h
  refine gx_callNi X (23) (c_X7_bellsThatMayRest ca3) lc_X7_bellsThatMayRest li_X7_bellsThatMayRest lm_X9_267 (by decide) (cl_23 _ _) rfl rfl rfl (Nat.le_trans (by decide) hd) rfl (Nat.le_of_ble_eq_true rfl) dX9_rest_4 ?_
  obtain ⟨rfl, rfl⟩ := ret_eq h
  exact gx_iret X rfl dX9_rest_7
theorem dX9_row_0 : decode cX9_row 0 = .ok (.aload_n 0, 1) := by decide +kernel
theorem dX9_row_1 : decode cX9_row 1 = .ok (.getfield 63, 3) := by decide +kernel
theorem dX9_row_4 : decode cX9_row 4 = .ok (.iload_n 1, 1) := by decide +kernel
theorem dX9_row_5 : decode cX9_row 5 = .ok (.invokevirtual 107, 3) := by decide +kernel
theorem dX9_row_8 : decode cX9_row 8 = .ok (.ifCond .eq 18, 3) := by decide +kernel
theorem dX9_row_11 : decode cX9_row 11 = .ok (.iload_n 2, 1) := by decide +kernel
theorem dX9_row_12 : decode cX9_row 12 = .ok (.ifCond .lt 14, 3) := by decide +kernel
theorem dX9_row_15 : decode cX9_row 15 = .ok (.iload_n 2, 1) := by decide +kernel
theorem dX9_row_16 : decode cX9_row 16 = .ok (.iconst 5, 1) := by decide +kernel
theorem dX9_row_17 : decode cX9_row 17 = .ok (.if_icmp .ge 9, 3) := by decide +kernel
theorem dX9_row_20 : decode cX9_row 20 = .ok (.iload_n 3, 1) := by decide +kernel
theorem dX9_row_21 : decode cX9_row 21 = .ok (.bipush 60, 2) := by decide +kernel
theorem dX9_row_23 : decode cX9_row 23 = .ok (.if_icmp .le 5, 3) := by decide +kernel
theorem dX9_row_26 : decode cX9_row 26 = .ok (.iconst (-1), 1) := by decide +kernel
theorem dX9_row_27 : decode cX9_row 27 = .ok (.ireturn, 1) := by decide +kernel
theorem dX9_row_28 : decode cX9_row 28 = .ok (.iload_n 3, 1) := by decide +kernel
theorem dX9_row_29 : decode cX9_row 29 = .ok (.ifCond .ge 6, 3) := by decide +kernel
theorem dX9_row_32 : decode cX9_row 32 = .ok (.bipush (-14), 2) := by decide +kernel
theorem dX9_row_34 : decode cX9_row 34 = .ok (.ireturn, 1) := by decide +kernel
theorem dX9_row_35 : decode cX9_row 35 = .ok (.aload_n 0, 1) := by decide +kernel
theorem dX9_row_36 : decode cX9_row 36 = .ok (.getfield 63, 3) := by decide +kernel
theorem dX9_row_39 : decode cX9_row 39 = .ok (.iload_n 1, 1) := by decide +kernel
theorem dX9_row_40 : decode cX9_row 40 = .ok (.iload_n 2, 1) := by decide +kernel
theorem dX9_row_41 : decode cX9_row 41 = .ok (.iload_n 3, 1) := by decide +kernel
theorem dX9_row_42 : decode cX9_row 42 = .ok (.invokevirtual 314, 3) := by decide +kernel
theorem dX9_row_45 : decode cX9_row 45 = .ok (.iconst 1, 1) := by decide +kernel
theorem dX9_row_46 : decode cX9_row 46 = .ok (.ireturn, 1) := by decide +kernel
def m_X9_row (a1 : Int32) (a2 : Int32) (a3 : Int32) (g : Mm) : Option (Int32 × Mm) := bdd (m_X6_hasShelf a1 g) (fun ra1 ga2 => (if ra1 = (0 : Int32) then some ((-1 : Int32), ga2) else (if a2 < (0 : Int32) then some ((-1 : Int32), ga2) else (if (5 : Int32) ≤ a2 then some ((-1 : Int32), ga2) else (if a3 ≤ (60 : Int32) then (if (0 : Int32) ≤ a3 then bdd (m_X6_holdRow a1 a2 a3 ga2) (fun ra9 ga10 => some ((1 : Int32), ga10)) else some ((-14 : Int32), ga2)) else some ((-1 : Int32), ga2))))))
set_option maxHeartbeats 2000000 in
theorem c_X9_row {r2 : Int32} {g g2 : Mm} {a1 : Int32} {a2 : Int32} {a3 : Int32} (h : m_X9_row a1 a2 a3 g = some (r2, g2)) : gx_M 2 yX9_row cX9_row 4 (some .int) (fun al => [.ref (al (0)), .int (a1), .int (a2), .int (a3)]) g (some (.int r2)) g2 := by
  have hd : 2 ≤ 2 := Nat.le_refl _
  refine gx_M.of (by decide +kernel) (fun _ => Nat.le_of_ble_eq_true rfl) ?_
  intro p l e R s m args below meth c D al cI cJ A X
  refine gx_eq (pc' := 0) (ls' := [(0, .ref (al (0))), (1, .int (a1)), (2, .int (a2)), (3, .int (a3))]) (st' := []) (g' := g) ⟨rfl, rfl, rfl, rfl⟩ ?_
  unfold m_X9_row at h
  refine gx_aload_n X 0 rfl dX9_row_0 ?_
  refine gx_getf X (0) lf_X9_63 (by decide) (cl_0 _ _) (v := .ref (al (35))) rfl dX9_row_1 ?_
  refine gx_iload_n X 1 rfl dX9_row_4 ?_
  obtain ⟨ra1, ga2, ca3, h⟩ := bdd_eq h
  refine gx_callNi X (35) (c_X6_hasShelf ca3) lc_X6_hasShelf li_X6_hasShelf lm_X9_107 (by decide) (cl_35 _ _) rfl rfl rfl (Nat.le_trans (by decide) hd) rfl (Nat.le_of_ble_eq_true rfl) dX9_row_5 ?_
  refine gx_if_eq X 26 dX9_row_8 (by decide) (fun q4 => ?_) (fun q4 => ?_)
  · replace h := (if_pos q4).symm.trans h
    refine gx_iconst X (v := (-1 : Int32)) dX9_row_26 (by decide) ?_
    obtain ⟨rfl, rfl⟩ := ret_eq h
    exact gx_iret X rfl dX9_row_27
  · replace h := (if_neg q4).symm.trans h
    refine gx_iload_n X 2 rfl dX9_row_11 ?_
    refine gx_if_lt X 26 dX9_row_12 (by decide) (fun q5 => ?_) (fun q5 => ?_)
    · replace h := (if_pos q5).symm.trans h
      refine gx_iconst X (v := (-1 : Int32)) dX9_row_26 (by decide) ?_
      obtain ⟨rfl, rfl⟩ := ret_eq h
      exact gx_iret X rfl dX9_row_27
    · replace h := (if_neg q5).symm.trans h
      refine gx_iload_n X 2 rfl dX9_row_15 ?_
      refine gx_iconst X (v := (5 : Int32)) dX9_row_16 (by decide) ?_
      refine gx_icmp_ge X 26 dX9_row_17 (by decide) (fun q6 => ?_) (fun q6 => ?_)
      · replace h := (if_pos q6).symm.trans h
        refine gx_iconst X (v := (-1 : Int32)) dX9_row_26 (by decide) ?_
        obtain ⟨rfl, rfl⟩ := ret_eq h
        exact gx_iret X rfl dX9_row_27
      · replace h := (if_neg q6).symm.trans h
        refine gx_iload_n X 3 rfl dX9_row_20 ?_
        refine gx_bipush X (v := (60 : Int32)) dX9_row_21 (by decide) ?_
        refine gx_icmp_le X 28 dX9_row_23 (by decide) (fun q7 => ?_) (fun q7 => ?_)
        · replace h := (if_pos q7).symm.trans h
          refine gx_iload_n X 3 rfl dX9_row_28 ?_
          refine gx_if_ge X 35 dX9_row_29 (by decide) (fun q8 => ?_) (fun q8 => ?_)
          · replace h := (if_pos q8).symm.trans h
            refine gx_aload_n X 0 rfl dX9_row_35 ?_
            refine gx_getf X (0) lf_X9_63 (by decide) (cl_0 _ _) (v := .ref (al (35))) rfl dX9_row_36 ?_
            refine gx_iload_n X 1 rfl dX9_row_39 ?_
            refine gx_iload_n X 2 rfl dX9_row_40 ?_
            refine gx_iload_n X 3 rfl dX9_row_41 ?_
            obtain ⟨ra9, ga10, ca11, h⟩ := bdd_eq h
            refine gx_callNv X (35) (c_X6_holdRow ca11) lc_X6_holdRow li_X6_holdRow lm_X9_314 (by decide) (cl_35 _ _) rfl rfl rfl (Nat.le_trans (by decide) hd) rfl (Nat.le_of_ble_eq_true rfl) dX9_row_42 ?_
            refine gx_iconst X (v := (1 : Int32)) dX9_row_45 (by decide) ?_
            obtain ⟨rfl, rfl⟩ := ret_eq h
            exact gx_iret X rfl dX9_row_46
          · replace h := (if_neg q8).symm.trans h
            refine gx_bipush X (v := (-14 : Int32)) dX9_row_32 (by decide) ?_
            obtain ⟨rfl, rfl⟩ := ret_eq h
            exact gx_iret X rfl dX9_row_34
        · replace h := (if_neg q7).symm.trans h
          refine gx_iconst X (v := (-1 : Int32)) dX9_row_26 (by decide) ?_
          obtain ⟨rfl, rfl⟩ := ret_eq h
          exact gx_iret X rfl dX9_row_27
theorem dX9_set_0 : decode cX9_set 0 = .ok (.iload_n 1, 1) := by decide +kernel
theorem dX9_set_1 : decode cX9_set 1 = .ok (.ifCond .ne 39, 3) := by decide +kernel
theorem dX9_set_4 : decode cX9_set 4 = .ok (.iload_n 2, 1) := by decide +kernel
theorem dX9_set_5 : decode cX9_set 5 = .ok (.iconst 2, 1) := by decide +kernel
theorem dX9_set_6 : decode cX9_set 6 = .ok (.if_icmp .lt 34, 3) := by decide +kernel
theorem dX9_set_9 : decode cX9_set 9 = .ok (.iload_n 2, 1) := by decide +kernel
theorem dX9_set_10 : decode cX9_set 10 = .ok (.bipush 24, 2) := by decide +kernel
theorem dX9_set_12 : decode cX9_set 12 = .ok (.if_icmp .gt 28, 3) := by decide +kernel
theorem dX9_set_15 : decode cX9_set 15 = .ok (.aload_n 0, 1) := by decide +kernel
theorem dX9_set_16 : decode cX9_set 16 = .ok (.getfield 10, 3) := by decide +kernel
theorem dX9_set_19 : decode cX9_set 19 = .ok (.getfield 75, 3) := by decide +kernel
theorem dX9_set_22 : decode cX9_set 22 = .ok (.istore_n 3, 1) := by decide +kernel
theorem dX9_set_23 : decode cX9_set 23 = .ok (.aload_n 0, 1) := by decide +kernel
theorem dX9_set_24 : decode cX9_set 24 = .ok (.getfield 10, 3) := by decide +kernel
theorem dX9_set_27 : decode cX9_set 27 = .ok (.iload_n 2, 1) := by decide +kernel
theorem dX9_set_28 : decode cX9_set 28 = .ok (.invokevirtual 78, 3) := by decide +kernel
theorem dX9_set_31 : decode cX9_set 31 = .ok (.aload_n 0, 1) := by decide +kernel
theorem dX9_set_32 : decode cX9_set 32 = .ok (.getfield 19, 3) := by decide +kernel
theorem dX9_set_35 : decode cX9_set 35 = .ok (.invokevirtual 82, 3) := by decide +kernel
theorem dX9_set_38 : decode cX9_set 38 = .ok (.iload_n 3, 1) := by decide +kernel
theorem dX9_set_39 : decode cX9_set 39 = .ok (.ireturn, 1) := by decide +kernel
theorem dX9_set_40 : decode cX9_set 40 = .ok (.iload_n 1, 1) := by decide +kernel
theorem dX9_set_41 : decode cX9_set 41 = .ok (.iconst 1, 1) := by decide +kernel
theorem dX9_set_42 : decode cX9_set 42 = .ok (.if_icmp .ne 32, 3) := by decide +kernel
theorem dX9_set_45 : decode cX9_set 45 = .ok (.iload_n 2, 1) := by decide +kernel
theorem dX9_set_46 : decode cX9_set 46 = .ok (.iconst 1, 1) := by decide +kernel
theorem dX9_set_47 : decode cX9_set 47 = .ok (.if_icmp .lt 27, 3) := by decide +kernel
theorem dX9_set_50 : decode cX9_set 50 = .ok (.iload_n 2, 1) := by decide +kernel
theorem dX9_set_51 : decode cX9_set 51 = .ok (.bipush 6, 2) := by decide +kernel
theorem dX9_set_53 : decode cX9_set 53 = .ok (.if_icmp .gt 21, 3) := by decide +kernel
theorem dX9_set_56 : decode cX9_set 56 = .ok (.aload_n 0, 1) := by decide +kernel
theorem dX9_set_57 : decode cX9_set 57 = .ok (.getfield 10, 3) := by decide +kernel
theorem dX9_set_60 : decode cX9_set 60 = .ok (.getfield 85, 3) := by decide +kernel
theorem dX9_set_63 : decode cX9_set 63 = .ok (.istore_n 3, 1) := by decide +kernel
theorem dX9_set_64 : decode cX9_set 64 = .ok (.aload_n 0, 1) := by decide +kernel
theorem dX9_set_65 : decode cX9_set 65 = .ok (.getfield 10, 3) := by decide +kernel
theorem dX9_set_68 : decode cX9_set 68 = .ok (.iload_n 2, 1) := by decide +kernel
theorem dX9_set_69 : decode cX9_set 69 = .ok (.putfield 85, 3) := by decide +kernel
theorem dX9_set_72 : decode cX9_set 72 = .ok (.iload_n 3, 1) := by decide +kernel
theorem dX9_set_73 : decode cX9_set 73 = .ok (.ireturn, 1) := by decide +kernel
theorem dX9_set_74 : decode cX9_set 74 = .ok (.iconst (-1), 1) := by decide +kernel
theorem dX9_set_75 : decode cX9_set 75 = .ok (.ireturn, 1) := by decide +kernel
def m_X9_set_40 (x1 : Int32) (x2 : Int32) (g : Mm) : Option (Int32 × Mm) := (if x1 = (1 : Int32) then (if x2 < (1 : Int32) then some ((-1 : Int32), g) else (if (6 : Int32) < x2 then some ((-1 : Int32), g) else some ((rdI g 1 2), (wrI g 1 2 x2)))) else some ((-1 : Int32), g))
set_option maxHeartbeats 2000000 in
theorem t_X9_set_40 {r2 : Int32} {g2 : Mm} (X : gx_X p R s m args meth c D al cI cJ A RX9 cX9_set 4 (some .int) d 0 0) (hd : 3 ≤ d) : ∀ (x1 : Int32) (x2 : Int32) (g : Mm), m_X9_set_40 x1 x2 g = some (r2, g2) → gx_G p l e R s m args below meth c (gx_Q below args s D al cI cJ A (some (.int r2)) g2) D al cI cJ A 4 0 0 40 [(0, .ref (al (0))), (1, .int (x1)), (2, .int (x2))] [] g := by
  intro x1 x2 g h
  unfold m_X9_set_40 at h
  refine gx_iload_n X 1 rfl dX9_set_40 ?_
  refine gx_iconst X (v := (1 : Int32)) dX9_set_41 (by decide) ?_
  refine gx_icmp_ne X 74 dX9_set_42 (by decide) (fun q1 => ?_) (fun q1 => ?_)
  · replace h := (if_neg q1).symm.trans h
    refine gx_iconst X (v := (-1 : Int32)) dX9_set_74 (by decide) ?_
    obtain ⟨rfl, rfl⟩ := ret_eq h
    exact gx_iret X rfl dX9_set_75
  · replace h := (if_pos q1).symm.trans h
    refine gx_iload_n X 2 rfl dX9_set_45 ?_
    refine gx_iconst X (v := (1 : Int32)) dX9_set_46 (by decide) ?_
    refine gx_icmp_lt X 74 dX9_set_47 (by decide) (fun q2 => ?_) (fun q2 => ?_)
    · replace h := (if_pos q2).symm.trans h
      refine gx_iconst X (v := (-1 : Int32)) dX9_set_74 (by decide) ?_
      obtain ⟨rfl, rfl⟩ := ret_eq h
      exact gx_iret X rfl dX9_set_75
    · replace h := (if_neg q2).symm.trans h
      refine gx_iload_n X 2 rfl dX9_set_50 ?_
      refine gx_bipush X (v := (6 : Int32)) dX9_set_51 (by decide) ?_
      refine gx_icmp_gt X 74 dX9_set_53 (by decide) (fun q3 => ?_) (fun q3 => ?_)
      · replace h := (if_pos q3).symm.trans h
        refine gx_iconst X (v := (-1 : Int32)) dX9_set_74 (by decide) ?_
        obtain ⟨rfl, rfl⟩ := ret_eq h
        exact gx_iret X rfl dX9_set_75
      · replace h := (if_neg q3).symm.trans h
        refine gx_aload_n X 0 rfl dX9_set_56 ?_
        refine gx_getf X (0) lf_X9_10 (by decide) (cl_0 _ _) (v := .ref (al (1))) rfl dX9_set_57 ?_
        refine gx_getn X (1) lf_X9_85 (by decide) (cl_1 _ _) (v := .int ((rdI g 1 2))) rfl dX9_set_60 ?_
        refine gx_istore_n X [(3, .int ((rdI g 1 2))), (0, .ref (al (0))), (1, .int (x1)), (2, .int (x2))] dX9_set_63 (by decide) rfl ?_
        refine gx_aload_n X 1 rfl dX9_set_64 ?_
        refine gx_getf X (0) lf_X9_10 (by decide) (cl_0 _ _) (v := .ref (al (1))) rfl dX9_set_65 ?_
        refine gx_iload_n X 3 rfl dX9_set_68 ?_
        refine gx_putn X (1) x2 lf_X9_85 lp_X8_2 (by decide) (cl_1 _ _) (Nat.le_of_ble_eq_true rfl) rfl rfl rfl dX9_set_69 ?_
        refine gx_iload_n X 0 rfl dX9_set_72 ?_
        obtain ⟨rfl, rfl⟩ := ret_eq h
        exact gx_iret X rfl dX9_set_73
def m_X9_set (a1 : Int32) (a2 : Int32) (g : Mm) : Option (Int32 × Mm) := (if a1 = (0 : Int32) then (if a2 < (2 : Int32) then m_X9_set_40 a1 a2 g else (if (24 : Int32) < a2 then m_X9_set_40 a1 a2 g else bdd (m_X8_changeHours a2 g) (fun ra4 ga5 => bdd (m_X1_forgetAll  ga5) (fun ra7 ga8 => some ((rdI g 1 1), ga8))))) else m_X9_set_40 a1 a2 g)
set_option maxHeartbeats 2000000 in
theorem c_X9_set {r2 : Int32} {g g2 : Mm} {a1 : Int32} {a2 : Int32} (h : m_X9_set a1 a2 g = some (r2, g2)) : gx_M 3 yX9_set cX9_set 4 (some .int) (fun al => [.ref (al (0)), .int (a1), .int (a2)]) g (some (.int r2)) g2 := by
  have hd : 3 ≤ 3 := Nat.le_refl _
  refine gx_M.of (by decide +kernel) (fun _ => Nat.le_of_ble_eq_true rfl) ?_
  intro p l e R s m args below meth c D al cI cJ A X
  refine gx_eq (pc' := 0) (ls' := [(0, .ref (al (0))), (1, .int (a1)), (2, .int (a2))]) (st' := []) (g' := g) ⟨rfl, rfl, rfl, rfl⟩ ?_
  unfold m_X9_set at h
  refine gx_iload_n X 1 rfl dX9_set_0 ?_
  refine gx_if_ne X 40 dX9_set_1 (by decide) (fun q1 => ?_) (fun q1 => ?_)
  · replace h := (if_neg q1).symm.trans h
    exact gx_sub [0, 1, 2] rfl (t_X9_set_40 X hd a1 a2 g h)
  · replace h := (if_pos q1).symm.trans h
    refine gx_iload_n X 2 rfl dX9_set_4 ?_
    refine gx_iconst X (v := (2 : Int32)) dX9_set_5 (by decide) ?_
    refine gx_icmp_lt X 40 dX9_set_6 (by decide) (fun q2 => ?_) (fun q2 => ?_)
    · replace h := (if_pos q2).symm.trans h
      exact gx_sub [0, 1, 2] rfl (t_X9_set_40 X hd a1 a2 g h)
    · replace h := (if_neg q2).symm.trans h
      refine gx_iload_n X 2 rfl dX9_set_9 ?_
      refine gx_bipush X (v := (24 : Int32)) dX9_set_10 (by decide) ?_
      refine gx_icmp_gt X 40 dX9_set_12 (by decide) (fun q3 => ?_) (fun q3 => ?_)
      · replace h := (if_pos q3).symm.trans h
        exact gx_sub [0, 1, 2] rfl (t_X9_set_40 X hd a1 a2 g h)
      · replace h := (if_neg q3).symm.trans h
        refine gx_aload_n X 0 rfl dX9_set_15 ?_
        refine gx_getf X (0) lf_X9_10 (by decide) (cl_0 _ _) (v := .ref (al (1))) rfl dX9_set_16 ?_
        refine gx_getn X (1) lf_X9_75 (by decide) (cl_1 _ _) (v := .int ((rdI g 1 1))) rfl dX9_set_19 ?_
        refine gx_istore_n X [(3, .int ((rdI g 1 1))), (0, .ref (al (0))), (1, .int (a1)), (2, .int (a2))] dX9_set_22 (by decide) rfl ?_
        refine gx_aload_n X 1 rfl dX9_set_23 ?_
        refine gx_getf X (0) lf_X9_10 (by decide) (cl_0 _ _) (v := .ref (al (1))) rfl dX9_set_24 ?_
        refine gx_iload_n X 3 rfl dX9_set_27 ?_
        obtain ⟨ra4, ga5, ca6, h⟩ := bdd_eq h
        refine gx_callNv X (1) (c_X8_changeHours ca6) lc_X8_changeHours li_X8_changeHours lm_X9_78 (by decide) (cl_1 _ _) rfl rfl rfl (Nat.le_trans (by decide) hd) rfl (Nat.le_of_ble_eq_true rfl) dX9_set_28 ?_
        refine gx_aload_n X 1 rfl dX9_set_31 ?_
        refine gx_getf X (0) lf_X9_19 (by decide) (cl_0 _ _) (v := .ref (al (7))) rfl dX9_set_32 ?_
        obtain ⟨ra7, ga8, ca9, h⟩ := bdd_eq h
        refine gx_callNv X (7) (c_X1_forgetAll ca9) lc_X1_forgetAll li_X1_forgetAll lm_X9_82 (by decide) (cl_7 _ _) rfl rfl rfl (Nat.le_trans (by decide) hd) rfl (Nat.le_of_ble_eq_true rfl) dX9_set_35 ?_
        refine gx_iload_n X 0 rfl dX9_set_38 ?_
        obtain ⟨rfl, rfl⟩ := ret_eq h
        exact gx_iret X rfl dX9_set_39
end DC
