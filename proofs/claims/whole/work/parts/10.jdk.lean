section DC
variable {p : Program} {l : Launch} {e : Env} {R : Room} {s : State} {m : MethodId} {args : Array Value} {below : List Frame} {meth : Method} {c : Code} {D : va_G} {al : Nat → Nat} {cI cJ : ClassId} {A : Nat → Prop} {d : Nat}
theorem dJ6_bitCount_0f7a4_0 : decode cJ6_bitCount_0f7a4 0 = .ok (.iload_n 0, 1) := by decide +kernel
theorem dJ6_bitCount_0f7a4_1 : decode cJ6_bitCount_0f7a4 1 = .ok (.iload_n 0, 1) := by decide +kernel
theorem dJ6_bitCount_0f7a4_2 : decode cJ6_bitCount_0f7a4 2 = .ok (.iconst 1, 1) := by decide +kernel
theorem dJ6_bitCount_0f7a4_3 : decode cJ6_bitCount_0f7a4 3 = .ok (.iushr, 1) := by decide +kernel
theorem dJ6_bitCount_0f7a4_4 : decode cJ6_bitCount_0f7a4 4 = .ok (.ldc_w 265, 3) := by decide +kernel
theorem dJ6_bitCount_0f7a4_7 : decode cJ6_bitCount_0f7a4 7 = .ok (.iand, 1) := by decide +kernel
theorem dJ6_bitCount_0f7a4_8 : decode cJ6_bitCount_0f7a4 8 = .ok (.isub, 1) := by decide +kernel
theorem dJ6_bitCount_0f7a4_9 : decode cJ6_bitCount_0f7a4 9 = .ok (.istore_n 0, 1) := by decide +kernel
theorem dJ6_bitCount_0f7a4_10 : decode cJ6_bitCount_0f7a4 10 = .ok (.iload_n 0, 1) := by decide +kernel
theorem dJ6_bitCount_0f7a4_11 : decode cJ6_bitCount_0f7a4 11 = .ok (.ldc_w 266, 3) := by decide +kernel
theorem dJ6_bitCount_0f7a4_14 : decode cJ6_bitCount_0f7a4 14 = .ok (.iand, 1) := by decide +kernel
theorem dJ6_bitCount_0f7a4_15 : decode cJ6_bitCount_0f7a4 15 = .ok (.iload_n 0, 1) := by decide +kernel
theorem dJ6_bitCount_0f7a4_16 : decode cJ6_bitCount_0f7a4 16 = .ok (.iconst 2, 1) := by decide +kernel
theorem dJ6_bitCount_0f7a4_17 : decode cJ6_bitCount_0f7a4 17 = .ok (.iushr, 1) := by decide +kernel
theorem dJ6_bitCount_0f7a4_18 : decode cJ6_bitCount_0f7a4 18 = .ok (.ldc_w 266, 3) := by decide +kernel
theorem dJ6_bitCount_0f7a4_21 : decode cJ6_bitCount_0f7a4 21 = .ok (.iand, 1) := by decide +kernel
theorem dJ6_bitCount_0f7a4_22 : decode cJ6_bitCount_0f7a4 22 = .ok (.iadd, 1) := by decide +kernel
theorem dJ6_bitCount_0f7a4_23 : decode cJ6_bitCount_0f7a4 23 = .ok (.istore_n 0, 1) := by decide +kernel
theorem dJ6_bitCount_0f7a4_24 : decode cJ6_bitCount_0f7a4 24 = .ok (.iload_n 0, 1) := by decide +kernel
theorem dJ6_bitCount_0f7a4_25 : decode cJ6_bitCount_0f7a4 25 = .ok (.iload_n 0, 1) := by decide +kernel
theorem dJ6_bitCount_0f7a4_26 : decode cJ6_bitCount_0f7a4 26 = .ok (.iconst 4, 1) := by decide +kernel
theorem dJ6_bitCount_0f7a4_27 : decode cJ6_bitCount_0f7a4 27 = .ok (.iushr, 1) := by decide +kernel
theorem dJ6_bitCount_0f7a4_28 : decode cJ6_bitCount_0f7a4 28 = .ok (.iadd, 1) := by decide +kernel
theorem dJ6_bitCount_0f7a4_29 : decode cJ6_bitCount_0f7a4 29 = .ok (.ldc_w 267, 3) := by decide +kernel
theorem dJ6_bitCount_0f7a4_32 : decode cJ6_bitCount_0f7a4 32 = .ok (.iand, 1) := by decide +kernel
theorem dJ6_bitCount_0f7a4_33 : decode cJ6_bitCount_0f7a4 33 = .ok (.istore_n 0, 1) := by decide +kernel
theorem dJ6_bitCount_0f7a4_34 : decode cJ6_bitCount_0f7a4 34 = .ok (.iload_n 0, 1) := by decide +kernel
theorem dJ6_bitCount_0f7a4_35 : decode cJ6_bitCount_0f7a4 35 = .ok (.iload_n 0, 1) := by decide +kernel
theorem dJ6_bitCount_0f7a4_36 : decode cJ6_bitCount_0f7a4 36 = .ok (.bipush 8, 2) := by decide +kernel
theorem dJ6_bitCount_0f7a4_38 : decode cJ6_bitCount_0f7a4 38 = .ok (.iushr, 1) := by decide +kernel
theorem dJ6_bitCount_0f7a4_39 : decode cJ6_bitCount_0f7a4 39 = .ok (.iadd, 1) := by decide +kernel
theorem dJ6_bitCount_0f7a4_40 : decode cJ6_bitCount_0f7a4 40 = .ok (.istore_n 0, 1) := by decide +kernel
theorem dJ6_bitCount_0f7a4_41 : decode cJ6_bitCount_0f7a4 41 = .ok (.iload_n 0, 1) := by decide +kernel
theorem dJ6_bitCount_0f7a4_42 : decode cJ6_bitCount_0f7a4 42 = .ok (.iload_n 0, 1) := by decide +kernel
theorem dJ6_bitCount_0f7a4_43 : decode cJ6_bitCount_0f7a4 43 = .ok (.bipush 16, 2) := by decide +kernel
theorem dJ6_bitCount_0f7a4_45 : decode cJ6_bitCount_0f7a4 45 = .ok (.iushr, 1) := by decide +kernel
theorem dJ6_bitCount_0f7a4_46 : decode cJ6_bitCount_0f7a4 46 = .ok (.iadd, 1) := by decide +kernel
theorem dJ6_bitCount_0f7a4_47 : decode cJ6_bitCount_0f7a4 47 = .ok (.istore_n 0, 1) := by decide +kernel
theorem dJ6_bitCount_0f7a4_48 : decode cJ6_bitCount_0f7a4 48 = .ok (.iload_n 0, 1) := by decide +kernel
theorem dJ6_bitCount_0f7a4_49 : decode cJ6_bitCount_0f7a4 49 = .ok (.bipush 63, 2) := by decide +kernel
theorem dJ6_bitCount_0f7a4_51 : decode cJ6_bitCount_0f7a4 51 = .ok (.iand, 1) := by decide +kernel
theorem dJ6_bitCount_0f7a4_52 : decode cJ6_bitCount_0f7a4 52 = .ok (.ireturn, 1) := by decide +kernel
def m_J6_bitCount_0f7a4 (a0 : Int32) (g : Mm) : Option (Int32 × Mm) := lti (a0 - ((usrI a0 (1 : Int32)) &&& (1431655765 : Int32))) (fun v1 => lti ((v1 &&& (858993459 : Int32)) + ((usrI v1 (2 : Int32)) &&& (858993459 : Int32))) (fun v2 => lti ((v2 + (usrI v2 (4 : Int32))) &&& (252645135 : Int32)) (fun v3 => lti ((v3 + (usrI v3 (8 : Int32))) + (usrI (v3 + (usrI v3 (8 : Int32))) (16 : Int32))) (fun v4 => some ((v4 &&& (63 : Int32)), g)))))
set_option maxHeartbeats 2000000 in
theorem c_J6_bitCount_0f7a4 {r2 : Int32} {g g2 : Mm} {a0 : Int32} (h : m_J6_bitCount_0f7a4 a0 g = some (r2, g2)) : gx_M 1 yJ6_bitCount_0f7a4 cJ6_bitCount_0f7a4 1 (some .int) (fun al => [.int (a0)]) g (some (.int r2)) g2 := by
  have hd : 1 ≤ 1 := Nat.le_refl _
  refine gx_M.of (by decide +kernel) (fun _ => Nat.le_of_ble_eq_true rfl) ?_
  intro p l e R s m args below meth c D al cI cJ A X
  refine gx_eq (pc' := 0) (ls' := [(0, .int (a0))]) (st' := []) (g' := g) ⟨rfl, rfl, rfl, rfl⟩ ?_
  unfold m_J6_bitCount_0f7a4 at h
  refine gx_iload_n X 0 rfl dJ6_bitCount_0f7a4_0 ?_
  refine gx_iload_n X 0 rfl dJ6_bitCount_0f7a4_1 ?_
  refine gx_iconst X (v := (1 : Int32)) dJ6_bitCount_0f7a4_2 (by decide) ?_
  refine gx_iushr X dJ6_bitCount_0f7a4_3 ?_
  refine gx_ldcw X (v := (1431655765 : Int32)) lk_J6_265 dJ6_bitCount_0f7a4_4 ?_
  refine gx_iand X dJ6_bitCount_0f7a4_7 ?_
  refine gx_isub X dJ6_bitCount_0f7a4_8 ?_
  obtain ⟨v1, ev1, h⟩ := lti_eq h
  refine gx_topi ev1 ?_
  refine gx_istore_n X [(0, .int (v1))] dJ6_bitCount_0f7a4_9 (by decide) rfl ?_
  refine gx_iload_n X 0 rfl dJ6_bitCount_0f7a4_10 ?_
  refine gx_ldcw X (v := (858993459 : Int32)) lk_J6_266 dJ6_bitCount_0f7a4_11 ?_
  refine gx_iand X dJ6_bitCount_0f7a4_14 ?_
  refine gx_iload_n X 0 rfl dJ6_bitCount_0f7a4_15 ?_
  refine gx_iconst X (v := (2 : Int32)) dJ6_bitCount_0f7a4_16 (by decide) ?_
  refine gx_iushr X dJ6_bitCount_0f7a4_17 ?_
  refine gx_ldcw X (v := (858993459 : Int32)) lk_J6_266 dJ6_bitCount_0f7a4_18 ?_
  refine gx_iand X dJ6_bitCount_0f7a4_21 ?_
  refine gx_iadd X dJ6_bitCount_0f7a4_22 ?_
  obtain ⟨v2, ev2, h⟩ := lti_eq h
  refine gx_topi ev2 ?_
  refine gx_istore_n X [(0, .int (v2))] dJ6_bitCount_0f7a4_23 (by decide) rfl ?_
  refine gx_iload_n X 0 rfl dJ6_bitCount_0f7a4_24 ?_
  refine gx_iload_n X 0 rfl dJ6_bitCount_0f7a4_25 ?_
  refine gx_iconst X (v := (4 : Int32)) dJ6_bitCount_0f7a4_26 (by decide) ?_
  refine gx_iushr X dJ6_bitCount_0f7a4_27 ?_
  refine gx_iadd X dJ6_bitCount_0f7a4_28 ?_
  refine gx_ldcw X (v := (252645135 : Int32)) lk_J6_267 dJ6_bitCount_0f7a4_29 ?_
  refine gx_iand X dJ6_bitCount_0f7a4_32 ?_
  obtain ⟨v3, ev3, h⟩ := lti_eq h
  refine gx_topi ev3 ?_
  refine gx_istore_n X [(0, .int (v3))] dJ6_bitCount_0f7a4_33 (by decide) rfl ?_
  refine gx_iload_n X 0 rfl dJ6_bitCount_0f7a4_34 ?_
  refine gx_iload_n X 0 rfl dJ6_bitCount_0f7a4_35 ?_
  refine gx_bipush X (v := (8 : Int32)) dJ6_bitCount_0f7a4_36 (by decide) ?_
  refine gx_iushr X dJ6_bitCount_0f7a4_38 ?_
  refine gx_iadd X dJ6_bitCount_0f7a4_39 ?_
  refine gx_istore_n X [(0, .int ((v3 + (usrI v3 (8 : Int32)))))] dJ6_bitCount_0f7a4_40 (by decide) rfl ?_
  refine gx_iload_n X 0 rfl dJ6_bitCount_0f7a4_41 ?_
  refine gx_iload_n X 0 rfl dJ6_bitCount_0f7a4_42 ?_
  refine gx_bipush X (v := (16 : Int32)) dJ6_bitCount_0f7a4_43 (by decide) ?_
  refine gx_iushr X dJ6_bitCount_0f7a4_45 ?_
  refine gx_iadd X dJ6_bitCount_0f7a4_46 ?_
  obtain ⟨v4, ev4, h⟩ := lti_eq h
  refine gx_topi ev4 ?_
  refine gx_istore_n X [(0, .int (v4))] dJ6_bitCount_0f7a4_47 (by decide) rfl ?_
  refine gx_iload_n X 0 rfl dJ6_bitCount_0f7a4_48 ?_
  refine gx_bipush X (v := (63 : Int32)) dJ6_bitCount_0f7a4_49 (by decide) ?_
  refine gx_iand X dJ6_bitCount_0f7a4_51 ?_
  obtain ⟨rfl, rfl⟩ := ret_eq h
  exact gx_iret X rfl dJ6_bitCount_0f7a4_52
theorem dJ9_floorMod_7cf53_0 : decode cJ9_floorMod_7cf53 0 = .ok (.iload_n 0, 1) := by decide +kernel
theorem dJ9_floorMod_7cf53_1 : decode cJ9_floorMod_7cf53 1 = .ok (.iload_n 1, 1) := by decide +kernel
theorem dJ9_floorMod_7cf53_2 : decode cJ9_floorMod_7cf53 2 = .ok (.irem, 1) := by decide +kernel
theorem dJ9_floorMod_7cf53_3 : decode cJ9_floorMod_7cf53 3 = .ok (.istore_n 2, 1) := by decide +kernel
theorem dJ9_floorMod_7cf53_4 : decode cJ9_floorMod_7cf53 4 = .ok (.iload_n 0, 1) := by decide +kernel
theorem dJ9_floorMod_7cf53_5 : decode cJ9_floorMod_7cf53 5 = .ok (.iload_n 1, 1) := by decide +kernel
theorem dJ9_floorMod_7cf53_6 : decode cJ9_floorMod_7cf53 6 = .ok (.ixor, 1) := by decide +kernel
theorem dJ9_floorMod_7cf53_7 : decode cJ9_floorMod_7cf53 7 = .ok (.ifCond .ge 11, 3) := by decide +kernel
theorem dJ9_floorMod_7cf53_10 : decode cJ9_floorMod_7cf53 10 = .ok (.iload_n 2, 1) := by decide +kernel
theorem dJ9_floorMod_7cf53_11 : decode cJ9_floorMod_7cf53 11 = .ok (.ifCond .eq 7, 3) := by decide +kernel
theorem dJ9_floorMod_7cf53_14 : decode cJ9_floorMod_7cf53 14 = .ok (.iload_n 2, 1) := by decide +kernel
theorem dJ9_floorMod_7cf53_15 : decode cJ9_floorMod_7cf53 15 = .ok (.iload_n 1, 1) := by decide +kernel
theorem dJ9_floorMod_7cf53_16 : decode cJ9_floorMod_7cf53 16 = .ok (.iadd, 1) := by decide +kernel
theorem dJ9_floorMod_7cf53_17 : decode cJ9_floorMod_7cf53 17 = .ok (.ireturn, 1) := by decide +kernel
theorem dJ9_floorMod_7cf53_18 : decode cJ9_floorMod_7cf53 18 = .ok (.iload_n 2, 1) := by decide +kernel
theorem dJ9_floorMod_7cf53_19 : decode cJ9_floorMod_7cf53 19 = .ok (.ireturn, 1) := by decide +kernel
def m_J9_floorMod_7cf53 (a0 : Int32) (a1 : Int32) (g : Mm) : Option (Int32 × Mm) := gdd (decide (¬ a1 = 0)) ((if (0 : Int32) ≤ (a0 ^^^ a1) then some ((rmI a0 a1), g) else (if (rmI a0 a1) = (0 : Int32) then some ((rmI a0 a1), g) else some (((rmI a0 a1) + a1), g))))
set_option maxHeartbeats 2000000 in
theorem c_J9_floorMod_7cf53 {r2 : Int32} {g g2 : Mm} {a0 : Int32} {a1 : Int32} (h : m_J9_floorMod_7cf53 a0 a1 g = some (r2, g2)) : gx_M 1 yJ9_floorMod_7cf53 cJ9_floorMod_7cf53 3 (some .int) (fun al => [.int (a0), .int (a1)]) g (some (.int r2)) g2 := by
  have hd : 1 ≤ 1 := Nat.le_refl _
  refine gx_M.of (by decide +kernel) (fun _ => Nat.le_of_ble_eq_true rfl) ?_
  intro p l e R s m args below meth c D al cI cJ A X
  refine gx_eq (pc' := 0) (ls' := [(0, .int (a0)), (1, .int (a1))]) (st' := []) (g' := g) ⟨rfl, rfl, rfl, rfl⟩ ?_
  unfold m_J9_floorMod_7cf53 at h
  refine gx_iload_n X 0 rfl dJ9_floorMod_7cf53_0 ?_
  refine gx_iload_n X 1 rfl dJ9_floorMod_7cf53_1 ?_
  obtain ⟨q1, h⟩ := gdd_eq h
  refine gx_irem X dJ9_floorMod_7cf53_2 (of_decide_eq_true q1) ?_
  refine gx_istore_n X [(2, .int ((rmI a0 a1))), (0, .int (a0)), (1, .int (a1))] dJ9_floorMod_7cf53_3 (by decide) rfl ?_
  refine gx_iload_n X 1 rfl dJ9_floorMod_7cf53_4 ?_
  refine gx_iload_n X 2 rfl dJ9_floorMod_7cf53_5 ?_
  refine gx_ixor X dJ9_floorMod_7cf53_6 ?_
  refine gx_if_ge X 18 dJ9_floorMod_7cf53_7 (by decide) (fun q2 => ?_) (fun q2 => ?_)
  · replace h := (if_pos q2).symm.trans h
    refine gx_iload_n X 0 rfl dJ9_floorMod_7cf53_18 ?_
    obtain ⟨rfl, rfl⟩ := ret_eq h
    exact gx_iret X rfl dJ9_floorMod_7cf53_19
  · replace h := (if_neg q2).symm.trans h
    refine gx_iload_n X 0 rfl dJ9_floorMod_7cf53_10 ?_
    refine gx_if_eq X 18 dJ9_floorMod_7cf53_11 (by decide) (fun q3 => ?_) (fun q3 => ?_)
    · replace h := (if_pos q3).symm.trans h
      refine gx_iload_n X 0 rfl dJ9_floorMod_7cf53_18 ?_
      obtain ⟨rfl, rfl⟩ := ret_eq h
      exact gx_iret X rfl dJ9_floorMod_7cf53_19
    · replace h := (if_neg q3).symm.trans h
      refine gx_iload_n X 0 rfl dJ9_floorMod_7cf53_14 ?_
      refine gx_iload_n X 2 rfl dJ9_floorMod_7cf53_15 ?_
      refine gx_iadd X dJ9_floorMod_7cf53_16 ?_
      obtain ⟨rfl, rfl⟩ := ret_eq h
      exact gx_iret X rfl dJ9_floorMod_7cf53_17
theorem dJ9_max_7cf53_0 : decode cJ9_max_7cf53 0 = .ok (.iload_n 0, 1) := by decide +kernel
theorem dJ9_max_7cf53_1 : decode cJ9_max_7cf53 1 = .ok (.iload_n 1, 1) := by decide +kernel
theorem dJ9_max_7cf53_2 : decode cJ9_max_7cf53 2 = .ok (.if_icmp .lt 7, 3) := by decide +kernel
theorem dJ9_max_7cf53_5 : decode cJ9_max_7cf53 5 = .ok (.iload_n 0, 1) := by decide +kernel
theorem dJ9_max_7cf53_6 : decode cJ9_max_7cf53 6 = .ok (.goto 4, 3) := by decide +kernel
theorem dJ9_max_7cf53_9 : decode cJ9_max_7cf53 9 = .ok (.iload_n 1, 1) := by decide +kernel
theorem dJ9_max_7cf53_10 : decode cJ9_max_7cf53 10 = .ok (.ireturn, 1) := by decide +kernel
def m_J9_max_7cf53 (a0 : Int32) (a1 : Int32) (g : Mm) : Option (Int32 × Mm) := (if a0 < a1 then some (a1, g) else some (a0, g))
set_option maxHeartbeats 2000000 in
theorem c_J9_max_7cf53 {r2 : Int32} {g g2 : Mm} {a0 : Int32} {a1 : Int32} (h : m_J9_max_7cf53 a0 a1 g = some (r2, g2)) : gx_M 1 yJ9_max_7cf53 cJ9_max_7cf53 2 (some .int) (fun al => [.int (a0), .int (a1)]) g (some (.int r2)) g2 := by
  have hd : 1 ≤ 1 := Nat.le_refl _
  refine gx_M.of (by decide +kernel) (fun _ => Nat.le_of_ble_eq_true rfl) ?_
  intro p l e R s m args below meth c D al cI cJ A X
  refine gx_eq (pc' := 0) (ls' := [(0, .int (a0)), (1, .int (a1))]) (st' := []) (g' := g) ⟨rfl, rfl, rfl, rfl⟩ ?_
  unfold m_J9_max_7cf53 at h
  refine gx_iload_n X 0 rfl dJ9_max_7cf53_0 ?_
  refine gx_iload_n X 1 rfl dJ9_max_7cf53_1 ?_
  refine gx_icmp_lt X 9 dJ9_max_7cf53_2 (by decide) (fun q1 => ?_) (fun q1 => ?_)
  · replace h := (if_pos q1).symm.trans h
    refine gx_iload_n X 1 rfl dJ9_max_7cf53_9 ?_
    obtain ⟨rfl, rfl⟩ := ret_eq h
    exact gx_iret X rfl dJ9_max_7cf53_10
  · replace h := (if_neg q1).symm.trans h
    refine gx_iload_n X 0 rfl dJ9_max_7cf53_5 ?_
    refine gx_goto X 10 dJ9_max_7cf53_6 (by decide) ?_
    obtain ⟨rfl, rfl⟩ := ret_eq h
    exact gx_iret X rfl dJ9_max_7cf53_10
theorem dJ9_max_f86c9_0 : decode cJ9_max_f86c9 0 = .ok (.lload_n 0, 1) := by decide +kernel
theorem dJ9_max_f86c9_1 : decode cJ9_max_f86c9 1 = .ok (.lload_n 2, 1) := by decide +kernel
theorem dJ9_max_f86c9_2 : decode cJ9_max_f86c9 2 = .ok (.lcmp, 1) := by decide +kernel
theorem dJ9_max_f86c9_3 : decode cJ9_max_f86c9 3 = .ok (.ifCond .lt 7, 3) := by decide +kernel
theorem dJ9_max_f86c9_6 : decode cJ9_max_f86c9 6 = .ok (.lload_n 0, 1) := by decide +kernel
theorem dJ9_max_f86c9_7 : decode cJ9_max_f86c9 7 = .ok (.goto 4, 3) := by decide +kernel
theorem dJ9_max_f86c9_10 : decode cJ9_max_f86c9 10 = .ok (.lload_n 2, 1) := by decide +kernel
theorem dJ9_max_f86c9_11 : decode cJ9_max_f86c9 11 = .ok (.lreturn, 1) := by decide +kernel
def m_J9_max_f86c9 (a0 : Int64) (a2 : Int64) (g : Mm) : Option (Int64 × Mm) := (if (lg_cmp a0 a2) < (0 : Int32) then some (a2, g) else some (a0, g))
set_option maxHeartbeats 2000000 in
theorem c_J9_max_f86c9 {r2 : Int64} {g g2 : Mm} {a0 : Int64} {a2 : Int64} (h : m_J9_max_f86c9 a0 a2 g = some (r2, g2)) : gx_M 1 yJ9_max_f86c9 cJ9_max_f86c9 4 (some .long) (fun al => [.long (a0), .long (a2)]) g (some (.long r2)) g2 := by
  have hd : 1 ≤ 1 := Nat.le_refl _
  refine gx_M.of (by decide +kernel) (fun _ => Nat.le_of_ble_eq_true rfl) ?_
  intro p l e R s m args below meth c D al cI cJ A X
  refine gx_eq (pc' := 0) (ls' := [(0, .long (a0)), (2, .long (a2))]) (st' := []) (g' := g) ⟨rfl, rfl, rfl, rfl⟩ ?_
  unfold m_J9_max_f86c9 at h
  refine gx_lload_n X 0 rfl dJ9_max_f86c9_0 ?_
  refine gx_lload_n X 1 rfl dJ9_max_f86c9_1 ?_
  refine gx_lcmp X dJ9_max_f86c9_2 ?_
  refine gx_if_lt X 10 dJ9_max_f86c9_3 (by decide) (fun q1 => ?_) (fun q1 => ?_)
  · replace h := (if_pos q1).symm.trans h
    refine gx_lload_n X 1 rfl dJ9_max_f86c9_10 ?_
    obtain ⟨rfl, rfl⟩ := ret_eq h
    exact gx_lret X dJ9_max_f86c9_11
  · replace h := (if_neg q1).symm.trans h
    refine gx_lload_n X 0 rfl dJ9_max_f86c9_6 ?_
    refine gx_goto X 11 dJ9_max_f86c9_7 (by decide) ?_
    obtain ⟨rfl, rfl⟩ := ret_eq h
    exact gx_lret X dJ9_max_f86c9_11
theorem dJ9_min_7cf53_0 : decode cJ9_min_7cf53 0 = .ok (.iload_n 0, 1) := by decide +kernel
theorem dJ9_min_7cf53_1 : decode cJ9_min_7cf53 1 = .ok (.iload_n 1, 1) := by decide +kernel
theorem dJ9_min_7cf53_2 : decode cJ9_min_7cf53 2 = .ok (.if_icmp .gt 7, 3) := by decide +kernel
theorem dJ9_min_7cf53_5 : decode cJ9_min_7cf53 5 = .ok (.iload_n 0, 1) := by decide +kernel
theorem dJ9_min_7cf53_6 : decode cJ9_min_7cf53 6 = .ok (.goto 4, 3) := by decide +kernel
theorem dJ9_min_7cf53_9 : decode cJ9_min_7cf53 9 = .ok (.iload_n 1, 1) := by decide +kernel
theorem dJ9_min_7cf53_10 : decode cJ9_min_7cf53 10 = .ok (.ireturn, 1) := by decide +kernel
def m_J9_min_7cf53 (a0 : Int32) (a1 : Int32) (g : Mm) : Option (Int32 × Mm) := (if a1 < a0 then some (a1, g) else some (a0, g))
set_option maxHeartbeats 2000000 in
theorem c_J9_min_7cf53 {r2 : Int32} {g g2 : Mm} {a0 : Int32} {a1 : Int32} (h : m_J9_min_7cf53 a0 a1 g = some (r2, g2)) : gx_M 1 yJ9_min_7cf53 cJ9_min_7cf53 2 (some .int) (fun al => [.int (a0), .int (a1)]) g (some (.int r2)) g2 := by
  have hd : 1 ≤ 1 := Nat.le_refl _
  refine gx_M.of (by decide +kernel) (fun _ => Nat.le_of_ble_eq_true rfl) ?_
  intro p l e R s m args below meth c D al cI cJ A X
  refine gx_eq (pc' := 0) (ls' := [(0, .int (a0)), (1, .int (a1))]) (st' := []) (g' := g) ⟨rfl, rfl, rfl, rfl⟩ ?_
  unfold m_J9_min_7cf53 at h
  refine gx_iload_n X 0 rfl dJ9_min_7cf53_0 ?_
  refine gx_iload_n X 1 rfl dJ9_min_7cf53_1 ?_
  refine gx_icmp_gt X 9 dJ9_min_7cf53_2 (by decide) (fun q1 => ?_) (fun q1 => ?_)
  · replace h := (if_pos q1).symm.trans h
    refine gx_iload_n X 1 rfl dJ9_min_7cf53_9 ?_
    obtain ⟨rfl, rfl⟩ := ret_eq h
    exact gx_iret X rfl dJ9_min_7cf53_10
  · replace h := (if_neg q1).symm.trans h
    refine gx_iload_n X 0 rfl dJ9_min_7cf53_5 ?_
    refine gx_goto X 10 dJ9_min_7cf53_6 (by decide) ?_
    obtain ⟨rfl, rfl⟩ := ret_eq h
    exact gx_iret X rfl dJ9_min_7cf53_10
end DC
