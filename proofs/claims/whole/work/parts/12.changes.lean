section DC
variable {p : Program} {l : Launch} {e : Env} {R : Room} {s : State} {m : MethodId} {args : Array Value} {below : List Frame} {meth : Method} {c : Code} {D : va_G} {al : Nat → Nat} {cI cJ : ClassId} {A : Nat → Prop} {d : Nat}
theorem dX1_dropOldest_0 : decode cX1_dropOldest 0 = .ok (.aload_n 0, 1) := by decide +kernel
theorem dX1_dropOldest_1 : decode cX1_dropOldest 1 = .ok (.getfield 9, 3) := by decide +kernel
theorem dX1_dropOldest_4 : decode cX1_dropOldest 4 = .ok (.iconst 1, 1) := by decide +kernel
theorem dX1_dropOldest_5 : decode cX1_dropOldest 5 = .ok (.aload_n 0, 1) := by decide +kernel
theorem dX1_dropOldest_6 : decode cX1_dropOldest 6 = .ok (.getfield 9, 3) := by decide +kernel
theorem dX1_dropOldest_9 : decode cX1_dropOldest 9 = .ok (.iconst 0, 1) := by decide +kernel
theorem dX1_dropOldest_10 : decode cX1_dropOldest 10 = .ok (.bipush 39, 2) := by decide +kernel
theorem dX1_dropOldest_12 : decode cX1_dropOldest 12 = .ok (.invokestatic 31, 3) := by decide +kernel
theorem dX1_dropOldest_15 : decode cX1_dropOldest 15 = .ok (.aload_n 0, 1) := by decide +kernel
theorem dX1_dropOldest_16 : decode cX1_dropOldest 16 = .ok (.getfield 15, 3) := by decide +kernel
theorem dX1_dropOldest_19 : decode cX1_dropOldest 19 = .ok (.iconst 1, 1) := by decide +kernel
theorem dX1_dropOldest_20 : decode cX1_dropOldest 20 = .ok (.aload_n 0, 1) := by decide +kernel
theorem dX1_dropOldest_21 : decode cX1_dropOldest 21 = .ok (.getfield 15, 3) := by decide +kernel
theorem dX1_dropOldest_24 : decode cX1_dropOldest 24 = .ok (.iconst 0, 1) := by decide +kernel
theorem dX1_dropOldest_25 : decode cX1_dropOldest 25 = .ok (.bipush 39, 2) := by decide +kernel
theorem dX1_dropOldest_27 : decode cX1_dropOldest 27 = .ok (.invokestatic 31, 3) := by decide +kernel
theorem dX1_dropOldest_30 : decode cX1_dropOldest 30 = .ok (.aload_n 0, 1) := by decide +kernel
theorem dX1_dropOldest_31 : decode cX1_dropOldest 31 = .ok (.getfield 18, 3) := by decide +kernel
theorem dX1_dropOldest_34 : decode cX1_dropOldest 34 = .ok (.iconst 1, 1) := by decide +kernel
theorem dX1_dropOldest_35 : decode cX1_dropOldest 35 = .ok (.aload_n 0, 1) := by decide +kernel
theorem dX1_dropOldest_36 : decode cX1_dropOldest 36 = .ok (.getfield 18, 3) := by decide +kernel
theorem dX1_dropOldest_39 : decode cX1_dropOldest 39 = .ok (.iconst 0, 1) := by decide +kernel
theorem dX1_dropOldest_40 : decode cX1_dropOldest 40 = .ok (.bipush 39, 2) := by decide +kernel
theorem dX1_dropOldest_42 : decode cX1_dropOldest 42 = .ok (.invokestatic 31, 3) := by decide +kernel
theorem dX1_dropOldest_45 : decode cX1_dropOldest 45 = .ok (.aload_n 0, 1) := by decide +kernel
theorem dX1_dropOldest_46 : decode cX1_dropOldest 46 = .ok (.dup, 1) := by decide +kernel
theorem dX1_dropOldest_47 : decode cX1_dropOldest 47 = .ok (.getfield 21, 3) := by decide +kernel
theorem dX1_dropOldest_50 : decode cX1_dropOldest 50 = .ok (.iconst 1, 1) := by decide +kernel
theorem dX1_dropOldest_51 : decode cX1_dropOldest 51 = .ok (.isub, 1) := by decide +kernel
theorem dX1_dropOldest_52 : decode cX1_dropOldest 52 = .ok (.putfield 21, 3) := by decide +kernel
theorem dX1_dropOldest_55 : decode cX1_dropOldest 55 = .ok (.return_, 1) := by decide +kernel
def m_X1_dropOldest (g : Mm) : Option (Int32 × Mm) := gdd (acp (1 : Int32) (39 : Int32) 40) (gdd (acp (0 : Int32) (39 : Int32) 40) (gdd (acp (1 : Int32) (39 : Int32) 40) (gdd (acp (0 : Int32) (39 : Int32) 40) (gdd (acp (1 : Int32) (39 : Int32) 40) (gdd (acp (0 : Int32) (39 : Int32) 40) (some ((0 : Int32), (wrI (cpI (cpI (cpI g 8 (1 : Int32).toNatClampNeg 8 (0 : Int32).toNatClampNeg (39 : Int32).toNatClampNeg) 9 (1 : Int32).toNatClampNeg 9 (0 : Int32).toNatClampNeg (39 : Int32).toNatClampNeg) 10 (1 : Int32).toNatClampNeg 10 (0 : Int32).toNatClampNeg (39 : Int32).toNatClampNeg) 7 3 ((rdI (cpI (cpI (cpI g 8 (1 : Int32).toNatClampNeg 8 (0 : Int32).toNatClampNeg (39 : Int32).toNatClampNeg) 9 (1 : Int32).toNatClampNeg 9 (0 : Int32).toNatClampNeg (39 : Int32).toNatClampNeg) 10 (1 : Int32).toNatClampNeg 10 (0 : Int32).toNatClampNeg (39 : Int32).toNatClampNeg) 7 3) - (1 : Int32))))))))))
set_option maxHeartbeats 2000000 in
theorem c_X1_dropOldest {r2 : Int32} {g g2 : Mm} (h : m_X1_dropOldest g = some (r2, g2)) : gx_M 1 yX1_dropOldest cX1_dropOldest 1 none (fun al => [.ref (al (7))]) g none g2 := by
  have hd : 1 ≤ 1 := Nat.le_refl _
  refine gx_M.of (by decide +kernel) (fun _ => Nat.le_of_ble_eq_true rfl) ?_
  intro p l e R s m args below meth c D al cI cJ A X
  refine gx_eq (pc' := 0) (ls' := [(0, .ref (al (7)))]) (st' := []) (g' := g) ⟨rfl, rfl, rfl, rfl⟩ ?_
  unfold m_X1_dropOldest at h
  refine gx_aload_n X 0 rfl dX1_dropOldest_0 ?_
  refine gx_getf X (7) lf_X1_9 (by decide) (cl_7 _ _) (v := .ref (al (8))) rfl dX1_dropOldest_1 ?_
  refine gx_iconst X (v := (1 : Int32)) dX1_dropOldest_4 (by decide) ?_
  refine gx_aload_n X 0 rfl dX1_dropOldest_5 ?_
  refine gx_getf X (7) lf_X1_9 (by decide) (cl_7 _ _) (v := .ref (al (8))) rfl dX1_dropOldest_6 ?_
  refine gx_iconst X (v := (0 : Int32)) dX1_dropOldest_9 (by decide) ?_
  refine gx_bipush X (v := (39 : Int32)) dX1_dropOldest_10 (by decide) ?_
  obtain ⟨q1, h⟩ := gdd_eq h
  obtain ⟨q2, h⟩ := gdd_eq h
  refine gx_cpyI X (8) (8) 40 40 lm_X1_31 lx_nat lx_stat lx_ini (Nat.le_trans (by decide) hd) (by decide) (by decide) (cl_8 _ _) (fun r => cl_8 r _) q1 q2 (Nat.le_of_ble_eq_true rfl) dX1_dropOldest_12 ?_
  refine gx_aload_n X 0 rfl dX1_dropOldest_15 ?_
  refine gx_getf X (7) lf_X1_15 (by decide) (cl_7 _ _) (v := .ref (al (9))) rfl dX1_dropOldest_16 ?_
  refine gx_iconst X (v := (1 : Int32)) dX1_dropOldest_19 (by decide) ?_
  refine gx_aload_n X 0 rfl dX1_dropOldest_20 ?_
  refine gx_getf X (7) lf_X1_15 (by decide) (cl_7 _ _) (v := .ref (al (9))) rfl dX1_dropOldest_21 ?_
  refine gx_iconst X (v := (0 : Int32)) dX1_dropOldest_24 (by decide) ?_
  refine gx_bipush X (v := (39 : Int32)) dX1_dropOldest_25 (by decide) ?_
  obtain ⟨q3, h⟩ := gdd_eq h
  obtain ⟨q4, h⟩ := gdd_eq h
  refine gx_cpyI X (9) (9) 40 40 lm_X1_31 lx_nat lx_stat lx_ini (Nat.le_trans (by decide) hd) (by decide) (by decide) (cl_9 _ _) (fun r => cl_9 r _) q3 q4 (Nat.le_of_ble_eq_true rfl) dX1_dropOldest_27 ?_
  refine gx_aload_n X 0 rfl dX1_dropOldest_30 ?_
  refine gx_getf X (7) lf_X1_18 (by decide) (cl_7 _ _) (v := .ref (al (10))) rfl dX1_dropOldest_31 ?_
  refine gx_iconst X (v := (1 : Int32)) dX1_dropOldest_34 (by decide) ?_
  refine gx_aload_n X 0 rfl dX1_dropOldest_35 ?_
  refine gx_getf X (7) lf_X1_18 (by decide) (cl_7 _ _) (v := .ref (al (10))) rfl dX1_dropOldest_36 ?_
  refine gx_iconst X (v := (0 : Int32)) dX1_dropOldest_39 (by decide) ?_
  refine gx_bipush X (v := (39 : Int32)) dX1_dropOldest_40 (by decide) ?_
  obtain ⟨q5, h⟩ := gdd_eq h
  obtain ⟨q6, h⟩ := gdd_eq h
  refine gx_cpyI X (10) (10) 40 40 lm_X1_31 lx_nat lx_stat lx_ini (Nat.le_trans (by decide) hd) (by decide) (by decide) (cl_10 _ _) (fun r => cl_10 r _) q5 q6 (Nat.le_of_ble_eq_true rfl) dX1_dropOldest_42 ?_
  refine gx_aload_n X 0 rfl dX1_dropOldest_45 ?_
  refine gx_dup X dX1_dropOldest_46 rfl ?_
  refine gx_getf X (7) lf_X1_21 (by decide) (cl_7 _ _) (v := .int ((rdI (cpI (cpI (cpI g 8 (1 : Int32).toNatClampNeg 8 (0 : Int32).toNatClampNeg (39 : Int32).toNatClampNeg) 9 (1 : Int32).toNatClampNeg 9 (0 : Int32).toNatClampNeg (39 : Int32).toNatClampNeg) 10 (1 : Int32).toNatClampNeg 10 (0 : Int32).toNatClampNeg (39 : Int32).toNatClampNeg) 7 3))) rfl dX1_dropOldest_47 ?_
  refine gx_iconst X (v := (1 : Int32)) dX1_dropOldest_50 (by decide) ?_
  refine gx_isub X dX1_dropOldest_51 ?_
  refine gx_putf X (7) ((rdI (cpI (cpI (cpI g 8 (1 : Int32).toNatClampNeg 8 (0 : Int32).toNatClampNeg (39 : Int32).toNatClampNeg) 9 (1 : Int32).toNatClampNeg 9 (0 : Int32).toNatClampNeg (39 : Int32).toNatClampNeg) 10 (1 : Int32).toNatClampNeg 10 (0 : Int32).toNatClampNeg (39 : Int32).toNatClampNeg) 7 3) - (1 : Int32)) lf_X1_21 lp_X1_3 (by decide) (cl_7 _ _) (Nat.le_of_ble_eq_true rfl) rfl rfl rfl dX1_dropOldest_52 ?_
  obtain ⟨rfl, rfl⟩ := ret_eq h
  exact gx_vret X dX1_dropOldest_55
theorem dX1_forgetAll_0 : decode cX1_forgetAll 0 = .ok (.aload_n 0, 1) := by decide +kernel
theorem dX1_forgetAll_1 : decode cX1_forgetAll 1 = .ok (.iconst 0, 1) := by decide +kernel
theorem dX1_forgetAll_2 : decode cX1_forgetAll 2 = .ok (.putfield 21, 3) := by decide +kernel
theorem dX1_forgetAll_5 : decode cX1_forgetAll 5 = .ok (.aload_n 0, 1) := by decide +kernel
theorem dX1_forgetAll_6 : decode cX1_forgetAll 6 = .ok (.iconst 0, 1) := by decide +kernel
theorem dX1_forgetAll_7 : decode cX1_forgetAll 7 = .ok (.putfield 25, 3) := by decide +kernel
theorem dX1_forgetAll_10 : decode cX1_forgetAll 10 = .ok (.return_, 1) := by decide +kernel
def m_X1_forgetAll (g : Mm) : Option (Int32 × Mm) := some ((0 : Int32), (wrI (wrI g 7 3 (0 : Int32)) 7 4 (0 : Int32)))
set_option maxHeartbeats 2000000 in
theorem c_X1_forgetAll {r2 : Int32} {g g2 : Mm} (h : m_X1_forgetAll g = some (r2, g2)) : gx_M 1 yX1_forgetAll cX1_forgetAll 1 none (fun al => [.ref (al (7))]) g none g2 := by
  have hd : 1 ≤ 1 := Nat.le_refl _
  refine gx_M.of (by decide +kernel) (fun _ => Nat.le_of_ble_eq_true rfl) ?_
  intro p l e R s m args below meth c D al cI cJ A X
  refine gx_eq (pc' := 0) (ls' := [(0, .ref (al (7)))]) (st' := []) (g' := g) ⟨rfl, rfl, rfl, rfl⟩ ?_
  unfold m_X1_forgetAll at h
  refine gx_aload_n X 0 rfl dX1_forgetAll_0 ?_
  refine gx_iconst X (v := (0 : Int32)) dX1_forgetAll_1 (by decide) ?_
  refine gx_putf X (7) (0 : Int32) lf_X1_21 lp_X1_3 (by decide) (cl_7 _ _) (Nat.le_of_ble_eq_true rfl) rfl rfl rfl dX1_forgetAll_2 ?_
  refine gx_aload_n X 0 rfl dX1_forgetAll_5 ?_
  refine gx_iconst X (v := (0 : Int32)) dX1_forgetAll_6 (by decide) ?_
  refine gx_putf X (7) (0 : Int32) lf_X1_25 lp_X1_4 (by decide) (cl_7 _ _) (Nat.le_of_ble_eq_true rfl) rfl rfl rfl dX1_forgetAll_7 ?_
  obtain ⟨rfl, rfl⟩ := ret_eq h
  exact gx_vret X dX1_forgetAll_10
theorem dX1_note_0 : decode cX1_note 0 = .ok (.aload_n 0, 1) := by decide +kernel
theorem dX1_note_1 : decode cX1_note 1 = .ok (.getfield 21, 3) := by decide +kernel
theorem dX1_note_4 : decode cX1_note 4 = .ok (.bipush 40, 2) := by decide +kernel
theorem dX1_note_6 : decode cX1_note 6 = .ok (.if_icmp .ne 7, 3) := by decide +kernel
theorem dX1_note_9 : decode cX1_note 9 = .ok (.aload_n 0, 1) := by decide +kernel
theorem dX1_note_10 : decode cX1_note 10 = .ok (.invokevirtual 28, 3) := by decide +kernel
theorem dX1_note_13 : decode cX1_note 13 = .ok (.aload_n 0, 1) := by decide +kernel
theorem dX1_note_14 : decode cX1_note 14 = .ok (.getfield 9, 3) := by decide +kernel
theorem dX1_note_17 : decode cX1_note 17 = .ok (.aload_n 0, 1) := by decide +kernel
theorem dX1_note_18 : decode cX1_note 18 = .ok (.getfield 21, 3) := by decide +kernel
theorem dX1_note_21 : decode cX1_note 21 = .ok (.iload_n 1, 1) := by decide +kernel
theorem dX1_note_22 : decode cX1_note 22 = .ok (.iastore, 1) := by decide +kernel
theorem dX1_note_23 : decode cX1_note 23 = .ok (.aload_n 0, 1) := by decide +kernel
theorem dX1_note_24 : decode cX1_note 24 = .ok (.getfield 15, 3) := by decide +kernel
theorem dX1_note_27 : decode cX1_note 27 = .ok (.aload_n 0, 1) := by decide +kernel
theorem dX1_note_28 : decode cX1_note 28 = .ok (.getfield 21, 3) := by decide +kernel
theorem dX1_note_31 : decode cX1_note 31 = .ok (.iload_n 2, 1) := by decide +kernel
theorem dX1_note_32 : decode cX1_note 32 = .ok (.iastore, 1) := by decide +kernel
theorem dX1_note_33 : decode cX1_note 33 = .ok (.aload_n 0, 1) := by decide +kernel
theorem dX1_note_34 : decode cX1_note 34 = .ok (.getfield 18, 3) := by decide +kernel
theorem dX1_note_37 : decode cX1_note 37 = .ok (.aload_n 0, 1) := by decide +kernel
theorem dX1_note_38 : decode cX1_note 38 = .ok (.getfield 21, 3) := by decide +kernel
theorem dX1_note_41 : decode cX1_note 41 = .ok (.iload_n 3, 1) := by decide +kernel
theorem dX1_note_42 : decode cX1_note 42 = .ok (.iastore, 1) := by decide +kernel
theorem dX1_note_43 : decode cX1_note 43 = .ok (.aload_n 0, 1) := by decide +kernel
theorem dX1_note_44 : decode cX1_note 44 = .ok (.dup, 1) := by decide +kernel
theorem dX1_note_45 : decode cX1_note 45 = .ok (.getfield 21, 3) := by decide +kernel
theorem dX1_note_48 : decode cX1_note 48 = .ok (.iconst 1, 1) := by decide +kernel
theorem dX1_note_49 : decode cX1_note 49 = .ok (.iadd, 1) := by decide +kernel
theorem dX1_note_50 : decode cX1_note 50 = .ok (.putfield 21, 3) := by decide +kernel
theorem dX1_note_53 : decode cX1_note 53 = .ok (.aload_n 0, 1) := by decide +kernel
theorem dX1_note_54 : decode cX1_note 54 = .ok (.aload_n 0, 1) := by decide +kernel
theorem dX1_note_55 : decode cX1_note 55 = .ok (.getfield 21, 3) := by decide +kernel
theorem dX1_note_58 : decode cX1_note 58 = .ok (.putfield 25, 3) := by decide +kernel
theorem dX1_note_61 : decode cX1_note 61 = .ok (.return_, 1) := by decide +kernel
def m_X1_note_13 (x1 : Int32) (x2 : Int32) (x3 : Int32) (g : Mm) : Option (Int32 × Mm) := gdd (ixo (rdI g 7 3) 40) (gdd (ixo (rdI (wrI g 8 (rdI g 7 3).toNatClampNeg x1) 7 3) 40) (gdd (ixo (rdI (wrI (wrI g 8 (rdI g 7 3).toNatClampNeg x1) 9 (rdI (wrI g 8 (rdI g 7 3).toNatClampNeg x1) 7 3).toNatClampNeg x2) 7 3) 40) (some ((0 : Int32), (wrI (wrI (wrI (wrI (wrI g 8 (rdI g 7 3).toNatClampNeg x1) 9 (rdI (wrI g 8 (rdI g 7 3).toNatClampNeg x1) 7 3).toNatClampNeg x2) 10 (rdI (wrI (wrI g 8 (rdI g 7 3).toNatClampNeg x1) 9 (rdI (wrI g 8 (rdI g 7 3).toNatClampNeg x1) 7 3).toNatClampNeg x2) 7 3).toNatClampNeg x3) 7 3 ((rdI (wrI (wrI (wrI g 8 (rdI g 7 3).toNatClampNeg x1) 9 (rdI (wrI g 8 (rdI g 7 3).toNatClampNeg x1) 7 3).toNatClampNeg x2) 10 (rdI (wrI (wrI g 8 (rdI g 7 3).toNatClampNeg x1) 9 (rdI (wrI g 8 (rdI g 7 3).toNatClampNeg x1) 7 3).toNatClampNeg x2) 7 3).toNatClampNeg x3) 7 3) + (1 : Int32))) 7 4 (rdI (wrI (wrI (wrI (wrI g 8 (rdI g 7 3).toNatClampNeg x1) 9 (rdI (wrI g 8 (rdI g 7 3).toNatClampNeg x1) 7 3).toNatClampNeg x2) 10 (rdI (wrI (wrI g 8 (rdI g 7 3).toNatClampNeg x1) 9 (rdI (wrI g 8 (rdI g 7 3).toNatClampNeg x1) 7 3).toNatClampNeg x2) 7 3).toNatClampNeg x3) 7 3 ((rdI (wrI (wrI (wrI g 8 (rdI g 7 3).toNatClampNeg x1) 9 (rdI (wrI g 8 (rdI g 7 3).toNatClampNeg x1) 7 3).toNatClampNeg x2) 10 (rdI (wrI (wrI g 8 (rdI g 7 3).toNatClampNeg x1) 9 (rdI (wrI g 8 (rdI g 7 3).toNatClampNeg x1) 7 3).toNatClampNeg x2) 7 3).toNatClampNeg x3) 7 3) + (1 : Int32))) 7 3))))))
set_option maxHeartbeats 2000000 in
theorem t_X1_note_13 {r2 : Int32} {g2 : Mm} (X : gx_X p R s m args meth c D al cI cJ A RX1 cX1_note 4 none d 0 0) (hd : 2 ≤ d) : ∀ (x1 : Int32) (x2 : Int32) (x3 : Int32) (g : Mm), m_X1_note_13 x1 x2 x3 g = some (r2, g2) → gx_G p l e R s m args below meth c (gx_Q below args s D al cI cJ A none g2) D al cI cJ A 4 0 0 13 [(0, .ref (al (7))), (1, .int (x1)), (2, .int (x2)), (3, .int (x3))] [] g := by
  intro x1 x2 x3 g h
  unfold m_X1_note_13 at h
  refine gx_aload_n X 0 rfl dX1_note_13 ?_
  refine gx_getf X (7) lf_X1_9 (by decide) (cl_7 _ _) (v := .ref (al (8))) rfl dX1_note_14 ?_
  refine gx_aload_n X 0 rfl dX1_note_17 ?_
  refine gx_getf X (7) lf_X1_21 (by decide) (cl_7 _ _) (v := .int ((rdI g 7 3))) rfl dX1_note_18 ?_
  refine gx_iload_n X 1 rfl dX1_note_21 ?_
  obtain ⟨q1, h⟩ := gdd_eq h
  refine gx_iast X (8) 40 (by decide) (fun r => cl_8 r _) q1 dX1_note_22 ?_
  refine gx_aload_n X 0 rfl dX1_note_23 ?_
  refine gx_getf X (7) lf_X1_15 (by decide) (cl_7 _ _) (v := .ref (al (9))) rfl dX1_note_24 ?_
  refine gx_aload_n X 0 rfl dX1_note_27 ?_
  refine gx_getf X (7) lf_X1_21 (by decide) (cl_7 _ _) (v := .int ((rdI (wrI g 8 (rdI g 7 3).toNatClampNeg x1) 7 3))) rfl dX1_note_28 ?_
  refine gx_iload_n X 2 rfl dX1_note_31 ?_
  obtain ⟨q2, h⟩ := gdd_eq h
  refine gx_iast X (9) 40 (by decide) (fun r => cl_9 r _) q2 dX1_note_32 ?_
  refine gx_aload_n X 0 rfl dX1_note_33 ?_
  refine gx_getf X (7) lf_X1_18 (by decide) (cl_7 _ _) (v := .ref (al (10))) rfl dX1_note_34 ?_
  refine gx_aload_n X 0 rfl dX1_note_37 ?_
  refine gx_getf X (7) lf_X1_21 (by decide) (cl_7 _ _) (v := .int ((rdI (wrI (wrI g 8 (rdI g 7 3).toNatClampNeg x1) 9 (rdI (wrI g 8 (rdI g 7 3).toNatClampNeg x1) 7 3).toNatClampNeg x2) 7 3))) rfl dX1_note_38 ?_
  refine gx_iload_n X 3 rfl dX1_note_41 ?_
  obtain ⟨q3, h⟩ := gdd_eq h
  refine gx_iast X (10) 40 (by decide) (fun r => cl_10 r _) q3 dX1_note_42 ?_
  refine gx_aload_n X 0 rfl dX1_note_43 ?_
  refine gx_dup X dX1_note_44 rfl ?_
  refine gx_getf X (7) lf_X1_21 (by decide) (cl_7 _ _) (v := .int ((rdI (wrI (wrI (wrI g 8 (rdI g 7 3).toNatClampNeg x1) 9 (rdI (wrI g 8 (rdI g 7 3).toNatClampNeg x1) 7 3).toNatClampNeg x2) 10 (rdI (wrI (wrI g 8 (rdI g 7 3).toNatClampNeg x1) 9 (rdI (wrI g 8 (rdI g 7 3).toNatClampNeg x1) 7 3).toNatClampNeg x2) 7 3).toNatClampNeg x3) 7 3))) rfl dX1_note_45 ?_
  refine gx_iconst X (v := (1 : Int32)) dX1_note_48 (by decide) ?_
  refine gx_iadd X dX1_note_49 ?_
  refine gx_putf X (7) ((rdI (wrI (wrI (wrI g 8 (rdI g 7 3).toNatClampNeg x1) 9 (rdI (wrI g 8 (rdI g 7 3).toNatClampNeg x1) 7 3).toNatClampNeg x2) 10 (rdI (wrI (wrI g 8 (rdI g 7 3).toNatClampNeg x1) 9 (rdI (wrI g 8 (rdI g 7 3).toNatClampNeg x1) 7 3).toNatClampNeg x2) 7 3).toNatClampNeg x3) 7 3) + (1 : Int32)) lf_X1_21 lp_X1_3 (by decide) (cl_7 _ _) (Nat.le_of_ble_eq_true rfl) rfl rfl rfl dX1_note_50 ?_
  refine gx_aload_n X 0 rfl dX1_note_53 ?_
  refine gx_aload_n X 0 rfl dX1_note_54 ?_
  refine gx_getf X (7) lf_X1_21 (by decide) (cl_7 _ _) (v := .int ((rdI (wrI (wrI (wrI (wrI g 8 (rdI g 7 3).toNatClampNeg x1) 9 (rdI (wrI g 8 (rdI g 7 3).toNatClampNeg x1) 7 3).toNatClampNeg x2) 10 (rdI (wrI (wrI g 8 (rdI g 7 3).toNatClampNeg x1) 9 (rdI (wrI g 8 (rdI g 7 3).toNatClampNeg x1) 7 3).toNatClampNeg x2) 7 3).toNatClampNeg x3) 7 3 ((rdI (wrI (wrI (wrI g 8 (rdI g 7 3).toNatClampNeg x1) 9 (rdI (wrI g 8 (rdI g 7 3).toNatClampNeg x1) 7 3).toNatClampNeg x2) 10 (rdI (wrI (wrI g 8 (rdI g 7 3).toNatClampNeg x1) 9 (rdI (wrI g 8 (rdI g 7 3).toNatClampNeg x1) 7 3).toNatClampNeg x2) 7 3).toNatClampNeg x3) 7 3) + (1 : Int32))) 7 3))) rfl dX1_note_55 ?_
  refine gx_putf X (7) (rdI (wrI (wrI (wrI (wrI g 8 (rdI g 7 3).toNatClampNeg x1) 9 (rdI (wrI g 8 (rdI g 7 3).toNatClampNeg x1) 7 3).toNatClampNeg x2) 10 (rdI (wrI (wrI g 8 (rdI g 7 3).toNatClampNeg x1) 9 (rdI (wrI g 8 (rdI g 7 3).toNatClampNeg x1) 7 3).toNatClampNeg x2) 7 3).toNatClampNeg x3) 7 3 ((rdI (wrI (wrI (wrI g 8 (rdI g 7 3).toNatClampNeg x1) 9 (rdI (wrI g 8 (rdI g 7 3).toNatClampNeg x1) 7 3).toNatClampNeg x2) 10 (rdI (wrI (wrI g 8 (rdI g 7 3).toNatClampNeg x1) 9 (rdI (wrI g 8 (rdI g 7 3).toNatClampNeg x1) 7 3).toNatClampNeg x2) 7 3).toNatClampNeg x3) 7 3) + (1 : Int32))) 7 3) lf_X1_25 lp_X1_4 (by decide) (cl_7 _ _) (Nat.le_of_ble_eq_true rfl) rfl rfl rfl dX1_note_58 ?_
  obtain ⟨rfl, rfl⟩ := ret_eq h
  exact gx_vret X dX1_note_61
def m_X1_note (a1 : Int32) (a2 : Int32) (a3 : Int32) (g : Mm) : Option (Int32 × Mm) := (if (rdI g 7 3) = (40 : Int32) then bdd (m_X1_dropOldest  g) (fun ra2 ga3 => m_X1_note_13 a1 a2 a3 ga3) else m_X1_note_13 a1 a2 a3 g)
set_option maxHeartbeats 2000000 in
theorem c_X1_note {r2 : Int32} {g g2 : Mm} {a1 : Int32} {a2 : Int32} {a3 : Int32} (h : m_X1_note a1 a2 a3 g = some (r2, g2)) : gx_M 2 yX1_note cX1_note 4 none (fun al => [.ref (al (7)), .int (a1), .int (a2), .int (a3)]) g none g2 := by
  have hd : 2 ≤ 2 := Nat.le_refl _
  refine gx_M.of (by decide +kernel) (fun _ => Nat.le_of_ble_eq_true rfl) ?_
  intro p l e R s m args below meth c D al cI cJ A X
  refine gx_eq (pc' := 0) (ls' := [(0, .ref (al (7))), (1, .int (a1)), (2, .int (a2)), (3, .int (a3))]) (st' := []) (g' := g) ⟨rfl, rfl, rfl, rfl⟩ ?_
  unfold m_X1_note at h
  refine gx_aload_n X 0 rfl dX1_note_0 ?_
  refine gx_getf X (7) lf_X1_21 (by decide) (cl_7 _ _) (v := .int ((rdI g 7 3))) rfl dX1_note_1 ?_
  refine gx_bipush X (v := (40 : Int32)) dX1_note_4 (by decide) ?_
  refine gx_icmp_ne X 13 dX1_note_6 (by decide) (fun q1 => ?_) (fun q1 => ?_)
  · replace h := (if_neg q1).symm.trans h
    exact gx_sub [0, 1, 2, 3] rfl (t_X1_note_13 X hd a1 a2 a3 g h)
  · replace h := (if_pos q1).symm.trans h
    refine gx_aload_n X 0 rfl dX1_note_9 ?_
    obtain ⟨ra2, ga3, ca4, h⟩ := bdd_eq h
    refine gx_callVv X (7) (c_X1_dropOldest ca4) lc_X1_dropOldest li_X1_dropOldest lm_X1_28 (by decide) (cl_7 _ _) rfl rfl rfl (Nat.le_trans (by decide) hd) rfl (Nat.le_of_ble_eq_true rfl) dX1_note_10 ?_
    exact gx_sub [0, 1, 2, 3] rfl (t_X1_note_13 X hd a1 a2 a3 ga3 h)
theorem dX1_stepBack_0 : decode cX1_stepBack 0 = .ok (.aload_n 0, 1) := by decide +kernel
theorem dX1_stepBack_1 : decode cX1_stepBack 1 = .ok (.dup, 1) := by decide +kernel
theorem dX1_stepBack_2 : decode cX1_stepBack 2 = .ok (.getfield 21, 3) := by decide +kernel
theorem dX1_stepBack_5 : decode cX1_stepBack 5 = .ok (.iconst 1, 1) := by decide +kernel
theorem dX1_stepBack_6 : decode cX1_stepBack 6 = .ok (.isub, 1) := by decide +kernel
theorem dX1_stepBack_7 : decode cX1_stepBack 7 = .ok (.putfield 21, 3) := by decide +kernel
theorem dX1_stepBack_10 : decode cX1_stepBack 10 = .ok (.aload_n 0, 1) := by decide +kernel
theorem dX1_stepBack_11 : decode cX1_stepBack 11 = .ok (.getfield 21, 3) := by decide +kernel
theorem dX1_stepBack_14 : decode cX1_stepBack 14 = .ok (.ireturn, 1) := by decide +kernel
def m_X1_stepBack (g : Mm) : Option (Int32 × Mm) := some ((rdI (wrI g 7 3 ((rdI g 7 3) - (1 : Int32))) 7 3), (wrI g 7 3 ((rdI g 7 3) - (1 : Int32))))
set_option maxHeartbeats 2000000 in
theorem c_X1_stepBack {r2 : Int32} {g g2 : Mm} (h : m_X1_stepBack g = some (r2, g2)) : gx_M 1 yX1_stepBack cX1_stepBack 1 (some .int) (fun al => [.ref (al (7))]) g (some (.int r2)) g2 := by
  have hd : 1 ≤ 1 := Nat.le_refl _
  refine gx_M.of (by decide +kernel) (fun _ => Nat.le_of_ble_eq_true rfl) ?_
  intro p l e R s m args below meth c D al cI cJ A X
  refine gx_eq (pc' := 0) (ls' := [(0, .ref (al (7)))]) (st' := []) (g' := g) ⟨rfl, rfl, rfl, rfl⟩ ?_
  unfold m_X1_stepBack at h
  refine gx_aload_n X 0 rfl dX1_stepBack_0 ?_
  refine gx_dup X dX1_stepBack_1 rfl ?_
  refine gx_getf X (7) lf_X1_21 (by decide) (cl_7 _ _) (v := .int ((rdI g 7 3))) rfl dX1_stepBack_2 ?_
  refine gx_iconst X (v := (1 : Int32)) dX1_stepBack_5 (by decide) ?_
  refine gx_isub X dX1_stepBack_6 ?_
  refine gx_putf X (7) ((rdI g 7 3) - (1 : Int32)) lf_X1_21 lp_X1_3 (by decide) (cl_7 _ _) (Nat.le_of_ble_eq_true rfl) rfl rfl rfl dX1_stepBack_7 ?_
  refine gx_aload_n X 0 rfl dX1_stepBack_10 ?_
  refine gx_getf X (7) lf_X1_21 (by decide) (cl_7 _ _) (v := .int ((rdI (wrI g 7 3 ((rdI g 7 3) - (1 : Int32))) 7 3))) rfl dX1_stepBack_11 ?_
  obtain ⟨rfl, rfl⟩ := ret_eq h
  exact gx_iret X rfl dX1_stepBack_14
theorem dX1_stepOn_0 : decode cX1_stepOn 0 = .ok (.aload_n 0, 1) := by decide +kernel
theorem dX1_stepOn_1 : decode cX1_stepOn 1 = .ok (.dup, 1) := by decide +kernel
theorem dX1_stepOn_2 : decode cX1_stepOn 2 = .ok (.getfield 21, 3) := by decide +kernel
theorem dX1_stepOn_5 : decode cX1_stepOn 5 = .ok (.iconst 1, 1) := by decide +kernel
theorem dX1_stepOn_6 : decode cX1_stepOn 6 = .ok (.iadd, 1) := by decide +kernel
theorem dX1_stepOn_7 : decode cX1_stepOn 7 = .ok (.putfield 21, 3) := by decide +kernel
theorem dX1_stepOn_10 : decode cX1_stepOn 10 = .ok (.aload_n 0, 1) := by decide +kernel
theorem dX1_stepOn_11 : decode cX1_stepOn 11 = .ok (.getfield 21, 3) := by decide +kernel
theorem dX1_stepOn_14 : decode cX1_stepOn 14 = .ok (.iconst 1, 1) := by decide +kernel
theorem dX1_stepOn_15 : decode cX1_stepOn 15 = .ok (.isub, 1) := by decide +kernel
theorem dX1_stepOn_16 : decode cX1_stepOn 16 = .ok (.ireturn, 1) := by decide +kernel
def m_X1_stepOn (g : Mm) : Option (Int32 × Mm) := some (((rdI (wrI g 7 3 ((rdI g 7 3) + (1 : Int32))) 7 3) - (1 : Int32)), (wrI g 7 3 ((rdI g 7 3) + (1 : Int32))))
set_option maxHeartbeats 2000000 in
theorem c_X1_stepOn {r2 : Int32} {g g2 : Mm} (h : m_X1_stepOn g = some (r2, g2)) : gx_M 1 yX1_stepOn cX1_stepOn 1 (some .int) (fun al => [.ref (al (7))]) g (some (.int r2)) g2 := by
  have hd : 1 ≤ 1 := Nat.le_refl _
  refine gx_M.of (by decide +kernel) (fun _ => Nat.le_of_ble_eq_true rfl) ?_
  intro p l e R s m args below meth c D al cI cJ A X
  refine gx_eq (pc' := 0) (ls' := [(0, .ref (al (7)))]) (st' := []) (g' := g) ⟨rfl, rfl, rfl, rfl⟩ ?_
  unfold m_X1_stepOn at h
  refine gx_aload_n X 0 rfl dX1_stepOn_0 ?_
  refine gx_dup X dX1_stepOn_1 rfl ?_
  refine gx_getf X (7) lf_X1_21 (by decide) (cl_7 _ _) (v := .int ((rdI g 7 3))) rfl dX1_stepOn_2 ?_
  refine gx_iconst X (v := (1 : Int32)) dX1_stepOn_5 (by decide) ?_
  refine gx_iadd X dX1_stepOn_6 ?_
  refine gx_putf X (7) ((rdI g 7 3) + (1 : Int32)) lf_X1_21 lp_X1_3 (by decide) (cl_7 _ _) (Nat.le_of_ble_eq_true rfl) rfl rfl rfl dX1_stepOn_7 ?_
  refine gx_aload_n X 0 rfl dX1_stepOn_10 ?_
  refine gx_getf X (7) lf_X1_21 (by decide) (cl_7 _ _) (v := .int ((rdI (wrI g 7 3 ((rdI g 7 3) + (1 : Int32))) 7 3))) rfl dX1_stepOn_11 ?_
  refine gx_iconst X (v := (1 : Int32)) dX1_stepOn_14 (by decide) ?_
  refine gx_isub X dX1_stepOn_15 ?_
  obtain ⟨rfl, rfl⟩ := ret_eq h
  exact gx_iret X rfl dX1_stepOn_16
end DC
