section DC
variable {p : Program} {l : Launch} {e : Env} {R : Room} {s : State} {m : MethodId} {args : Array Value} {below : List Frame} {meth : Method} {c : Code} {D : va_G} {al : Nat → Nat} {cI cJ : ClassId} {A : Nat → Prop} {d : Nat}
theorem dX2_add_0 : decode cX2_add 0 = .ok (.aload_n 0, 1) := by decide +kernel
theorem dX2_add_1 : decode cX2_add 1 = .ok (.getfield 18, 3) := by decide +kernel
theorem dX2_add_4 : decode cX2_add 4 = .ok (.aload_n 0, 1) := by decide +kernel
theorem dX2_add_5 : decode cX2_add 5 = .ok (.getfield 25, 3) := by decide +kernel
theorem dX2_add_8 : decode cX2_add 8 = .ok (.getfield 32, 3) := by decide +kernel
theorem dX2_add_11 : decode cX2_add 11 = .ok (.if_icmp .lt 5, 3) := by decide +kernel
theorem dX2_add_14 : decode cX2_add 14 = .ok (.iconst 0, 1) := by decide +kernel
theorem dX2_add_15 : decode cX2_add 15 = .ok (.ireturn, 1) := by decide +kernel
theorem dX2_add_16 : decode cX2_add 16 = .ok (.aload_n 0, 1) := by decide +kernel
theorem dX2_add_17 : decode cX2_add 17 = .ok (.getfield 9, 3) := by decide +kernel
theorem dX2_add_20 : decode cX2_add 20 = .ok (.aload_n 0, 1) := by decide +kernel
theorem dX2_add_21 : decode cX2_add 21 = .ok (.getfield 18, 3) := by decide +kernel
theorem dX2_add_24 : decode cX2_add 24 = .ok (.iload_n 1, 1) := by decide +kernel
theorem dX2_add_25 : decode cX2_add 25 = .ok (.iastore, 1) := by decide +kernel
theorem dX2_add_26 : decode cX2_add 26 = .ok (.aload_n 0, 1) := by decide +kernel
theorem dX2_add_27 : decode cX2_add 27 = .ok (.dup, 1) := by decide +kernel
theorem dX2_add_28 : decode cX2_add 28 = .ok (.getfield 18, 3) := by decide +kernel
theorem dX2_add_31 : decode cX2_add 31 = .ok (.iconst 1, 1) := by decide +kernel
theorem dX2_add_32 : decode cX2_add 32 = .ok (.iadd, 1) := by decide +kernel
theorem dX2_add_33 : decode cX2_add 33 = .ok (.putfield 18, 3) := by decide +kernel
theorem dX2_add_36 : decode cX2_add 36 = .ok (.iconst 1, 1) := by decide +kernel
theorem dX2_add_37 : decode cX2_add 37 = .ok (.ireturn, 1) := by decide +kernel
def m_X2_add (a1 : Int32) (g : Mm) : Option (Int32 × Mm) := (if (rdI g 29 3) < (rdI g 1 0) then gdd (ixo (rdI g 29 3) 6) (some ((1 : Int32), (wrI (wrI g 30 (rdI g 29 3).toNatClampNeg a1) 29 3 ((rdI (wrI g 30 (rdI g 29 3).toNatClampNeg a1) 29 3) + (1 : Int32))))) else some ((0 : Int32), g))
set_option maxHeartbeats 2000000 in
theorem c_X2_add {r2 : Int32} {g g2 : Mm} {a1 : Int32} (h : m_X2_add a1 g = some (r2, g2)) : gx_M 1 yX2_add cX2_add 2 (some .boolean) (fun al => [.ref (al (29)), .int (a1)]) g (some (.int r2)) g2 := by
  have hd : 1 ≤ 1 := Nat.le_refl _
  refine gx_M.of (by decide +kernel) (fun _ => Nat.le_of_ble_eq_true rfl) ?_
  intro p l e R s m args below meth c D al cI cJ A X
  refine gx_eq (pc' := 0) (ls' := [(0, .ref (al (29))), (1, .int (a1))]) (st' := []) (g' := g) ⟨rfl, rfl, rfl, rfl⟩ ?_
  unfold m_X2_add at h
  refine gx_aload_n X 0 rfl dX2_add_0 ?_
  refine gx_getf X (29) lf_X2_18 (by decide) (cl_29 _ _) (v := .int ((rdI g 29 3))) rfl dX2_add_1 ?_
  refine gx_aload_n X 0 rfl dX2_add_4 ?_
  refine gx_getf X (29) lf_X2_25 (by decide) (cl_29 _ _) (v := .ref (al (1))) rfl dX2_add_5 ?_
  refine gx_getn X (1) lf_X2_32 (by decide) (cl_1 _ _) (v := .int ((rdI g 1 0))) rfl dX2_add_8 ?_
  refine gx_icmp_lt X 16 dX2_add_11 (by decide) (fun q1 => ?_) (fun q1 => ?_)
  · replace h := (if_pos q1).symm.trans h
    refine gx_aload_n X 0 rfl dX2_add_16 ?_
    refine gx_getf X (29) lf_X2_9 (by decide) (cl_29 _ _) (v := .ref (al (30))) rfl dX2_add_17 ?_
    refine gx_aload_n X 0 rfl dX2_add_20 ?_
    refine gx_getf X (29) lf_X2_18 (by decide) (cl_29 _ _) (v := .int ((rdI g 29 3))) rfl dX2_add_21 ?_
    refine gx_iload_n X 1 rfl dX2_add_24 ?_
    obtain ⟨q2, h⟩ := gdd_eq h
    refine gx_iast X (30) 6 (by decide) (fun r => cl_30 r _) q2 dX2_add_25 ?_
    refine gx_aload_n X 0 rfl dX2_add_26 ?_
    refine gx_dup X dX2_add_27 rfl ?_
    refine gx_getf X (29) lf_X2_18 (by decide) (cl_29 _ _) (v := .int ((rdI (wrI g 30 (rdI g 29 3).toNatClampNeg a1) 29 3))) rfl dX2_add_28 ?_
    refine gx_iconst X (v := (1 : Int32)) dX2_add_31 (by decide) ?_
    refine gx_iadd X dX2_add_32 ?_
    refine gx_putf X (29) ((rdI (wrI g 30 (rdI g 29 3).toNatClampNeg a1) 29 3) + (1 : Int32)) lf_X2_18 lp_X2_3 (by decide) (cl_29 _ _) (Nat.le_of_ble_eq_true rfl) rfl rfl rfl dX2_add_33 ?_
    refine gx_iconst X (v := (1 : Int32)) dX2_add_36 (by decide) ?_
    obtain ⟨rfl, rfl⟩ := ret_eq h
    exact gx_iret X rfl dX2_add_37
  · replace h := (if_neg q1).symm.trans h
    refine gx_iconst X (v := (0 : Int32)) dX2_add_14 (by decide) ?_
    obtain ⟨rfl, rfl⟩ := ret_eq h
    exact gx_iret X rfl dX2_add_15
theorem dX2_forgetTold_0 : decode cX2_forgetTold 0 = .ok (.iconst 0, 1) := by decide +kernel
theorem dX2_forgetTold_1 : decode cX2_forgetTold 1 = .ok (.istore_n 1, 1) := by decide +kernel
theorem dX2_forgetTold_2 : decode cX2_forgetTold 2 = .ok (.iload_n 1, 1) := by decide +kernel
theorem dX2_forgetTold_3 : decode cX2_forgetTold 3 = .ok (.bipush 6, 2) := by decide +kernel
theorem dX2_forgetTold_5 : decode cX2_forgetTold 5 = .ok (.if_icmp .ge 16, 3) := by decide +kernel
theorem dX2_forgetTold_8 : decode cX2_forgetTold 8 = .ok (.aload_n 0, 1) := by decide +kernel
theorem dX2_forgetTold_9 : decode cX2_forgetTold 9 = .ok (.getfield 9, 3) := by decide +kernel
theorem dX2_forgetTold_12 : decode cX2_forgetTold 12 = .ok (.iload_n 1, 1) := by decide +kernel
theorem dX2_forgetTold_13 : decode cX2_forgetTold 13 = .ok (.iconst (-1), 1) := by decide +kernel
theorem dX2_forgetTold_14 : decode cX2_forgetTold 14 = .ok (.iastore, 1) := by decide +kernel
theorem dX2_forgetTold_15 : decode cX2_forgetTold 15 = .ok (.iinc 1 1, 3) := by decide +kernel
theorem dX2_forgetTold_18 : decode cX2_forgetTold 18 = .ok (.goto (-16), 3) := by decide +kernel
theorem dX2_forgetTold_21 : decode cX2_forgetTold 21 = .ok (.aload_n 0, 1) := by decide +kernel
theorem dX2_forgetTold_22 : decode cX2_forgetTold 22 = .ok (.iconst 0, 1) := by decide +kernel
theorem dX2_forgetTold_23 : decode cX2_forgetTold 23 = .ok (.putfield 18, 3) := by decide +kernel
theorem dX2_forgetTold_26 : decode cX2_forgetTold 26 = .ok (.return_, 1) := by decide +kernel
def m_X2_forgetTold_2 : Nat → Int32 → Mm → Option (Int32 × Mm)
  | 0, _, _ => none
  | n + 1, x1, g => (if (6 : Int32) ≤ x1 then some ((0 : Int32), (wrI g 29 3 (0 : Int32))) else gdd (ixo x1 6) (m_X2_forgetTold_2 n (x1 + (1 : Int32)) (wrI g 30 x1.toNatClampNeg (-1 : Int32))))
set_option maxHeartbeats 2000000 in
theorem t_X2_forgetTold_2 {r2 : Int32} {g2 : Mm} (X : gx_X p R s m args meth c D al cI cJ A RX2 cX2_forgetTold 2 none d 0 0) (hd : 1 ≤ d) : ∀ (n : Nat) (x1 : Int32) (g : Mm), m_X2_forgetTold_2 n x1 g = some (r2, g2) → gx_G p l e R s m args below meth c (gx_Q below args s D al cI cJ A none g2) D al cI cJ A 2 0 0 2 [(0, .ref (al (29))), (1, .int (x1))] [] g := by
  intro n
  induction n with
  | zero => intro x1 g h; cases h
  | succ n ih =>
    intro x1 g h
    rw [m_X2_forgetTold_2] at h
    refine gx_iload_n X 1 rfl dX2_forgetTold_2 ?_
    refine gx_bipush X (v := (6 : Int32)) dX2_forgetTold_3 (by decide) ?_
    refine gx_icmp_ge X 21 dX2_forgetTold_5 (by decide) (fun q1 => ?_) (fun q1 => ?_)
    · replace h := (if_pos q1).symm.trans h
      refine gx_aload_n X 0 rfl dX2_forgetTold_21 ?_
      refine gx_iconst X (v := (0 : Int32)) dX2_forgetTold_22 (by decide) ?_
      refine gx_putf X (29) (0 : Int32) lf_X2_18 lp_X2_3 (by decide) (cl_29 _ _) (Nat.le_of_ble_eq_true rfl) rfl rfl rfl dX2_forgetTold_23 ?_
      obtain ⟨rfl, rfl⟩ := ret_eq h
      exact gx_vret X dX2_forgetTold_26
    · replace h := (if_neg q1).symm.trans h
      refine gx_aload_n X 0 rfl dX2_forgetTold_8 ?_
      refine gx_getf X (29) lf_X2_9 (by decide) (cl_29 _ _) (v := .ref (al (30))) rfl dX2_forgetTold_9 ?_
      refine gx_iload_n X 1 rfl dX2_forgetTold_12 ?_
      refine gx_iconst X (v := (-1 : Int32)) dX2_forgetTold_13 (by decide) ?_
      obtain ⟨q2, h⟩ := gdd_eq h
      refine gx_iast X (30) 6 (by decide) (fun r => cl_30 r _) q2 dX2_forgetTold_14 ?_
      refine gx_iinc X [(1, .int ((x1 + (1 : Int32)))), (0, .ref (al (29)))] 1 dX2_forgetTold_15 rfl rfl (by decide) rfl ?_
      refine gx_goto X 2 dX2_forgetTold_18 (by decide) ?_
      exact gx_sub [1, 0] rfl (ih (x1 + (1 : Int32)) (wrI g 30 x1.toNatClampNeg (-1 : Int32)) h)
def m_X2_forgetTold (g : Mm) : Option (Int32 × Mm) := m_X2_forgetTold_2 fuL (0 : Int32) g
set_option maxHeartbeats 2000000 in
theorem c_X2_forgetTold {r2 : Int32} {g g2 : Mm} (h : m_X2_forgetTold g = some (r2, g2)) : gx_M 1 yX2_forgetTold cX2_forgetTold 2 none (fun al => [.ref (al (29))]) g none g2 := by
  have hd : 1 ≤ 1 := Nat.le_refl _
  refine gx_M.of (by decide +kernel) (fun _ => Nat.le_of_ble_eq_true rfl) ?_
  intro p l e R s m args below meth c D al cI cJ A X
  refine gx_eq (pc' := 0) (ls' := [(0, .ref (al (29)))]) (st' := []) (g' := g) ⟨rfl, rfl, rfl, rfl⟩ ?_
  unfold m_X2_forgetTold at h
  refine gx_iconst X (v := (0 : Int32)) dX2_forgetTold_0 (by decide) ?_
  refine gx_istore_n X [(1, .int ((0 : Int32))), (0, .ref (al (29)))] dX2_forgetTold_1 (by decide) rfl ?_
  exact gx_sub [1, 0] rfl (t_X2_forgetTold_2 X hd fuL (0 : Int32) g h)
theorem dX2_hourBehind_0 : decode cX2_hourBehind 0 = .ok (.iload_n 1, 1) := by decide +kernel
theorem dX2_hourBehind_1 : decode cX2_hourBehind 1 = .ok (.iload_n 2, 1) := by decide +kernel
theorem dX2_hourBehind_2 : decode cX2_hourBehind 2 = .ok (.iadd, 1) := by decide +kernel
theorem dX2_hourBehind_3 : decode cX2_hourBehind 3 = .ok (.aload_n 0, 1) := by decide +kernel
theorem dX2_hourBehind_4 : decode cX2_hourBehind 4 = .ok (.getfield 25, 3) := by decide +kernel
theorem dX2_hourBehind_7 : decode cX2_hourBehind 7 = .ok (.getfield 43, 3) := by decide +kernel
theorem dX2_hourBehind_10 : decode cX2_hourBehind 10 = .ok (.invokestatic 61, 3) := by decide +kernel
theorem dX2_hourBehind_13 : decode cX2_hourBehind 13 = .ok (.ireturn, 1) := by decide +kernel
def m_X2_hourBehind (a1 : Int32) (a2 : Int32) (g : Mm) : Option (Int32 × Mm) := bdd (m_J9_floorMod_7cf53 (a1 + a2) (rdI g 1 1) g) (fun ra1 ga2 => some (ra1, ga2))
set_option maxHeartbeats 2000000 in
theorem c_X2_hourBehind {r2 : Int32} {g g2 : Mm} {a1 : Int32} {a2 : Int32} (h : m_X2_hourBehind a1 a2 g = some (r2, g2)) : gx_M 2 yX2_hourBehind cX2_hourBehind 3 (some .int) (fun al => [.ref (al (29)), .int (a1), .int (a2)]) g (some (.int r2)) g2 := by
  have hd : 2 ≤ 2 := Nat.le_refl _
  refine gx_M.of (by decide +kernel) (fun _ => Nat.le_of_ble_eq_true rfl) ?_
  intro p l e R s m args below meth c D al cI cJ A X
  refine gx_eq (pc' := 0) (ls' := [(0, .ref (al (29))), (1, .int (a1)), (2, .int (a2))]) (st' := []) (g' := g) ⟨rfl, rfl, rfl, rfl⟩ ?_
  unfold m_X2_hourBehind at h
  refine gx_iload_n X 1 rfl dX2_hourBehind_0 ?_
  refine gx_iload_n X 2 rfl dX2_hourBehind_1 ?_
  refine gx_iadd X dX2_hourBehind_2 ?_
  refine gx_aload_n X 0 rfl dX2_hourBehind_3 ?_
  refine gx_getf X (29) lf_X2_25 (by decide) (cl_29 _ _) (v := .ref (al (1))) rfl dX2_hourBehind_4 ?_
  refine gx_getn X (1) lf_X2_43 (by decide) (cl_1 _ _) (v := .int ((rdI g 1 1))) rfl dX2_hourBehind_7 ?_
  obtain ⟨ra1, ga2, ca3, h⟩ := bdd_eq h
  refine gx_callSi X (c_J9_floorMod_7cf53 ca3) lc_J9_floorMod_7cf53 li_J9_floorMod_7cf53 lm_X2_61 rfl rfl (Nat.le_trans (by decide) hd) rfl (Nat.le_of_ble_eq_true rfl) dX2_hourBehind_10 ?_
  obtain ⟨rfl, rfl⟩ := ret_eq h
  exact gx_iret X rfl dX2_hourBehind_13
theorem dX2_mayBe_0 : decode cX2_mayBe 0 = .ok (.iconst 0, 1) := by decide +kernel
theorem dX2_mayBe_1 : decode cX2_mayBe 1 = .ok (.istore 4, 2) := by decide +kernel
theorem dX2_mayBe_3 : decode cX2_mayBe 3 = .ok (.iload 4, 2) := by decide +kernel
theorem dX2_mayBe_5 : decode cX2_mayBe 5 = .ok (.aload_n 0, 1) := by decide +kernel
theorem dX2_mayBe_6 : decode cX2_mayBe 6 = .ok (.getfield 25, 3) := by decide +kernel
theorem dX2_mayBe_9 : decode cX2_mayBe 9 = .ok (.getfield 32, 3) := by decide +kernel
theorem dX2_mayBe_12 : decode cX2_mayBe 12 = .ok (.if_icmp .ge 40, 3) := by decide +kernel
theorem dX2_mayBe_15 : decode cX2_mayBe 15 = .ok (.aload_n 1, 1) := by decide +kernel
theorem dX2_mayBe_16 : decode cX2_mayBe 16 = .ok (.iload_n 2, 1) := by decide +kernel
theorem dX2_mayBe_17 : decode cX2_mayBe 17 = .ok (.iload 4, 2) := by decide +kernel
theorem dX2_mayBe_19 : decode cX2_mayBe 19 = .ok (.iadd, 1) := by decide +kernel
theorem dX2_mayBe_20 : decode cX2_mayBe 20 = .ok (.iaload, 1) := by decide +kernel
theorem dX2_mayBe_21 : decode cX2_mayBe 21 = .ok (.istore 5, 2) := by decide +kernel
theorem dX2_mayBe_23 : decode cX2_mayBe 23 = .ok (.iload 5, 2) := by decide +kernel
theorem dX2_mayBe_25 : decode cX2_mayBe 25 = .ok (.iconst (-1), 1) := by decide +kernel
theorem dX2_mayBe_26 : decode cX2_mayBe 26 = .ok (.if_icmp .eq 20, 3) := by decide +kernel
theorem dX2_mayBe_29 : decode cX2_mayBe 29 = .ok (.iload 5, 2) := by decide +kernel
theorem dX2_mayBe_31 : decode cX2_mayBe 31 = .ok (.aload_n 0, 1) := by decide +kernel
theorem dX2_mayBe_32 : decode cX2_mayBe 32 = .ok (.getfield 25, 3) := by decide +kernel
theorem dX2_mayBe_35 : decode cX2_mayBe 35 = .ok (.iload_n 3, 1) := by decide +kernel
theorem dX2_mayBe_36 : decode cX2_mayBe 36 = .ok (.iload 4, 2) := by decide +kernel
theorem dX2_mayBe_38 : decode cX2_mayBe 38 = .ok (.invokevirtual 50, 3) := by decide +kernel
theorem dX2_mayBe_41 : decode cX2_mayBe 41 = .ok (.if_icmp .eq 5, 3) := by decide +kernel
theorem dX2_mayBe_44 : decode cX2_mayBe 44 = .ok (.iconst 0, 1) := by decide +kernel
theorem dX2_mayBe_45 : decode cX2_mayBe 45 = .ok (.ireturn, 1) := by decide +kernel
theorem dX2_mayBe_46 : decode cX2_mayBe 46 = .ok (.iinc 4 1, 3) := by decide +kernel
theorem dX2_mayBe_49 : decode cX2_mayBe 49 = .ok (.goto (-46), 3) := by decide +kernel
theorem dX2_mayBe_52 : decode cX2_mayBe 52 = .ok (.iconst 1, 1) := by decide +kernel
theorem dX2_mayBe_53 : decode cX2_mayBe 53 = .ok (.ireturn, 1) := by decide +kernel
def m_X2_mayBe_3 (a1 : Nat) (n1 : Nat) : Nat → Int32 → Int32 → Int32 → Mm → Option (Int32 × Mm)
  | 0, _, _, _, _ => none
  | n + 1, x2, x3, x4, g => (if (rdI g 1 0) ≤ x4 then some ((1 : Int32), g) else gdd (ixo (x2 + x4) n1) ((if (rdI g a1 (x2 + x4).toNatClampNeg) = (-1 : Int32) then m_X2_mayBe_3 a1 n1 n x2 x3 (x4 + (1 : Int32)) g else bdd (m_X8_struck x3 x4 g) (fun ra4 ga5 => (if (rdI g a1 (x2 + x4).toNatClampNeg) = ra4 then m_X2_mayBe_3 a1 n1 n x2 x3 (x4 + (1 : Int32)) ga5 else some ((0 : Int32), ga5))))))
set_option maxHeartbeats 2000000 in
theorem t_X2_mayBe_3 {r2 : Int32} {g2 : Mm} (X : gx_X p R s m args meth c D al cI cJ A RX2 cX2_mayBe 6 (some .boolean) d 0 0) (hd : 2 ≤ d) {a1 : Nat} {n1 : Nat} (h1 : ia_ a1 n1) : ∀ (n : Nat) (x2 : Int32) (x3 : Int32) (x4 : Int32) (g : Mm), m_X2_mayBe_3 a1 n1 n x2 x3 x4 g = some (r2, g2) → gx_G p l e R s m args below meth c (gx_Q below args s D al cI cJ A (some (.int r2)) g2) D al cI cJ A 6 0 0 3 [(0, .ref (al (29))), (1, .ref (al (a1))), (2, .int (x2)), (3, .int (x3)), (4, .int (x4))] [] g := by
  intro n
  induction n with
  | zero => intro x2 x3 x4 g h; cases h
  | succ n ih =>
    intro x2 x3 x4 g h
    rw [m_X2_mayBe_3] at h
    refine gx_iload X 4 rfl dX2_mayBe_3 ?_
    refine gx_aload_n X 0 rfl dX2_mayBe_5 ?_
    refine gx_getf X (29) lf_X2_25 (by decide) (cl_29 _ _) (v := .ref (al (1))) rfl dX2_mayBe_6 ?_
    refine gx_getn X (1) lf_X2_32 (by decide) (cl_1 _ _) (v := .int ((rdI g 1 0))) rfl dX2_mayBe_9 ?_
    refine gx_icmp_ge X 52 dX2_mayBe_12 (by decide) (fun q1 => ?_) (fun q1 => ?_)
    · replace h := (if_pos q1).symm.trans h
      refine gx_iconst X (v := (1 : Int32)) dX2_mayBe_52 (by decide) ?_
      obtain ⟨rfl, rfl⟩ := ret_eq h
      exact gx_iret X rfl dX2_mayBe_53
    · replace h := (if_neg q1).symm.trans h
      refine gx_aload_n X 1 rfl dX2_mayBe_15 ?_
      refine gx_iload_n X 2 rfl dX2_mayBe_16 ?_
      refine gx_iload X 4 rfl dX2_mayBe_17 ?_
      refine gx_iadd X dX2_mayBe_19 ?_
      obtain ⟨q2, h⟩ := gdd_eq h
      refine gx_iald X (a1) n1 h1.1 (h1.2 _ _ _ _ _) q2 dX2_mayBe_20 ?_
      refine gx_istore X [(5, .int ((rdI g a1 (x2 + x4).toNatClampNeg))), (0, .ref (al (29))), (1, .ref (al (a1))), (2, .int (x2)), (3, .int (x3)), (4, .int (x4))] dX2_mayBe_21 (by decide) rfl ?_
      refine gx_iload X 0 rfl dX2_mayBe_23 ?_
      refine gx_iconst X (v := (-1 : Int32)) dX2_mayBe_25 (by decide) ?_
      refine gx_icmp_eq X 46 dX2_mayBe_26 (by decide) (fun q3 => ?_) (fun q3 => ?_)
      · replace h := (if_pos q3).symm.trans h
        refine gx_iinc X [(4, .int ((x4 + (1 : Int32)))), (5, .int ((rdI g a1 (x2 + x4).toNatClampNeg))), (0, .ref (al (29))), (1, .ref (al (a1))), (2, .int (x2)), (3, .int (x3))] 5 dX2_mayBe_46 rfl rfl (by decide) rfl ?_
        refine gx_goto X 3 dX2_mayBe_49 (by decide) ?_
        exact gx_sub [2, 3, 4, 5, 0] rfl (ih x2 x3 (x4 + (1 : Int32)) g h)
      · replace h := (if_neg q3).symm.trans h
        refine gx_iload X 0 rfl dX2_mayBe_29 ?_
        refine gx_aload_n X 1 rfl dX2_mayBe_31 ?_
        refine gx_getf X (29) lf_X2_25 (by decide) (cl_29 _ _) (v := .ref (al (1))) rfl dX2_mayBe_32 ?_
        refine gx_iload_n X 4 rfl dX2_mayBe_35 ?_
        refine gx_iload X 5 rfl dX2_mayBe_36 ?_
        obtain ⟨ra4, ga5, ca6, h⟩ := bdd_eq h
        refine gx_callNi X (1) (c_X8_struck ca6) lc_X8_struck li_X8_struck lm_X2_50 (by decide) (cl_1 _ _) rfl rfl rfl (Nat.le_trans (by decide) hd) rfl (Nat.le_of_ble_eq_true rfl) dX2_mayBe_38 ?_
        refine gx_icmp_eq X 46 dX2_mayBe_41 (by decide) (fun q7 => ?_) (fun q7 => ?_)
        · replace h := (if_pos q7).symm.trans h
          refine gx_iinc X [(4, .int ((x4 + (1 : Int32)))), (5, .int ((rdI g a1 (x2 + x4).toNatClampNeg))), (0, .ref (al (29))), (1, .ref (al (a1))), (2, .int (x2)), (3, .int (x3))] 5 dX2_mayBe_46 rfl rfl (by decide) rfl ?_
          refine gx_goto X 3 dX2_mayBe_49 (by decide) ?_
          exact gx_sub [2, 3, 4, 5, 0] rfl (ih x2 x3 (x4 + (1 : Int32)) ga5 h)
        · replace h := (if_neg q7).symm.trans h
          refine gx_iconst X (v := (0 : Int32)) dX2_mayBe_44 (by decide) ?_
          obtain ⟨rfl, rfl⟩ := ret_eq h
          exact gx_iret X rfl dX2_mayBe_45
def m_X2_mayBe (a1 : Nat) (n1 : Nat) (a2 : Int32) (a3 : Int32) (g : Mm) : Option (Int32 × Mm) := m_X2_mayBe_3 a1 n1 fuL a2 a3 (0 : Int32) g
set_option maxHeartbeats 2000000 in
theorem c_X2_mayBe {r2 : Int32} {g g2 : Mm} {a1 : Nat} {n1 : Nat} {a2 : Int32} {a3 : Int32} (h1 : ia_ a1 n1) (h : m_X2_mayBe a1 n1 a2 a3 g = some (r2, g2)) : gx_M 2 yX2_mayBe cX2_mayBe 6 (some .boolean) (fun al => [.ref (al (29)), .ref (al (a1)), .int (a2), .int (a3)]) g (some (.int r2)) g2 := by
  have hd : 2 ≤ 2 := Nat.le_refl _
  refine gx_M.of (by decide +kernel) (fun _ => Nat.le_of_ble_eq_true rfl) ?_
  intro p l e R s m args below meth c D al cI cJ A X
  refine gx_eq (pc' := 0) (ls' := [(0, .ref (al (29))), (1, .ref (al (a1))), (2, .int (a2)), (3, .int (a3))]) (st' := []) (g' := g) ⟨rfl, rfl, rfl, rfl⟩ ?_
  unfold m_X2_mayBe at h
  refine gx_iconst X (v := (0 : Int32)) dX2_mayBe_0 (by decide) ?_
  refine gx_istore X [(4, .int ((0 : Int32))), (0, .ref (al (29))), (1, .ref (al (a1))), (2, .int (a2)), (3, .int (a3))] dX2_mayBe_1 (by decide) rfl ?_
  exact gx_sub [1, 2, 3, 4, 0] rfl (t_X2_mayBe_3 X hd h1 fuL a2 a3 (0 : Int32) g h)
theorem dX2_mayHaveBegun_0 : decode cX2_mayHaveBegun 0 = .ok (.iconst 0, 1) := by decide +kernel
theorem dX2_mayHaveBegun_1 : decode cX2_mayHaveBegun 1 = .ok (.istore_n 2, 1) := by decide +kernel
theorem dX2_mayHaveBegun_2 : decode cX2_mayHaveBegun 2 = .ok (.iload_n 2, 1) := by decide +kernel
theorem dX2_mayHaveBegun_3 : decode cX2_mayHaveBegun 3 = .ok (.aload_n 0, 1) := by decide +kernel
theorem dX2_mayHaveBegun_4 : decode cX2_mayHaveBegun 4 = .ok (.getfield 22, 3) := by decide +kernel
theorem dX2_mayHaveBegun_7 : decode cX2_mayHaveBegun 7 = .ok (.if_icmp .ge 32, 3) := by decide +kernel
theorem dX2_mayHaveBegun_10 : decode cX2_mayHaveBegun 10 = .ok (.aload_n 0, 1) := by decide +kernel
theorem dX2_mayHaveBegun_11 : decode cX2_mayHaveBegun 11 = .ok (.aload_n 0, 1) := by decide +kernel
theorem dX2_mayHaveBegun_12 : decode cX2_mayHaveBegun 12 = .ok (.getfield 15, 3) := by decide +kernel
theorem dX2_mayHaveBegun_15 : decode cX2_mayHaveBegun 15 = .ok (.iload_n 2, 1) := by decide +kernel
theorem dX2_mayHaveBegun_16 : decode cX2_mayHaveBegun 16 = .ok (.bipush 6, 2) := by decide +kernel
theorem dX2_mayHaveBegun_18 : decode cX2_mayHaveBegun 18 = .ok (.imul, 1) := by decide +kernel
theorem dX2_mayHaveBegun_19 : decode cX2_mayHaveBegun 19 = .ok (.aload_n 0, 1) := by decide +kernel
theorem dX2_mayHaveBegun_20 : decode cX2_mayHaveBegun 20 = .ok (.iload_n 1, 1) := by decide +kernel
theorem dX2_mayHaveBegun_21 : decode cX2_mayHaveBegun 21 = .ok (.iload_n 2, 1) := by decide +kernel
theorem dX2_mayHaveBegun_22 : decode cX2_mayHaveBegun 22 = .ok (.invokevirtual 58, 3) := by decide +kernel
theorem dX2_mayHaveBegun_25 : decode cX2_mayHaveBegun 25 = .ok (.invokevirtual 46, 3) := by decide +kernel
theorem dX2_mayHaveBegun_28 : decode cX2_mayHaveBegun 28 = .ok (.ifCond .ne 5, 3) := by decide +kernel
theorem dX2_mayHaveBegun_31 : decode cX2_mayHaveBegun 31 = .ok (.iconst 0, 1) := by decide +kernel
theorem dX2_mayHaveBegun_32 : decode cX2_mayHaveBegun 32 = .ok (.ireturn, 1) := by decide +kernel
theorem dX2_mayHaveBegun_33 : decode cX2_mayHaveBegun 33 = .ok (.iinc 2 1, 3) := by decide +kernel
theorem dX2_mayHaveBegun_36 : decode cX2_mayHaveBegun 36 = .ok (.goto (-34), 3) := by decide +kernel
theorem dX2_mayHaveBegun_39 : decode cX2_mayHaveBegun 39 = .ok (.iconst 1, 1) := by decide +kernel
theorem dX2_mayHaveBegun_40 : decode cX2_mayHaveBegun 40 = .ok (.ireturn, 1) := by decide +kernel
def m_X2_mayHaveBegun_2 : Nat → Int32 → Int32 → Mm → Option (Int32 × Mm)
  | 0, _, _, _ => none
  | n + 1, x1, x2, g => (if (rdI g 29 4) ≤ x2 then some ((1 : Int32), g) else bdd (m_X2_hourBehind x1 x2 g) (fun ra2 ga3 => bdd (m_X2_mayBe 31 72 (x2 * (6 : Int32)) ra2 ga3) (fun ra5 ga6 => (if ra5 = (0 : Int32) then some ((0 : Int32), ga6) else m_X2_mayHaveBegun_2 n x1 (x2 + (1 : Int32)) ga6))))
set_option maxHeartbeats 2000000 in
theorem t_X2_mayHaveBegun_2 {r2 : Int32} {g2 : Mm} (X : gx_X p R s m args meth c D al cI cJ A RX2 cX2_mayHaveBegun 3 (some .boolean) d 0 0) (hd : 3 ≤ d) : ∀ (n : Nat) (x1 : Int32) (x2 : Int32) (g : Mm), m_X2_mayHaveBegun_2 n x1 x2 g = some (r2, g2) → gx_G p l e R s m args below meth c (gx_Q below args s D al cI cJ A (some (.int r2)) g2) D al cI cJ A 3 0 0 2 [(0, .ref (al (29))), (1, .int (x1)), (2, .int (x2))] [] g := by
  intro n
  induction n with
  | zero => intro x1 x2 g h; cases h
  | succ n ih =>
    intro x1 x2 g h
    rw [m_X2_mayHaveBegun_2] at h
    refine gx_iload_n X 2 rfl dX2_mayHaveBegun_2 ?_
    refine gx_aload_n X 0 rfl dX2_mayHaveBegun_3 ?_
    refine gx_getf X (29) lf_X2_22 (by decide) (cl_29 _ _) (v := .int ((rdI g 29 4))) rfl dX2_mayHaveBegun_4 ?_
    refine gx_icmp_ge X 39 dX2_mayHaveBegun_7 (by decide) (fun q1 => ?_) (fun q1 => ?_)
    · replace h := (if_pos q1).symm.trans h
      refine gx_iconst X (v := (1 : Int32)) dX2_mayHaveBegun_39 (by decide) ?_
      obtain ⟨rfl, rfl⟩ := ret_eq h
      exact gx_iret X rfl dX2_mayHaveBegun_40
    · replace h := (if_neg q1).symm.trans h
      refine gx_aload_n X 0 rfl dX2_mayHaveBegun_10 ?_
      refine gx_aload_n X 0 rfl dX2_mayHaveBegun_11 ?_
      refine gx_getf X (29) lf_X2_15 (by decide) (cl_29 _ _) (v := .ref (al (31))) rfl dX2_mayHaveBegun_12 ?_
      refine gx_iload_n X 2 rfl dX2_mayHaveBegun_15 ?_
      refine gx_bipush X (v := (6 : Int32)) dX2_mayHaveBegun_16 (by decide) ?_
      refine gx_imul X dX2_mayHaveBegun_18 ?_
      refine gx_aload_n X 0 rfl dX2_mayHaveBegun_19 ?_
      refine gx_iload_n X 1 rfl dX2_mayHaveBegun_20 ?_
      refine gx_iload_n X 2 rfl dX2_mayHaveBegun_21 ?_
      obtain ⟨ra2, ga3, ca4, h⟩ := bdd_eq h
      refine gx_callVi X (29) (c_X2_hourBehind ca4) lc_X2_hourBehind li_X2_hourBehind lm_X2_58 (by decide) (cl_29 _ _) rfl rfl rfl (Nat.le_trans (by decide) hd) rfl (Nat.le_of_ble_eq_true rfl) dX2_mayHaveBegun_22 ?_
      obtain ⟨ra5, ga6, ca7, h⟩ := bdd_eq h
      refine gx_callVi X (29) (c_X2_mayBe ⟨(by decide), fun _ _ _ _ _ => (cl_31 _ _)⟩ ca7) lc_X2_mayBe li_X2_mayBe lm_X2_46 (by decide) (cl_29 _ _) rfl rfl rfl (Nat.le_trans (by decide) hd) rfl (Nat.le_of_ble_eq_true rfl) dX2_mayHaveBegun_25 ?_
      refine gx_if_ne X 33 dX2_mayHaveBegun_28 (by decide) (fun q8 => ?_) (fun q8 => ?_)
      · replace h := (if_neg q8).symm.trans h
        refine gx_iinc X [(2, .int ((x2 + (1 : Int32)))), (0, .ref (al (29))), (1, .int (x1))] 2 dX2_mayHaveBegun_33 rfl rfl (by decide) rfl ?_
        refine gx_goto X 2 dX2_mayHaveBegun_36 (by decide) ?_
        exact gx_sub [1, 2, 0] rfl (ih x1 (x2 + (1 : Int32)) ga6 h)
      · replace h := (if_pos q8).symm.trans h
        refine gx_iconst X (v := (0 : Int32)) dX2_mayHaveBegun_31 (by decide) ?_
        obtain ⟨rfl, rfl⟩ := ret_eq h
        exact gx_iret X rfl dX2_mayHaveBegun_32
def m_X2_mayHaveBegun (a1 : Int32) (g : Mm) : Option (Int32 × Mm) := m_X2_mayHaveBegun_2 fuL a1 (0 : Int32) g
set_option maxHeartbeats 2000000 in
theorem c_X2_mayHaveBegun {r2 : Int32} {g g2 : Mm} {a1 : Int32} (h : m_X2_mayHaveBegun a1 g = some (r2, g2)) : gx_M 3 yX2_mayHaveBegun cX2_mayHaveBegun 3 (some .boolean) (fun al => [.ref (al (29)), .int (a1)]) g (some (.int r2)) g2 := by
  have hd : 3 ≤ 3 := Nat.le_refl _
  refine gx_M.of (by decide +kernel) (fun _ => Nat.le_of_ble_eq_true rfl) ?_
  intro p l e R s m args below meth c D al cI cJ A X
  refine gx_eq (pc' := 0) (ls' := [(0, .ref (al (29))), (1, .int (a1))]) (st' := []) (g' := g) ⟨rfl, rfl, rfl, rfl⟩ ?_
  unfold m_X2_mayHaveBegun at h
  refine gx_iconst X (v := (0 : Int32)) dX2_mayHaveBegun_0 (by decide) ?_
  refine gx_istore_n X [(2, .int ((0 : Int32))), (0, .ref (al (29))), (1, .int (a1))] dX2_mayHaveBegun_1 (by decide) rfl ?_
  exact gx_sub [1, 2, 0] rfl (t_X2_mayHaveBegun_2 X hd fuL a1 (0 : Int32) g h)
theorem dX2_hoursBegun_0 : decode cX2_hoursBegun 0 = .ok (.iconst 0, 1) := by decide +kernel
theorem dX2_hoursBegun_1 : decode cX2_hoursBegun 1 = .ok (.istore_n 1, 1) := by decide +kernel
theorem dX2_hoursBegun_2 : decode cX2_hoursBegun 2 = .ok (.iconst 0, 1) := by decide +kernel
theorem dX2_hoursBegun_3 : decode cX2_hoursBegun 3 = .ok (.istore_n 2, 1) := by decide +kernel
theorem dX2_hoursBegun_4 : decode cX2_hoursBegun 4 = .ok (.iload_n 2, 1) := by decide +kernel
theorem dX2_hoursBegun_5 : decode cX2_hoursBegun 5 = .ok (.aload_n 0, 1) := by decide +kernel
theorem dX2_hoursBegun_6 : decode cX2_hoursBegun 6 = .ok (.getfield 25, 3) := by decide +kernel
theorem dX2_hoursBegun_9 : decode cX2_hoursBegun 9 = .ok (.getfield 43, 3) := by decide +kernel
theorem dX2_hoursBegun_12 : decode cX2_hoursBegun 12 = .ok (.if_icmp .ge 23, 3) := by decide +kernel
theorem dX2_hoursBegun_15 : decode cX2_hoursBegun 15 = .ok (.aload_n 0, 1) := by decide +kernel
theorem dX2_hoursBegun_16 : decode cX2_hoursBegun 16 = .ok (.iload_n 2, 1) := by decide +kernel
theorem dX2_hoursBegun_17 : decode cX2_hoursBegun 17 = .ok (.invokevirtual 54, 3) := by decide +kernel
theorem dX2_hoursBegun_20 : decode cX2_hoursBegun 20 = .ok (.ifCond .eq 9, 3) := by decide +kernel
theorem dX2_hoursBegun_23 : decode cX2_hoursBegun 23 = .ok (.iload_n 1, 1) := by decide +kernel
theorem dX2_hoursBegun_24 : decode cX2_hoursBegun 24 = .ok (.iconst 1, 1) := by decide +kernel
theorem dX2_hoursBegun_25 : decode cX2_hoursBegun 25 = .ok (.iload_n 2, 1) := by decide +kernel
theorem dX2_hoursBegun_26 : decode cX2_hoursBegun 26 = .ok (.ishl, 1) := by decide +kernel
theorem dX2_hoursBegun_27 : decode cX2_hoursBegun 27 = .ok (.ior, 1) := by decide +kernel
theorem dX2_hoursBegun_28 : decode cX2_hoursBegun 28 = .ok (.istore_n 1, 1) := by decide +kernel
theorem dX2_hoursBegun_29 : decode cX2_hoursBegun 29 = .ok (.iinc 2 1, 3) := by decide +kernel
theorem dX2_hoursBegun_32 : decode cX2_hoursBegun 32 = .ok (.goto (-28), 3) := by decide +kernel
theorem dX2_hoursBegun_35 : decode cX2_hoursBegun 35 = .ok (.iload_n 1, 1) := by decide +kernel
theorem dX2_hoursBegun_36 : decode cX2_hoursBegun 36 = .ok (.ireturn, 1) := by decide +kernel
def m_X2_hoursBegun_4 : Nat → Int32 → Int32 → Mm → Option (Int32 × Mm)
  | 0, _, _, _ => none
  | n + 1, x1, x2, g => (if (rdI g 1 1) ≤ x2 then some (x1, g) else bdd (m_X2_mayHaveBegun x2 g) (fun ra2 ga3 => (if ra2 = (0 : Int32) then m_X2_hoursBegun_4 n x1 (x2 + (1 : Int32)) ga3 else m_X2_hoursBegun_4 n (x1 ||| (shlI (1 : Int32) x2)) (x2 + (1 : Int32)) ga3)))
set_option maxHeartbeats 2000000 in
theorem t_X2_hoursBegun_4 {r2 : Int32} {g2 : Mm} (X : gx_X p R s m args meth c D al cI cJ A RX2 cX2_hoursBegun 3 (some .int) d 0 0) (hd : 4 ≤ d) : ∀ (n : Nat) (x1 : Int32) (x2 : Int32) (g : Mm), m_X2_hoursBegun_4 n x1 x2 g = some (r2, g2) → gx_G p l e R s m args below meth c (gx_Q below args s D al cI cJ A (some (.int r2)) g2) D al cI cJ A 3 0 0 4 [(0, .ref (al (29))), (1, .int (x1)), (2, .int (x2))] [] g := by
  intro n
  induction n with
  | zero => intro x1 x2 g h; cases h
  | succ n ih =>
    intro x1 x2 g h
    rw [m_X2_hoursBegun_4] at h
    refine gx_iload_n X 2 rfl dX2_hoursBegun_4 ?_
    refine gx_aload_n X 0 rfl dX2_hoursBegun_5 ?_
    refine gx_getf X (29) lf_X2_25 (by decide) (cl_29 _ _) (v := .ref (al (1))) rfl dX2_hoursBegun_6 ?_
    refine gx_getn X (1) lf_X2_43 (by decide) (cl_1 _ _) (v := .int ((rdI g 1 1))) rfl dX2_hoursBegun_9 ?_
    refine gx_icmp_ge X 35 dX2_hoursBegun_12 (by decide) (fun q1 => ?_) (fun q1 => ?_)
    · replace h := (if_pos q1).symm.trans h
      refine gx_iload_n X 1 rfl dX2_hoursBegun_35 ?_
      obtain ⟨rfl, rfl⟩ := ret_eq h
      exact gx_iret X rfl dX2_hoursBegun_36
    · replace h := (if_neg q1).symm.trans h
      refine gx_aload_n X 0 rfl dX2_hoursBegun_15 ?_
      refine gx_iload_n X 2 rfl dX2_hoursBegun_16 ?_
      obtain ⟨ra2, ga3, ca4, h⟩ := bdd_eq h
      refine gx_callVi X (29) (c_X2_mayHaveBegun ca4) lc_X2_mayHaveBegun li_X2_mayHaveBegun lm_X2_54 (by decide) (cl_29 _ _) rfl rfl rfl (Nat.le_trans (by decide) hd) rfl (Nat.le_of_ble_eq_true rfl) dX2_hoursBegun_17 ?_
      refine gx_if_eq X 29 dX2_hoursBegun_20 (by decide) (fun q5 => ?_) (fun q5 => ?_)
      · replace h := (if_pos q5).symm.trans h
        refine gx_iinc X [(2, .int ((x2 + (1 : Int32)))), (0, .ref (al (29))), (1, .int (x1))] 2 dX2_hoursBegun_29 rfl rfl (by decide) rfl ?_
        refine gx_goto X 4 dX2_hoursBegun_32 (by decide) ?_
        exact gx_sub [1, 2, 0] rfl (ih x1 (x2 + (1 : Int32)) ga3 h)
      · replace h := (if_neg q5).symm.trans h
        refine gx_iload_n X 1 rfl dX2_hoursBegun_23 ?_
        refine gx_iconst X (v := (1 : Int32)) dX2_hoursBegun_24 (by decide) ?_
        refine gx_iload_n X 2 rfl dX2_hoursBegun_25 ?_
        refine gx_ishl X dX2_hoursBegun_26 ?_
        refine gx_ior X dX2_hoursBegun_27 ?_
        refine gx_istore_n X [(1, .int ((x1 ||| (shlI (1 : Int32) x2)))), (0, .ref (al (29))), (2, .int (x2))] dX2_hoursBegun_28 (by decide) rfl ?_
        refine gx_iinc X [(2, .int ((x2 + (1 : Int32)))), (1, .int ((x1 ||| (shlI (1 : Int32) x2)))), (0, .ref (al (29)))] 2 dX2_hoursBegun_29 rfl rfl (by decide) rfl ?_
        refine gx_goto X 4 dX2_hoursBegun_32 (by decide) ?_
        exact gx_sub [2, 1, 0] rfl (ih (x1 ||| (shlI (1 : Int32) x2)) (x2 + (1 : Int32)) ga3 h)
def m_X2_hoursBegun (g : Mm) : Option (Int32 × Mm) := m_X2_hoursBegun_4 fuL (0 : Int32) (0 : Int32) g
set_option maxHeartbeats 2000000 in
theorem c_X2_hoursBegun {r2 : Int32} {g g2 : Mm} (h : m_X2_hoursBegun g = some (r2, g2)) : gx_M 4 yX2_hoursBegun cX2_hoursBegun 3 (some .int) (fun al => [.ref (al (29))]) g (some (.int r2)) g2 := by
  have hd : 4 ≤ 4 := Nat.le_refl _
  refine gx_M.of (by decide +kernel) (fun _ => Nat.le_of_ble_eq_true rfl) ?_
  intro p l e R s m args below meth c D al cI cJ A X
  refine gx_eq (pc' := 0) (ls' := [(0, .ref (al (29)))]) (st' := []) (g' := g) ⟨rfl, rfl, rfl, rfl⟩ ?_
  unfold m_X2_hoursBegun at h
  refine gx_iconst X (v := (0 : Int32)) dX2_hoursBegun_0 (by decide) ?_
  refine gx_istore_n X [(1, .int ((0 : Int32))), (0, .ref (al (29)))] dX2_hoursBegun_1 (by decide) rfl ?_
  refine gx_iconst X (v := (0 : Int32)) dX2_hoursBegun_2 (by decide) ?_
  refine gx_istore_n X [(2, .int ((0 : Int32))), (1, .int ((0 : Int32))), (0, .ref (al (29)))] dX2_hoursBegun_3 (by decide) rfl ?_
  exact gx_sub [2, 1, 0] rfl (t_X2_hoursBegun_4 X hd fuL (0 : Int32) (0 : Int32) g h)
theorem dX2_hoursHeard_0 : decode cX2_hoursHeard 0 = .ok (.iconst 0, 1) := by decide +kernel
theorem dX2_hoursHeard_1 : decode cX2_hoursHeard 1 = .ok (.istore_n 1, 1) := by decide +kernel
theorem dX2_hoursHeard_2 : decode cX2_hoursHeard 2 = .ok (.iconst 0, 1) := by decide +kernel
theorem dX2_hoursHeard_3 : decode cX2_hoursHeard 3 = .ok (.istore_n 2, 1) := by decide +kernel
theorem dX2_hoursHeard_4 : decode cX2_hoursHeard 4 = .ok (.iload_n 2, 1) := by decide +kernel
theorem dX2_hoursHeard_5 : decode cX2_hoursHeard 5 = .ok (.aload_n 0, 1) := by decide +kernel
theorem dX2_hoursHeard_6 : decode cX2_hoursHeard 6 = .ok (.getfield 25, 3) := by decide +kernel
theorem dX2_hoursHeard_9 : decode cX2_hoursHeard 9 = .ok (.getfield 43, 3) := by decide +kernel
theorem dX2_hoursHeard_12 : decode cX2_hoursHeard 12 = .ok (.if_icmp .ge 28, 3) := by decide +kernel
theorem dX2_hoursHeard_15 : decode cX2_hoursHeard 15 = .ok (.aload_n 0, 1) := by decide +kernel
theorem dX2_hoursHeard_16 : decode cX2_hoursHeard 16 = .ok (.aload_n 0, 1) := by decide +kernel
theorem dX2_hoursHeard_17 : decode cX2_hoursHeard 17 = .ok (.getfield 9, 3) := by decide +kernel
theorem dX2_hoursHeard_20 : decode cX2_hoursHeard 20 = .ok (.iconst 0, 1) := by decide +kernel
theorem dX2_hoursHeard_21 : decode cX2_hoursHeard 21 = .ok (.iload_n 2, 1) := by decide +kernel
theorem dX2_hoursHeard_22 : decode cX2_hoursHeard 22 = .ok (.invokevirtual 46, 3) := by decide +kernel
theorem dX2_hoursHeard_25 : decode cX2_hoursHeard 25 = .ok (.ifCond .eq 9, 3) := by decide +kernel
theorem dX2_hoursHeard_28 : decode cX2_hoursHeard 28 = .ok (.iload_n 1, 1) := by decide +kernel
theorem dX2_hoursHeard_29 : decode cX2_hoursHeard 29 = .ok (.iconst 1, 1) := by decide +kernel
theorem dX2_hoursHeard_30 : decode cX2_hoursHeard 30 = .ok (.iload_n 2, 1) := by decide +kernel
theorem dX2_hoursHeard_31 : decode cX2_hoursHeard 31 = .ok (.ishl, 1) := by decide +kernel
theorem dX2_hoursHeard_32 : decode cX2_hoursHeard 32 = .ok (.ior, 1) := by decide +kernel
theorem dX2_hoursHeard_33 : decode cX2_hoursHeard 33 = .ok (.istore_n 1, 1) := by decide +kernel
theorem dX2_hoursHeard_34 : decode cX2_hoursHeard 34 = .ok (.iinc 2 1, 3) := by decide +kernel
theorem dX2_hoursHeard_37 : decode cX2_hoursHeard 37 = .ok (.goto (-33), 3) := by decide +kernel
theorem dX2_hoursHeard_40 : decode cX2_hoursHeard 40 = .ok (.iload_n 1, 1) := by decide +kernel
theorem dX2_hoursHeard_41 : decode cX2_hoursHeard 41 = .ok (.ireturn, 1) := by decide +kernel
def m_X2_hoursHeard_4 : Nat → Int32 → Int32 → Mm → Option (Int32 × Mm)
  | 0, _, _, _ => none
  | n + 1, x1, x2, g => (if (rdI g 1 1) ≤ x2 then some (x1, g) else bdd (m_X2_mayBe 30 6 (0 : Int32) x2 g) (fun ra2 ga3 => (if ra2 = (0 : Int32) then m_X2_hoursHeard_4 n x1 (x2 + (1 : Int32)) ga3 else m_X2_hoursHeard_4 n (x1 ||| (shlI (1 : Int32) x2)) (x2 + (1 : Int32)) ga3)))
set_option maxHeartbeats 2000000 in
theorem t_X2_hoursHeard_4 {r2 : Int32} {g2 : Mm} (X : gx_X p R s m args meth c D al cI cJ A RX2 cX2_hoursHeard 3 (some .int) d 0 0) (hd : 3 ≤ d) : ∀ (n : Nat) (x1 : Int32) (x2 : Int32) (g : Mm), m_X2_hoursHeard_4 n x1 x2 g = some (r2, g2) → gx_G p l e R s m args below meth c (gx_Q below args s D al cI cJ A (some (.int r2)) g2) D al cI cJ A 3 0 0 4 [(0, .ref (al (29))), (1, .int (x1)), (2, .int (x2))] [] g := by
  intro n
  induction n with
  | zero => intro x1 x2 g h; cases h
  | succ n ih =>
    intro x1 x2 g h
    rw [m_X2_hoursHeard_4] at h
    refine gx_iload_n X 2 rfl dX2_hoursHeard_4 ?_
    refine gx_aload_n X 0 rfl dX2_hoursHeard_5 ?_
    refine gx_getf X (29) lf_X2_25 (by decide) (cl_29 _ _) (v := .ref (al (1))) rfl dX2_hoursHeard_6 ?_
    refine gx_getn X (1) lf_X2_43 (by decide) (cl_1 _ _) (v := .int ((rdI g 1 1))) rfl dX2_hoursHeard_9 ?_
    refine gx_icmp_ge X 40 dX2_hoursHeard_12 (by decide) (fun q1 => ?_) (fun q1 => ?_)
    · replace h := (if_pos q1).symm.trans h
      refine gx_iload_n X 1 rfl dX2_hoursHeard_40 ?_
      obtain ⟨rfl, rfl⟩ := ret_eq h
      exact gx_iret X rfl dX2_hoursHeard_41
    · replace h := (if_neg q1).symm.trans h
      refine gx_aload_n X 0 rfl dX2_hoursHeard_15 ?_
      refine gx_aload_n X 0 rfl dX2_hoursHeard_16 ?_
      refine gx_getf X (29) lf_X2_9 (by decide) (cl_29 _ _) (v := .ref (al (30))) rfl dX2_hoursHeard_17 ?_
      refine gx_iconst X (v := (0 : Int32)) dX2_hoursHeard_20 (by decide) ?_
      refine gx_iload_n X 2 rfl dX2_hoursHeard_21 ?_
      obtain ⟨ra2, ga3, ca4, h⟩ := bdd_eq h
      refine gx_callVi X (29) (c_X2_mayBe ⟨(by decide), fun _ _ _ _ _ => (cl_30 _ _)⟩ ca4) lc_X2_mayBe li_X2_mayBe lm_X2_46 (by decide) (cl_29 _ _) rfl rfl rfl (Nat.le_trans (by decide) hd) rfl (Nat.le_of_ble_eq_true rfl) dX2_hoursHeard_22 ?_
      refine gx_if_eq X 34 dX2_hoursHeard_25 (by decide) (fun q5 => ?_) (fun q5 => ?_)
      · replace h := (if_pos q5).symm.trans h
        refine gx_iinc X [(2, .int ((x2 + (1 : Int32)))), (0, .ref (al (29))), (1, .int (x1))] 2 dX2_hoursHeard_34 rfl rfl (by decide) rfl ?_
        refine gx_goto X 4 dX2_hoursHeard_37 (by decide) ?_
        exact gx_sub [1, 2, 0] rfl (ih x1 (x2 + (1 : Int32)) ga3 h)
      · replace h := (if_neg q5).symm.trans h
        refine gx_iload_n X 1 rfl dX2_hoursHeard_28 ?_
        refine gx_iconst X (v := (1 : Int32)) dX2_hoursHeard_29 (by decide) ?_
        refine gx_iload_n X 2 rfl dX2_hoursHeard_30 ?_
        refine gx_ishl X dX2_hoursHeard_31 ?_
        refine gx_ior X dX2_hoursHeard_32 ?_
        refine gx_istore_n X [(1, .int ((x1 ||| (shlI (1 : Int32) x2)))), (0, .ref (al (29))), (2, .int (x2))] dX2_hoursHeard_33 (by decide) rfl ?_
        refine gx_iinc X [(2, .int ((x2 + (1 : Int32)))), (1, .int ((x1 ||| (shlI (1 : Int32) x2)))), (0, .ref (al (29)))] 2 dX2_hoursHeard_34 rfl rfl (by decide) rfl ?_
        refine gx_goto X 4 dX2_hoursHeard_37 (by decide) ?_
        exact gx_sub [2, 1, 0] rfl (ih (x1 ||| (shlI (1 : Int32) x2)) (x2 + (1 : Int32)) ga3 h)
def m_X2_hoursHeard (g : Mm) : Option (Int32 × Mm) := m_X2_hoursHeard_4 fuL (0 : Int32) (0 : Int32) g
set_option maxHeartbeats 2000000 in
theorem c_X2_hoursHeard {r2 : Int32} {g g2 : Mm} (h : m_X2_hoursHeard g = some (r2, g2)) : gx_M 3 yX2_hoursHeard cX2_hoursHeard 3 (some .int) (fun al => [.ref (al (29))]) g (some (.int r2)) g2 := by
  have hd : 3 ≤ 3 := Nat.le_refl _
  refine gx_M.of (by decide +kernel) (fun _ => Nat.le_of_ble_eq_true rfl) ?_
  intro p l e R s m args below meth c D al cI cJ A X
  refine gx_eq (pc' := 0) (ls' := [(0, .ref (al (29)))]) (st' := []) (g' := g) ⟨rfl, rfl, rfl, rfl⟩ ?_
  unfold m_X2_hoursHeard at h
  refine gx_iconst X (v := (0 : Int32)) dX2_hoursHeard_0 (by decide) ?_
  refine gx_istore_n X [(1, .int ((0 : Int32))), (0, .ref (al (29)))] dX2_hoursHeard_1 (by decide) rfl ?_
  refine gx_iconst X (v := (0 : Int32)) dX2_hoursHeard_2 (by decide) ?_
  refine gx_istore_n X [(2, .int ((0 : Int32))), (1, .int ((0 : Int32))), (0, .ref (al (29)))] dX2_hoursHeard_3 (by decide) rfl ?_
  exact gx_sub [2, 1, 0] rfl (t_X2_hoursHeard_4 X hd fuL (0 : Int32) (0 : Int32) g h)
theorem dX2_keepTold_0 : decode cX2_keepTold 0 = .ok (.aload_n 0, 1) := by decide +kernel
theorem dX2_keepTold_1 : decode cX2_keepTold 1 = .ok (.getfield 22, 3) := by decide +kernel
theorem dX2_keepTold_4 : decode cX2_keepTold 4 = .ok (.bipush 12, 2) := by decide +kernel
theorem dX2_keepTold_6 : decode cX2_keepTold 6 = .ok (.if_icmp .lt 5, 3) := by decide +kernel
theorem dX2_keepTold_9 : decode cX2_keepTold 9 = .ok (.iconst 0, 1) := by decide +kernel
theorem dX2_keepTold_10 : decode cX2_keepTold 10 = .ok (.ireturn, 1) := by decide +kernel
theorem dX2_keepTold_11 : decode cX2_keepTold 11 = .ok (.aload_n 0, 1) := by decide +kernel
theorem dX2_keepTold_12 : decode cX2_keepTold 12 = .ok (.getfield 9, 3) := by decide +kernel
theorem dX2_keepTold_15 : decode cX2_keepTold 15 = .ok (.iconst 0, 1) := by decide +kernel
theorem dX2_keepTold_16 : decode cX2_keepTold 16 = .ok (.aload_n 0, 1) := by decide +kernel
theorem dX2_keepTold_17 : decode cX2_keepTold 17 = .ok (.getfield 15, 3) := by decide +kernel
theorem dX2_keepTold_20 : decode cX2_keepTold 20 = .ok (.aload_n 0, 1) := by decide +kernel
theorem dX2_keepTold_21 : decode cX2_keepTold 21 = .ok (.getfield 22, 3) := by decide +kernel
theorem dX2_keepTold_24 : decode cX2_keepTold 24 = .ok (.bipush 6, 2) := by decide +kernel
theorem dX2_keepTold_26 : decode cX2_keepTold 26 = .ok (.imul, 1) := by decide +kernel
theorem dX2_keepTold_27 : decode cX2_keepTold 27 = .ok (.bipush 6, 2) := by decide +kernel
theorem dX2_keepTold_29 : decode cX2_keepTold 29 = .ok (.invokestatic 37, 3) := by decide +kernel
theorem dX2_keepTold_32 : decode cX2_keepTold 32 = .ok (.aload_n 0, 1) := by decide +kernel
theorem dX2_keepTold_33 : decode cX2_keepTold 33 = .ok (.dup, 1) := by decide +kernel
theorem dX2_keepTold_34 : decode cX2_keepTold 34 = .ok (.getfield 22, 3) := by decide +kernel
theorem dX2_keepTold_37 : decode cX2_keepTold 37 = .ok (.iconst 1, 1) := by decide +kernel
theorem dX2_keepTold_38 : decode cX2_keepTold 38 = .ok (.iadd, 1) := by decide +kernel
theorem dX2_keepTold_39 : decode cX2_keepTold 39 = .ok (.putfield 22, 3) := by decide +kernel
theorem dX2_keepTold_42 : decode cX2_keepTold 42 = .ok (.aload_n 0, 1) := by decide +kernel
theorem dX2_keepTold_43 : decode cX2_keepTold 43 = .ok (.invokevirtual 29, 3) := by decide +kernel
theorem dX2_keepTold_46 : decode cX2_keepTold 46 = .ok (.iconst 1, 1) := by decide +kernel
theorem dX2_keepTold_47 : decode cX2_keepTold 47 = .ok (.ireturn, 1) := by decide +kernel
def m_X2_keepTold (g : Mm) : Option (Int32 × Mm) := (if (rdI g 29 4) < (12 : Int32) then gdd (acp (0 : Int32) (6 : Int32) 6) (gdd (acp ((rdI g 29 4) * (6 : Int32)) (6 : Int32) 72) (bdd (m_X2_forgetTold  (wrI (cpI g 30 (0 : Int32).toNatClampNeg 31 ((rdI g 29 4) * (6 : Int32)).toNatClampNeg (6 : Int32).toNatClampNeg) 29 4 ((rdI (cpI g 30 (0 : Int32).toNatClampNeg 31 ((rdI g 29 4) * (6 : Int32)).toNatClampNeg (6 : Int32).toNatClampNeg) 29 4) + (1 : Int32)))) (fun ra4 ga5 => some ((1 : Int32), ga5)))) else some ((0 : Int32), g))
set_option maxHeartbeats 2000000 in
theorem c_X2_keepTold {r2 : Int32} {g g2 : Mm} (h : m_X2_keepTold g = some (r2, g2)) : gx_M 2 yX2_keepTold cX2_keepTold 1 (some .boolean) (fun al => [.ref (al (29))]) g (some (.int r2)) g2 := by
  have hd : 2 ≤ 2 := Nat.le_refl _
  refine gx_M.of (by decide +kernel) (fun _ => Nat.le_of_ble_eq_true rfl) ?_
  intro p l e R s m args below meth c D al cI cJ A X
  refine gx_eq (pc' := 0) (ls' := [(0, .ref (al (29)))]) (st' := []) (g' := g) ⟨rfl, rfl, rfl, rfl⟩ ?_
  unfold m_X2_keepTold at h
  refine gx_aload_n X 0 rfl dX2_keepTold_0 ?_
  refine gx_getf X (29) lf_X2_22 (by decide) (cl_29 _ _) (v := .int ((rdI g 29 4))) rfl dX2_keepTold_1 ?_
  refine gx_bipush X (v := (12 : Int32)) dX2_keepTold_4 (by decide) ?_
  refine gx_icmp_lt X 11 dX2_keepTold_6 (by decide) (fun q1 => ?_) (fun q1 => ?_)
  · replace h := (if_pos q1).symm.trans h
    refine gx_aload_n X 0 rfl dX2_keepTold_11 ?_
    refine gx_getf X (29) lf_X2_9 (by decide) (cl_29 _ _) (v := .ref (al (30))) rfl dX2_keepTold_12 ?_
    refine gx_iconst X (v := (0 : Int32)) dX2_keepTold_15 (by decide) ?_
    refine gx_aload_n X 0 rfl dX2_keepTold_16 ?_
    refine gx_getf X (29) lf_X2_15 (by decide) (cl_29 _ _) (v := .ref (al (31))) rfl dX2_keepTold_17 ?_
    refine gx_aload_n X 0 rfl dX2_keepTold_20 ?_
    refine gx_getf X (29) lf_X2_22 (by decide) (cl_29 _ _) (v := .int ((rdI g 29 4))) rfl dX2_keepTold_21 ?_
    refine gx_bipush X (v := (6 : Int32)) dX2_keepTold_24 (by decide) ?_
    refine gx_imul X dX2_keepTold_26 ?_
    refine gx_bipush X (v := (6 : Int32)) dX2_keepTold_27 (by decide) ?_
    obtain ⟨q2, h⟩ := gdd_eq h
    obtain ⟨q3, h⟩ := gdd_eq h
    refine gx_cpyI X (30) (31) 6 72 lm_X2_37 lx_nat lx_stat lx_ini (Nat.le_trans (by decide) hd) (by decide) (by decide) (cl_30 _ _) (fun r => cl_31 r _) q2 q3 (Nat.le_of_ble_eq_true rfl) dX2_keepTold_29 ?_
    refine gx_aload_n X 0 rfl dX2_keepTold_32 ?_
    refine gx_dup X dX2_keepTold_33 rfl ?_
    refine gx_getf X (29) lf_X2_22 (by decide) (cl_29 _ _) (v := .int ((rdI (cpI g 30 (0 : Int32).toNatClampNeg 31 ((rdI g 29 4) * (6 : Int32)).toNatClampNeg (6 : Int32).toNatClampNeg) 29 4))) rfl dX2_keepTold_34 ?_
    refine gx_iconst X (v := (1 : Int32)) dX2_keepTold_37 (by decide) ?_
    refine gx_iadd X dX2_keepTold_38 ?_
    refine gx_putf X (29) ((rdI (cpI g 30 (0 : Int32).toNatClampNeg 31 ((rdI g 29 4) * (6 : Int32)).toNatClampNeg (6 : Int32).toNatClampNeg) 29 4) + (1 : Int32)) lf_X2_22 lp_X2_4 (by decide) (cl_29 _ _) (Nat.le_of_ble_eq_true rfl) rfl rfl rfl dX2_keepTold_39 ?_
    refine gx_aload_n X 0 rfl dX2_keepTold_42 ?_
    obtain ⟨ra4, ga5, ca6, h⟩ := bdd_eq h
    refine gx_callVv X (29) (c_X2_forgetTold ca6) lc_X2_forgetTold li_X2_forgetTold lm_X2_29 (by decide) (cl_29 _ _) rfl rfl rfl (Nat.le_trans (by decide) hd) rfl (Nat.le_of_ble_eq_true rfl) dX2_keepTold_43 ?_
    refine gx_iconst X (v := (1 : Int32)) dX2_keepTold_46 (by decide) ?_
    obtain ⟨rfl, rfl⟩ := ret_eq h
    exact gx_iret X rfl dX2_keepTold_47
  · replace h := (if_neg q1).symm.trans h
    refine gx_iconst X (v := (0 : Int32)) dX2_keepTold_9 (by decide) ?_
    obtain ⟨rfl, rfl⟩ := ret_eq h
    exact gx_iret X rfl dX2_keepTold_10
theorem dX2_rowsMoreForPair_0 : decode cX2_rowsMoreForPair 0 = .ok (.iconst 0, 1) := by decide +kernel
theorem dX2_rowsMoreForPair_1 : decode cX2_rowsMoreForPair 1 = .ok (.istore_n 3, 1) := by decide +kernel
theorem dX2_rowsMoreForPair_2 : decode cX2_rowsMoreForPair 2 = .ok (.iload_n 3, 1) := by decide +kernel
theorem dX2_rowsMoreForPair_3 : decode cX2_rowsMoreForPair 3 = .ok (.bipush 24, 2) := by decide +kernel
theorem dX2_rowsMoreForPair_5 : decode cX2_rowsMoreForPair 5 = .ok (.if_icmp .ge 45, 3) := by decide +kernel
theorem dX2_rowsMoreForPair_8 : decode cX2_rowsMoreForPair 8 = .ok (.aload_n 0, 1) := by decide +kernel
theorem dX2_rowsMoreForPair_9 : decode cX2_rowsMoreForPair 9 = .ok (.getfield 25, 3) := by decide +kernel
theorem dX2_rowsMoreForPair_12 : decode cX2_rowsMoreForPair 12 = .ok (.aload_n 0, 1) := by decide +kernel
theorem dX2_rowsMoreForPair_13 : decode cX2_rowsMoreForPair 13 = .ok (.iload_n 1, 1) := by decide +kernel
theorem dX2_rowsMoreForPair_14 : decode cX2_rowsMoreForPair 14 = .ok (.aload_n 0, 1) := by decide +kernel
theorem dX2_rowsMoreForPair_15 : decode cX2_rowsMoreForPair 15 = .ok (.getfield 22, 3) := by decide +kernel
theorem dX2_rowsMoreForPair_18 : decode cX2_rowsMoreForPair 18 = .ok (.iload_n 3, 1) := by decide +kernel
theorem dX2_rowsMoreForPair_19 : decode cX2_rowsMoreForPair 19 = .ok (.iadd, 1) := by decide +kernel
theorem dX2_rowsMoreForPair_20 : decode cX2_rowsMoreForPair 20 = .ok (.invokevirtual 58, 3) := by decide +kernel
theorem dX2_rowsMoreForPair_23 : decode cX2_rowsMoreForPair 23 = .ok (.aload_n 0, 1) := by decide +kernel
theorem dX2_rowsMoreForPair_24 : decode cX2_rowsMoreForPair 24 = .ok (.iload_n 2, 1) := by decide +kernel
theorem dX2_rowsMoreForPair_25 : decode cX2_rowsMoreForPair 25 = .ok (.aload_n 0, 1) := by decide +kernel
theorem dX2_rowsMoreForPair_26 : decode cX2_rowsMoreForPair 26 = .ok (.getfield 22, 3) := by decide +kernel
theorem dX2_rowsMoreForPair_29 : decode cX2_rowsMoreForPair 29 = .ok (.iload_n 3, 1) := by decide +kernel
theorem dX2_rowsMoreForPair_30 : decode cX2_rowsMoreForPair 30 = .ok (.iadd, 1) := by decide +kernel
theorem dX2_rowsMoreForPair_31 : decode cX2_rowsMoreForPair 31 = .ok (.invokevirtual 58, 3) := by decide +kernel
theorem dX2_rowsMoreForPair_34 : decode cX2_rowsMoreForPair 34 = .ok (.invokevirtual 76, 3) := by decide +kernel
theorem dX2_rowsMoreForPair_37 : decode cX2_rowsMoreForPair 37 = .ok (.ifCond .eq 7, 3) := by decide +kernel
theorem dX2_rowsMoreForPair_40 : decode cX2_rowsMoreForPair 40 = .ok (.iload_n 3, 1) := by decide +kernel
theorem dX2_rowsMoreForPair_41 : decode cX2_rowsMoreForPair 41 = .ok (.iconst 1, 1) := by decide +kernel
theorem dX2_rowsMoreForPair_42 : decode cX2_rowsMoreForPair 42 = .ok (.iadd, 1) := by decide +kernel
theorem dX2_rowsMoreForPair_43 : decode cX2_rowsMoreForPair 43 = .ok (.ireturn, 1) := by decide +kernel
theorem dX2_rowsMoreForPair_44 : decode cX2_rowsMoreForPair 44 = .ok (.iinc 3 1, 3) := by decide +kernel
theorem dX2_rowsMoreForPair_47 : decode cX2_rowsMoreForPair 47 = .ok (.goto (-45), 3) := by decide +kernel
theorem dX2_rowsMoreForPair_50 : decode cX2_rowsMoreForPair 50 = .ok (.bipush (-2), 2) := by decide +kernel
theorem dX2_rowsMoreForPair_52 : decode cX2_rowsMoreForPair 52 = .ok (.ireturn, 1) := by decide +kernel
def m_X2_rowsMoreForPair_2 : Nat → Int32 → Int32 → Int32 → Mm → Option (Int32 × Mm)
  | 0, _, _, _, _ => none
  | n + 1, x1, x2, x3, g => (if (24 : Int32) ≤ x3 then some ((-2 : Int32), g) else bdd (m_X2_hourBehind x1 ((rdI g 29 4) + x3) g) (fun ra2 ga3 => bdd (m_X2_hourBehind x2 ((rdI ga3 29 4) + x3) ga3) (fun ra5 ga6 => bdd (m_X8_bellsUnlike ra2 ra5 ga6) (fun ra8 ga9 => (if ra8 = (0 : Int32) then m_X2_rowsMoreForPair_2 n x1 x2 (x3 + (1 : Int32)) ga9 else some ((x3 + (1 : Int32)), ga9))))))
set_option maxHeartbeats 2000000 in
theorem t_X2_rowsMoreForPair_2 {r2 : Int32} {g2 : Mm} (X : gx_X p R s m args meth c D al cI cJ A RX2 cX2_rowsMoreForPair 4 (some .int) d 0 0) (hd : 3 ≤ d) : ∀ (n : Nat) (x1 : Int32) (x2 : Int32) (x3 : Int32) (g : Mm), m_X2_rowsMoreForPair_2 n x1 x2 x3 g = some (r2, g2) → gx_G p l e R s m args below meth c (gx_Q below args s D al cI cJ A (some (.int r2)) g2) D al cI cJ A 4 0 0 2 [(0, .ref (al (29))), (1, .int (x1)), (2, .int (x2)), (3, .int (x3))] [] g := by
  intro n
  induction n with
  | zero => intro x1 x2 x3 g h; cases h
  | succ n ih =>
    intro x1 x2 x3 g h
    rw [m_X2_rowsMoreForPair_2] at h
    refine gx_iload_n X 3 rfl dX2_rowsMoreForPair_2 ?_
    refine gx_bipush X (v := (24 : Int32)) dX2_rowsMoreForPair_3 (by decide) ?_
    refine gx_icmp_ge X 50 dX2_rowsMoreForPair_5 (by decide) (fun q1 => ?_) (fun q1 => ?_)
    · replace h := (if_pos q1).symm.trans h
      refine gx_bipush X (v := (-2 : Int32)) dX2_rowsMoreForPair_50 (by decide) ?_
      obtain ⟨rfl, rfl⟩ := ret_eq h
      exact gx_iret X rfl dX2_rowsMoreForPair_52
    · replace h := (if_neg q1).symm.trans h
      refine gx_aload_n X 0 rfl dX2_rowsMoreForPair_8 ?_
      refine gx_getf X (29) lf_X2_25 (by decide) (cl_29 _ _) (v := .ref (al (1))) rfl dX2_rowsMoreForPair_9 ?_
      refine gx_aload_n X 0 rfl dX2_rowsMoreForPair_12 ?_
      refine gx_iload_n X 1 rfl dX2_rowsMoreForPair_13 ?_
      refine gx_aload_n X 0 rfl dX2_rowsMoreForPair_14 ?_
      refine gx_getf X (29) lf_X2_22 (by decide) (cl_29 _ _) (v := .int ((rdI g 29 4))) rfl dX2_rowsMoreForPair_15 ?_
      refine gx_iload_n X 3 rfl dX2_rowsMoreForPair_18 ?_
      refine gx_iadd X dX2_rowsMoreForPair_19 ?_
      obtain ⟨ra2, ga3, ca4, h⟩ := bdd_eq h
      refine gx_callVi X (29) (c_X2_hourBehind ca4) lc_X2_hourBehind li_X2_hourBehind lm_X2_58 (by decide) (cl_29 _ _) rfl rfl rfl (Nat.le_trans (by decide) hd) rfl (Nat.le_of_ble_eq_true rfl) dX2_rowsMoreForPair_20 ?_
      refine gx_aload_n X 0 rfl dX2_rowsMoreForPair_23 ?_
      refine gx_iload_n X 2 rfl dX2_rowsMoreForPair_24 ?_
      refine gx_aload_n X 0 rfl dX2_rowsMoreForPair_25 ?_
      refine gx_getf X (29) lf_X2_22 (by decide) (cl_29 _ _) (v := .int ((rdI ga3 29 4))) rfl dX2_rowsMoreForPair_26 ?_
      refine gx_iload_n X 3 rfl dX2_rowsMoreForPair_29 ?_
      refine gx_iadd X dX2_rowsMoreForPair_30 ?_
      obtain ⟨ra5, ga6, ca7, h⟩ := bdd_eq h
      refine gx_callVi X (29) (c_X2_hourBehind ca7) lc_X2_hourBehind li_X2_hourBehind lm_X2_58 (by decide) (cl_29 _ _) rfl rfl rfl (Nat.le_trans (by decide) hd) rfl (Nat.le_of_ble_eq_true rfl) dX2_rowsMoreForPair_31 ?_
      obtain ⟨ra8, ga9, ca10, h⟩ := bdd_eq h
      refine gx_callNi X (1) (c_X8_bellsUnlike ca10) lc_X8_bellsUnlike li_X8_bellsUnlike lm_X2_76 (by decide) (cl_1 _ _) rfl rfl rfl (Nat.le_trans (by decide) hd) rfl (Nat.le_of_ble_eq_true rfl) dX2_rowsMoreForPair_34 ?_
      refine gx_if_eq X 44 dX2_rowsMoreForPair_37 (by decide) (fun q11 => ?_) (fun q11 => ?_)
      · replace h := (if_pos q11).symm.trans h
        refine gx_iinc X [(3, .int ((x3 + (1 : Int32)))), (0, .ref (al (29))), (1, .int (x1)), (2, .int (x2))] 3 dX2_rowsMoreForPair_44 rfl rfl (by decide) rfl ?_
        refine gx_goto X 2 dX2_rowsMoreForPair_47 (by decide) ?_
        exact gx_sub [1, 2, 3, 0] rfl (ih x1 x2 (x3 + (1 : Int32)) ga9 h)
      · replace h := (if_neg q11).symm.trans h
        refine gx_iload_n X 3 rfl dX2_rowsMoreForPair_40 ?_
        refine gx_iconst X (v := (1 : Int32)) dX2_rowsMoreForPair_41 (by decide) ?_
        refine gx_iadd X dX2_rowsMoreForPair_42 ?_
        obtain ⟨rfl, rfl⟩ := ret_eq h
        exact gx_iret X rfl dX2_rowsMoreForPair_43
def m_X2_rowsMoreForPair (a1 : Int32) (a2 : Int32) (g : Mm) : Option (Int32 × Mm) := m_X2_rowsMoreForPair_2 fuL a1 a2 (0 : Int32) g
set_option maxHeartbeats 2000000 in
theorem c_X2_rowsMoreForPair {r2 : Int32} {g g2 : Mm} {a1 : Int32} {a2 : Int32} (h : m_X2_rowsMoreForPair a1 a2 g = some (r2, g2)) : gx_M 3 yX2_rowsMoreForPair cX2_rowsMoreForPair 4 (some .int) (fun al => [.ref (al (29)), .int (a1), .int (a2)]) g (some (.int r2)) g2 := by
  have hd : 3 ≤ 3 := Nat.le_refl _
  refine gx_M.of (by decide +kernel) (fun _ => Nat.le_of_ble_eq_true rfl) ?_
  intro p l e R s m args below meth c D al cI cJ A X
  refine gx_eq (pc' := 0) (ls' := [(0, .ref (al (29))), (1, .int (a1)), (2, .int (a2))]) (st' := []) (g' := g) ⟨rfl, rfl, rfl, rfl⟩ ?_
  unfold m_X2_rowsMoreForPair at h
  refine gx_iconst X (v := (0 : Int32)) dX2_rowsMoreForPair_0 (by decide) ?_
  refine gx_istore_n X [(3, .int ((0 : Int32))), (0, .ref (al (29))), (1, .int (a1)), (2, .int (a2))] dX2_rowsMoreForPair_1 (by decide) rfl ?_
  exact gx_sub [1, 2, 3, 0] rfl (t_X2_rowsMoreForPair_2 X hd fuL a1 a2 (0 : Int32) g h)
theorem dX2_rowsMore_0 : decode cX2_rowsMore 0 = .ok (.iconst 0, 1) := by decide +kernel
theorem dX2_rowsMore_1 : decode cX2_rowsMore 1 = .ok (.istore_n 2, 1) := by decide +kernel
theorem dX2_rowsMore_2 : decode cX2_rowsMore 2 = .ok (.iconst 0, 1) := by decide +kernel
theorem dX2_rowsMore_3 : decode cX2_rowsMore 3 = .ok (.istore_n 3, 1) := by decide +kernel
theorem dX2_rowsMore_4 : decode cX2_rowsMore 4 = .ok (.iload_n 3, 1) := by decide +kernel
theorem dX2_rowsMore_5 : decode cX2_rowsMore 5 = .ok (.aload_n 0, 1) := by decide +kernel
theorem dX2_rowsMore_6 : decode cX2_rowsMore 6 = .ok (.getfield 25, 3) := by decide +kernel
theorem dX2_rowsMore_9 : decode cX2_rowsMore 9 = .ok (.getfield 43, 3) := by decide +kernel
theorem dX2_rowsMore_12 : decode cX2_rowsMore 12 = .ok (.if_icmp .ge 100, 3) := by decide +kernel
theorem dX2_rowsMore_15 : decode cX2_rowsMore 15 = .ok (.iload_n 3, 1) := by decide +kernel
theorem dX2_rowsMore_16 : decode cX2_rowsMore 16 = .ok (.iconst 1, 1) := by decide +kernel
theorem dX2_rowsMore_17 : decode cX2_rowsMore 17 = .ok (.iadd, 1) := by decide +kernel
theorem dX2_rowsMore_18 : decode cX2_rowsMore 18 = .ok (.istore 4, 2) := by decide +kernel
theorem dX2_rowsMore_20 : decode cX2_rowsMore 20 = .ok (.iload 4, 2) := by decide +kernel
theorem dX2_rowsMore_22 : decode cX2_rowsMore 22 = .ok (.aload_n 0, 1) := by decide +kernel
theorem dX2_rowsMore_23 : decode cX2_rowsMore 23 = .ok (.getfield 25, 3) := by decide +kernel
theorem dX2_rowsMore_26 : decode cX2_rowsMore 26 = .ok (.getfield 43, 3) := by decide +kernel
theorem dX2_rowsMore_29 : decode cX2_rowsMore 29 = .ok (.if_icmp .ge 77, 3) := by decide +kernel
theorem dX2_rowsMore_32 : decode cX2_rowsMore 32 = .ok (.iload_n 1, 1) := by decide +kernel
theorem dX2_rowsMore_33 : decode cX2_rowsMore 33 = .ok (.iload_n 3, 1) := by decide +kernel
theorem dX2_rowsMore_34 : decode cX2_rowsMore 34 = .ok (.ishr, 1) := by decide +kernel
theorem dX2_rowsMore_35 : decode cX2_rowsMore 35 = .ok (.iconst 1, 1) := by decide +kernel
theorem dX2_rowsMore_36 : decode cX2_rowsMore 36 = .ok (.iand, 1) := by decide +kernel
theorem dX2_rowsMore_37 : decode cX2_rowsMore 37 = .ok (.ifCond .eq 16, 3) := by decide +kernel
theorem dX2_rowsMore_40 : decode cX2_rowsMore 40 = .ok (.iload_n 1, 1) := by decide +kernel
theorem dX2_rowsMore_41 : decode cX2_rowsMore 41 = .ok (.iload 4, 2) := by decide +kernel
theorem dX2_rowsMore_43 : decode cX2_rowsMore 43 = .ok (.ishr, 1) := by decide +kernel
theorem dX2_rowsMore_44 : decode cX2_rowsMore 44 = .ok (.iconst 1, 1) := by decide +kernel
theorem dX2_rowsMore_45 : decode cX2_rowsMore 45 = .ok (.iand, 1) := by decide +kernel
theorem dX2_rowsMore_46 : decode cX2_rowsMore 46 = .ok (.ifCond .eq 7, 3) := by decide +kernel
theorem dX2_rowsMore_49 : decode cX2_rowsMore 49 = .ok (.iconst 1, 1) := by decide +kernel
theorem dX2_rowsMore_50 : decode cX2_rowsMore 50 = .ok (.goto 4, 3) := by decide +kernel
theorem dX2_rowsMore_53 : decode cX2_rowsMore 53 = .ok (.iconst 0, 1) := by decide +kernel
theorem dX2_rowsMore_54 : decode cX2_rowsMore 54 = .ok (.istore 5, 2) := by decide +kernel
theorem dX2_rowsMore_56 : decode cX2_rowsMore 56 = .ok (.iload 5, 2) := by decide +kernel
theorem dX2_rowsMore_58 : decode cX2_rowsMore 58 = .ok (.ifCond .eq 42, 3) := by decide +kernel
theorem dX2_rowsMore_61 : decode cX2_rowsMore 61 = .ok (.aload_n 0, 1) := by decide +kernel
theorem dX2_rowsMore_62 : decode cX2_rowsMore 62 = .ok (.getfield 25, 3) := by decide +kernel
theorem dX2_rowsMore_65 : decode cX2_rowsMore 65 = .ok (.iload_n 3, 1) := by decide +kernel
theorem dX2_rowsMore_66 : decode cX2_rowsMore 66 = .ok (.iload 4, 2) := by decide +kernel
theorem dX2_rowsMore_68 : decode cX2_rowsMore 68 = .ok (.invokevirtual 66, 3) := by decide +kernel
theorem dX2_rowsMore_71 : decode cX2_rowsMore 71 = .ok (.ifCond .ne 29, 3) := by decide +kernel
theorem dX2_rowsMore_74 : decode cX2_rowsMore 74 = .ok (.aload_n 0, 1) := by decide +kernel
theorem dX2_rowsMore_75 : decode cX2_rowsMore 75 = .ok (.iload_n 3, 1) := by decide +kernel
theorem dX2_rowsMore_76 : decode cX2_rowsMore 76 = .ok (.iload 4, 2) := by decide +kernel
theorem dX2_rowsMore_78 : decode cX2_rowsMore 78 = .ok (.invokevirtual 70, 3) := by decide +kernel
theorem dX2_rowsMore_81 : decode cX2_rowsMore 81 = .ok (.istore 6, 2) := by decide +kernel
theorem dX2_rowsMore_83 : decode cX2_rowsMore 83 = .ok (.iload 6, 2) := by decide +kernel
theorem dX2_rowsMore_85 : decode cX2_rowsMore 85 = .ok (.bipush (-2), 2) := by decide +kernel
theorem dX2_rowsMore_87 : decode cX2_rowsMore 87 = .ok (.if_icmp .ne 6, 3) := by decide +kernel
theorem dX2_rowsMore_90 : decode cX2_rowsMore 90 = .ok (.bipush (-2), 2) := by decide +kernel
theorem dX2_rowsMore_92 : decode cX2_rowsMore 92 = .ok (.ireturn, 1) := by decide +kernel
theorem dX2_rowsMore_93 : decode cX2_rowsMore 93 = .ok (.iload_n 2, 1) := by decide +kernel
theorem dX2_rowsMore_94 : decode cX2_rowsMore 94 = .ok (.iload 6, 2) := by decide +kernel
theorem dX2_rowsMore_96 : decode cX2_rowsMore 96 = .ok (.invokestatic 73, 3) := by decide +kernel
theorem dX2_rowsMore_99 : decode cX2_rowsMore 99 = .ok (.istore_n 2, 1) := by decide +kernel
theorem dX2_rowsMore_100 : decode cX2_rowsMore 100 = .ok (.iinc 4 1, 3) := by decide +kernel
theorem dX2_rowsMore_103 : decode cX2_rowsMore 103 = .ok (.goto (-83), 3) := by decide +kernel
theorem dX2_rowsMore_106 : decode cX2_rowsMore 106 = .ok (.iinc 3 1, 3) := by decide +kernel
theorem dX2_rowsMore_109 : decode cX2_rowsMore 109 = .ok (.goto (-105), 3) := by decide +kernel
theorem dX2_rowsMore_112 : decode cX2_rowsMore 112 = .ok (.iload_n 2, 1) := by decide +kernel
theorem dX2_rowsMore_113 : decode cX2_rowsMore 113 = .ok (.ireturn, 1) := by decide +kernel
def m_X2_rowsMore_54 (K20 : Int32 → Int32 → Int32 → Int32 → Mm → Option (Int32 × Mm)) (x1 : Int32) (x2 : Int32) (x3 : Int32) (x4 : Int32) (k0 : Int32) (g : Mm) : Option (Int32 × Mm) := (if k0 = (0 : Int32) then K20 x1 x2 x3 (x4 + (1 : Int32)) g else bdd (m_X8_areMixed x3 x4 g) (fun ra2 ga3 => (if ra2 = (0 : Int32) then bdd (m_X2_rowsMoreForPair x3 x4 ga3) (fun ra6 ga7 => (if ra6 = (-2 : Int32) then some ((-2 : Int32), ga7) else bdd (m_J9_max_7cf53 x2 ra6 ga7) (fun ra10 ga11 => K20 x1 ra10 x3 (x4 + (1 : Int32)) ga11))) else K20 x1 x2 x3 (x4 + (1 : Int32)) ga3)))
set_option maxHeartbeats 2000000 in
theorem t_X2_rowsMore_54 {r2 : Int32} {g2 : Mm} (X : gx_X p R s m args meth c D al cI cJ A RX2 cX2_rowsMore 7 (some .int) d 0 0) (hd : 4 ≤ d) {K20 : Int32 → Int32 → Int32 → Int32 → Mm → Option (Int32 × Mm)} (hK20 : ∀ (u0 : Int32) (u1 : Int32) (u2 : Int32) (u3 : Int32) (g : Mm), K20 u0 u1 u2 u3 g = some (r2, g2) → gx_G p l e R s m args below meth c (gx_Q below args s D al cI cJ A (some (.int r2)) g2) D al cI cJ A 7 0 0 20 [(0, .ref (al (29))), (1, .int (u0)), (2, .int (u1)), (3, .int (u2)), (4, .int (u3))] [] g) : ∀ (x1 : Int32) (x2 : Int32) (x3 : Int32) (x4 : Int32) (k0 : Int32) (g : Mm), m_X2_rowsMore_54 K20 x1 x2 x3 x4 k0 g = some (r2, g2) → gx_G p l e R s m args below meth c (gx_Q below args s D al cI cJ A (some (.int r2)) g2) D al cI cJ A 7 0 0 54 [(0, .ref (al (29))), (1, .int (x1)), (2, .int (x2)), (3, .int (x3)), (4, .int (x4))] [.int (k0)] g := by
  intro x1 x2 x3 x4 k0 g h
  unfold m_X2_rowsMore_54 at h
  refine gx_istore X [(5, .int (k0)), (0, .ref (al (29))), (1, .int (x1)), (2, .int (x2)), (3, .int (x3)), (4, .int (x4))] dX2_rowsMore_54 (by decide) rfl ?_
  refine gx_iload X 0 rfl dX2_rowsMore_56 ?_
  refine gx_if_eq X 100 dX2_rowsMore_58 (by decide) (fun q1 => ?_) (fun q1 => ?_)
  · replace h := (if_pos q1).symm.trans h
    refine gx_iinc X [(4, .int ((x4 + (1 : Int32)))), (5, .int (k0)), (0, .ref (al (29))), (1, .int (x1)), (2, .int (x2)), (3, .int (x3))] 5 dX2_rowsMore_100 rfl rfl (by decide) rfl ?_
    refine gx_goto X 20 dX2_rowsMore_103 (by decide) ?_
    exact gx_sub [2, 3, 4, 5, 0] rfl (hK20 x1 x2 x3 (x4 + (1 : Int32)) g h)
  · replace h := (if_neg q1).symm.trans h
    refine gx_aload_n X 1 rfl dX2_rowsMore_61 ?_
    refine gx_getf X (29) lf_X2_25 (by decide) (cl_29 _ _) (v := .ref (al (1))) rfl dX2_rowsMore_62 ?_
    refine gx_iload_n X 4 rfl dX2_rowsMore_65 ?_
    refine gx_iload X 5 rfl dX2_rowsMore_66 ?_
    obtain ⟨ra2, ga3, ca4, h⟩ := bdd_eq h
    refine gx_callNi X (1) (c_X8_areMixed ca4) lc_X8_areMixed li_X8_areMixed lm_X2_66 (by decide) (cl_1 _ _) rfl rfl rfl (Nat.le_trans (by decide) hd) rfl (Nat.le_of_ble_eq_true rfl) dX2_rowsMore_68 ?_
    refine gx_if_ne X 100 dX2_rowsMore_71 (by decide) (fun q5 => ?_) (fun q5 => ?_)
    · replace h := (if_neg q5).symm.trans h
      refine gx_iinc X [(4, .int ((x4 + (1 : Int32)))), (5, .int (k0)), (0, .ref (al (29))), (1, .int (x1)), (2, .int (x2)), (3, .int (x3))] 5 dX2_rowsMore_100 rfl rfl (by decide) rfl ?_
      refine gx_goto X 20 dX2_rowsMore_103 (by decide) ?_
      exact gx_sub [2, 3, 4, 5, 0] rfl (hK20 x1 x2 x3 (x4 + (1 : Int32)) ga3 h)
    · replace h := (if_pos q5).symm.trans h
      refine gx_aload_n X 1 rfl dX2_rowsMore_74 ?_
      refine gx_iload_n X 4 rfl dX2_rowsMore_75 ?_
      refine gx_iload X 5 rfl dX2_rowsMore_76 ?_
      obtain ⟨ra6, ga7, ca8, h⟩ := bdd_eq h
      refine gx_callVi X (29) (c_X2_rowsMoreForPair ca8) lc_X2_rowsMoreForPair li_X2_rowsMoreForPair lm_X2_70 (by decide) (cl_29 _ _) rfl rfl rfl (Nat.le_trans (by decide) hd) rfl (Nat.le_of_ble_eq_true rfl) dX2_rowsMore_78 ?_
      refine gx_istore X [(6, .int (ra6)), (5, .int (k0)), (0, .ref (al (29))), (1, .int (x1)), (2, .int (x2)), (3, .int (x3)), (4, .int (x4))] dX2_rowsMore_81 (by decide) rfl ?_
      refine gx_iload X 0 rfl dX2_rowsMore_83 ?_
      refine gx_bipush X (v := (-2 : Int32)) dX2_rowsMore_85 (by decide) ?_
      refine gx_icmp_ne X 93 dX2_rowsMore_87 (by decide) (fun q9 => ?_) (fun q9 => ?_)
      · replace h := (if_neg q9).symm.trans h
        refine gx_iload_n X 4 rfl dX2_rowsMore_93 ?_
        refine gx_iload X 0 rfl dX2_rowsMore_94 ?_
        obtain ⟨ra10, ga11, ca12, h⟩ := bdd_eq h
        refine gx_callSi X (c_J9_max_7cf53 ca12) lc_J9_max_7cf53 li_J9_max_7cf53 lm_X2_73 rfl rfl (Nat.le_trans (by decide) hd) rfl (Nat.le_of_ble_eq_true rfl) dX2_rowsMore_96 ?_
        refine gx_istore_n X [(2, .int (ra10)), (6, .int (ra6)), (5, .int (k0)), (0, .ref (al (29))), (1, .int (x1)), (3, .int (x3)), (4, .int (x4))] dX2_rowsMore_99 (by decide) rfl ?_
        refine gx_iinc X [(4, .int ((x4 + (1 : Int32)))), (2, .int (ra10)), (6, .int (ra6)), (5, .int (k0)), (0, .ref (al (29))), (1, .int (x1)), (3, .int (x3))] 6 dX2_rowsMore_100 rfl rfl (by decide) rfl ?_
        refine gx_goto X 20 dX2_rowsMore_103 (by decide) ?_
        exact gx_sub [4, 5, 1, 6, 0] rfl (hK20 x1 ra10 x3 (x4 + (1 : Int32)) ga11 h)
      · replace h := (if_pos q9).symm.trans h
        refine gx_bipush X (v := (-2 : Int32)) dX2_rowsMore_90 (by decide) ?_
        obtain ⟨rfl, rfl⟩ := ret_eq h
        exact gx_iret X rfl dX2_rowsMore_92
def m_X2_rowsMore_20 (K4 : Int32 → Int32 → Int32 → Mm → Option (Int32 × Mm)) : Nat → Int32 → Int32 → Int32 → Int32 → Mm → Option (Int32 × Mm)
  | 0, _, _, _, _, _ => none
  | n + 1, x1, x2, x3, x4, g => (if (rdI g 1 1) ≤ x4 then K4 x1 x2 (x3 + (1 : Int32)) g else (if ((shrI x1 x3) &&& (1 : Int32)) = (0 : Int32) then m_X2_rowsMore_54 (m_X2_rowsMore_20 K4 n) x1 x2 x3 x4 (0 : Int32) g else (if ((shrI x1 x4) &&& (1 : Int32)) = (0 : Int32) then m_X2_rowsMore_54 (m_X2_rowsMore_20 K4 n) x1 x2 x3 x4 (0 : Int32) g else m_X2_rowsMore_54 (m_X2_rowsMore_20 K4 n) x1 x2 x3 x4 (1 : Int32) g)))
set_option maxHeartbeats 2000000 in
theorem t_X2_rowsMore_20 {r2 : Int32} {g2 : Mm} (X : gx_X p R s m args meth c D al cI cJ A RX2 cX2_rowsMore 7 (some .int) d 0 0) (hd : 4 ≤ d) {K4 : Int32 → Int32 → Int32 → Mm → Option (Int32 × Mm)} (hK4 : ∀ (u0 : Int32) (u1 : Int32) (u2 : Int32) (g : Mm), K4 u0 u1 u2 g = some (r2, g2) → gx_G p l e R s m args below meth c (gx_Q below args s D al cI cJ A (some (.int r2)) g2) D al cI cJ A 7 0 0 4 [(0, .ref (al (29))), (1, .int (u0)), (2, .int (u1)), (3, .int (u2))] [] g) : ∀ (n : Nat) (x1 : Int32) (x2 : Int32) (x3 : Int32) (x4 : Int32) (g : Mm), m_X2_rowsMore_20 K4 n x1 x2 x3 x4 g = some (r2, g2) → gx_G p l e R s m args below meth c (gx_Q below args s D al cI cJ A (some (.int r2)) g2) D al cI cJ A 7 0 0 20 [(0, .ref (al (29))), (1, .int (x1)), (2, .int (x2)), (3, .int (x3)), (4, .int (x4))] [] g := by
  intro n
  induction n with
  | zero => intro x1 x2 x3 x4 g h; cases h
  | succ n ih =>
    intro x1 x2 x3 x4 g h
    rw [m_X2_rowsMore_20] at h
    refine gx_iload X 4 rfl dX2_rowsMore_20 ?_
    refine gx_aload_n X 0 rfl dX2_rowsMore_22 ?_
    refine gx_getf X (29) lf_X2_25 (by decide) (cl_29 _ _) (v := .ref (al (1))) rfl dX2_rowsMore_23 ?_
    refine gx_getn X (1) lf_X2_43 (by decide) (cl_1 _ _) (v := .int ((rdI g 1 1))) rfl dX2_rowsMore_26 ?_
    refine gx_icmp_ge X 106 dX2_rowsMore_29 (by decide) (fun q1 => ?_) (fun q1 => ?_)
    · replace h := (if_pos q1).symm.trans h
      refine gx_iinc X [(3, .int ((x3 + (1 : Int32)))), (0, .ref (al (29))), (1, .int (x1)), (2, .int (x2)), (4, .int (x4))] 3 dX2_rowsMore_106 rfl rfl (by decide) rfl ?_
      refine gx_goto X 4 dX2_rowsMore_109 (by decide) ?_
      exact gx_sub [1, 2, 3, 0] rfl (hK4 x1 x2 (x3 + (1 : Int32)) g h)
    · replace h := (if_neg q1).symm.trans h
      refine gx_iload_n X 1 rfl dX2_rowsMore_32 ?_
      refine gx_iload_n X 3 rfl dX2_rowsMore_33 ?_
      refine gx_ishr X dX2_rowsMore_34 ?_
      refine gx_iconst X (v := (1 : Int32)) dX2_rowsMore_35 (by decide) ?_
      refine gx_iand X dX2_rowsMore_36 ?_
      refine gx_if_eq X 53 dX2_rowsMore_37 (by decide) (fun q2 => ?_) (fun q2 => ?_)
      · replace h := (if_pos q2).symm.trans h
        refine gx_iconst X (v := (0 : Int32)) dX2_rowsMore_53 (by decide) ?_
        exact gx_sub [0, 1, 2, 3, 4] rfl (t_X2_rowsMore_54 X hd (fun u0 u1 u2 u3 g h => ih u0 u1 u2 u3 g h) x1 x2 x3 x4 (0 : Int32) g h)
      · replace h := (if_neg q2).symm.trans h
        refine gx_iload_n X 1 rfl dX2_rowsMore_40 ?_
        refine gx_iload X 4 rfl dX2_rowsMore_41 ?_
        refine gx_ishr X dX2_rowsMore_43 ?_
        refine gx_iconst X (v := (1 : Int32)) dX2_rowsMore_44 (by decide) ?_
        refine gx_iand X dX2_rowsMore_45 ?_
        refine gx_if_eq X 53 dX2_rowsMore_46 (by decide) (fun q3 => ?_) (fun q3 => ?_)
        · replace h := (if_pos q3).symm.trans h
          refine gx_iconst X (v := (0 : Int32)) dX2_rowsMore_53 (by decide) ?_
          exact gx_sub [0, 1, 2, 3, 4] rfl (t_X2_rowsMore_54 X hd (fun u0 u1 u2 u3 g h => ih u0 u1 u2 u3 g h) x1 x2 x3 x4 (0 : Int32) g h)
        · replace h := (if_neg q3).symm.trans h
          refine gx_iconst X (v := (1 : Int32)) dX2_rowsMore_49 (by decide) ?_
          refine gx_goto X 54 dX2_rowsMore_50 (by decide) ?_
          exact gx_sub [0, 1, 2, 3, 4] rfl (t_X2_rowsMore_54 X hd (fun u0 u1 u2 u3 g h => ih u0 u1 u2 u3 g h) x1 x2 x3 x4 (1 : Int32) g h)
def m_X2_rowsMore_4 : Nat → Int32 → Int32 → Int32 → Mm → Option (Int32 × Mm)
  | 0, _, _, _, _ => none
  | n + 1, x1, x2, x3, g => (if (rdI g 1 1) ≤ x3 then some (x2, g) else m_X2_rowsMore_20 (m_X2_rowsMore_4 n) fuL x1 x2 x3 (x3 + (1 : Int32)) g)
set_option maxHeartbeats 2000000 in
theorem t_X2_rowsMore_4 {r2 : Int32} {g2 : Mm} (X : gx_X p R s m args meth c D al cI cJ A RX2 cX2_rowsMore 7 (some .int) d 0 0) (hd : 4 ≤ d) : ∀ (n : Nat) (x1 : Int32) (x2 : Int32) (x3 : Int32) (g : Mm), m_X2_rowsMore_4 n x1 x2 x3 g = some (r2, g2) → gx_G p l e R s m args below meth c (gx_Q below args s D al cI cJ A (some (.int r2)) g2) D al cI cJ A 7 0 0 4 [(0, .ref (al (29))), (1, .int (x1)), (2, .int (x2)), (3, .int (x3))] [] g := by
  intro n
  induction n with
  | zero => intro x1 x2 x3 g h; cases h
  | succ n ih =>
    intro x1 x2 x3 g h
    rw [m_X2_rowsMore_4] at h
    refine gx_iload_n X 3 rfl dX2_rowsMore_4 ?_
    refine gx_aload_n X 0 rfl dX2_rowsMore_5 ?_
    refine gx_getf X (29) lf_X2_25 (by decide) (cl_29 _ _) (v := .ref (al (1))) rfl dX2_rowsMore_6 ?_
    refine gx_getn X (1) lf_X2_43 (by decide) (cl_1 _ _) (v := .int ((rdI g 1 1))) rfl dX2_rowsMore_9 ?_
    refine gx_icmp_ge X 112 dX2_rowsMore_12 (by decide) (fun q1 => ?_) (fun q1 => ?_)
    · replace h := (if_pos q1).symm.trans h
      refine gx_iload_n X 2 rfl dX2_rowsMore_112 ?_
      obtain ⟨rfl, rfl⟩ := ret_eq h
      exact gx_iret X rfl dX2_rowsMore_113
    · replace h := (if_neg q1).symm.trans h
      refine gx_iload_n X 3 rfl dX2_rowsMore_15 ?_
      refine gx_iconst X (v := (1 : Int32)) dX2_rowsMore_16 (by decide) ?_
      refine gx_iadd X dX2_rowsMore_17 ?_
      refine gx_istore X [(4, .int ((x3 + (1 : Int32)))), (0, .ref (al (29))), (1, .int (x1)), (2, .int (x2)), (3, .int (x3))] dX2_rowsMore_18 (by decide) rfl ?_
      exact gx_sub [1, 2, 3, 4, 0] rfl (t_X2_rowsMore_20 X hd (fun u0 u1 u2 g h => ih u0 u1 u2 g h) fuL x1 x2 x3 (x3 + (1 : Int32)) g h)
def m_X2_rowsMore (a1 : Int32) (g : Mm) : Option (Int32 × Mm) := m_X2_rowsMore_4 fuL a1 (0 : Int32) (0 : Int32) g
set_option maxHeartbeats 2000000 in
theorem c_X2_rowsMore {r2 : Int32} {g g2 : Mm} {a1 : Int32} (h : m_X2_rowsMore a1 g = some (r2, g2)) : gx_M 4 yX2_rowsMore cX2_rowsMore 7 (some .int) (fun al => [.ref (al (29)), .int (a1)]) g (some (.int r2)) g2 := by
  have hd : 4 ≤ 4 := Nat.le_refl _
  refine gx_M.of (by decide +kernel) (fun _ => Nat.le_of_ble_eq_true rfl) ?_
  intro p l e R s m args below meth c D al cI cJ A X
  refine gx_eq (pc' := 0) (ls' := [(0, .ref (al (29))), (1, .int (a1))]) (st' := []) (g' := g) ⟨rfl, rfl, rfl, rfl⟩ ?_
  unfold m_X2_rowsMore at h
  refine gx_iconst X (v := (0 : Int32)) dX2_rowsMore_0 (by decide) ?_
  refine gx_istore_n X [(2, .int ((0 : Int32))), (0, .ref (al (29))), (1, .int (a1))] dX2_rowsMore_1 (by decide) rfl ?_
  refine gx_iconst X (v := (0 : Int32)) dX2_rowsMore_2 (by decide) ?_
  refine gx_istore_n X [(3, .int ((0 : Int32))), (2, .int ((0 : Int32))), (0, .ref (al (29))), (1, .int (a1))] dX2_rowsMore_3 (by decide) rfl ?_
  exact gx_sub [2, 3, 1, 0] rfl (t_X2_rowsMore_4 X hd fuL a1 (0 : Int32) (0 : Int32) g h)
end DC
