section DC
variable {p : Program} {l : Launch} {e : Env} {R : Room} {s : State} {m : MethodId} {args : Array Value} {below : List Frame} {meth : Method} {c : Code} {D : va_G} {al : Nat → Nat} {cI cJ : ClassId} {A : Nat → Prop} {d : Nat}
theorem dX7_allDifferIn_0 : decode cX7_allDifferIn 0 = .ok (.iconst 0, 1) := by decide +kernel
theorem dX7_allDifferIn_1 : decode cX7_allDifferIn 1 = .ok (.istore_n 3, 1) := by decide +kernel
theorem dX7_allDifferIn_2 : decode cX7_allDifferIn 2 = .ok (.iload_n 3, 1) := by decide +kernel
theorem dX7_allDifferIn_3 : decode cX7_allDifferIn 3 = .ok (.aload_n 0, 1) := by decide +kernel
theorem dX7_allDifferIn_4 : decode cX7_allDifferIn 4 = .ok (.getfield 15, 3) := by decide +kernel
theorem dX7_allDifferIn_7 : decode cX7_allDifferIn 7 = .ok (.if_icmp .ge 26, 3) := by decide +kernel
theorem dX7_allDifferIn_10 : decode cX7_allDifferIn 10 = .ok (.aload_n 0, 1) := by decide +kernel
theorem dX7_allDifferIn_11 : decode cX7_allDifferIn 11 = .ok (.getfield 11, 3) := by decide +kernel
theorem dX7_allDifferIn_14 : decode cX7_allDifferIn 14 = .ok (.iload_n 3, 1) := by decide +kernel
theorem dX7_allDifferIn_15 : decode cX7_allDifferIn 15 = .ok (.iaload, 1) := by decide +kernel
theorem dX7_allDifferIn_16 : decode cX7_allDifferIn 16 = .ok (.iload_n 1, 1) := by decide +kernel
theorem dX7_allDifferIn_17 : decode cX7_allDifferIn 17 = .ok (.iand, 1) := by decide +kernel
theorem dX7_allDifferIn_18 : decode cX7_allDifferIn 18 = .ok (.invokestatic 40, 3) := by decide +kernel
theorem dX7_allDifferIn_21 : decode cX7_allDifferIn 21 = .ok (.iload_n 2, 1) := by decide +kernel
theorem dX7_allDifferIn_22 : decode cX7_allDifferIn 22 = .ok (.if_icmp .ge 5, 3) := by decide +kernel
theorem dX7_allDifferIn_25 : decode cX7_allDifferIn 25 = .ok (.iconst 0, 1) := by decide +kernel
theorem dX7_allDifferIn_26 : decode cX7_allDifferIn 26 = .ok (.ireturn, 1) := by decide +kernel
theorem dX7_allDifferIn_27 : decode cX7_allDifferIn 27 = .ok (.iinc 3 1, 3) := by decide +kernel
theorem dX7_allDifferIn_30 : decode cX7_allDifferIn 30 = .ok (.goto (-28), 3) := by decide +kernel
theorem dX7_allDifferIn_33 : decode cX7_allDifferIn 33 = .ok (.iconst 1, 1) := by decide +kernel
theorem dX7_allDifferIn_34 : decode cX7_allDifferIn 34 = .ok (.ireturn, 1) := by decide +kernel
def m_X7_allDifferIn_2 : Nat → Int32 → Int32 → Int32 → Mm → Option (Int32 × Mm)
  | 0, _, _, _, _ => none
  | n + 1, x1, x2, x3, g => (if (rdI g 23 2) ≤ x3 then some ((1 : Int32), g) else gdd (ixo x3 276) (bdd (m_J6_bitCount_0f7a4 ((rdI g 24 x3.toNatClampNeg) &&& x1) g) (fun ra3 ga4 => (if x2 ≤ ra3 then m_X7_allDifferIn_2 n x1 x2 (x3 + (1 : Int32)) ga4 else some ((0 : Int32), ga4)))))
set_option maxHeartbeats 2000000 in
theorem t_X7_allDifferIn_2 {r2 : Int32} {g2 : Mm} (X : gx_X p R s m args meth c D al cI cJ A RX7 cX7_allDifferIn 4 (some .boolean) d 0 0) (hd : 2 ≤ d) : ∀ (n : Nat) (x1 : Int32) (x2 : Int32) (x3 : Int32) (g : Mm), m_X7_allDifferIn_2 n x1 x2 x3 g = some (r2, g2) → gx_G p l e R s m args below meth c (gx_Q below args s D al cI cJ A (some (.int r2)) g2) D al cI cJ A 4 0 0 2 [(0, .ref (al (23))), (1, .int (x1)), (2, .int (x2)), (3, .int (x3))] [] g := by
  intro n
  induction n with
  | zero => intro x1 x2 x3 g h; cases h
  | succ n ih =>
    intro x1 x2 x3 g h
    rw [m_X7_allDifferIn_2] at h
    refine gx_iload_n X 3 rfl dX7_allDifferIn_2 ?_
    refine gx_aload_n X 0 rfl dX7_allDifferIn_3 ?_
    refine gx_getf X (23) lf_X7_15 (by decide) (cl_23 _ _) (v := .int ((rdI g 23 2))) rfl dX7_allDifferIn_4 ?_
    refine gx_icmp_ge X 33 dX7_allDifferIn_7 (by decide) (fun q1 => ?_) (fun q1 => ?_)
    · replace h := (if_pos q1).symm.trans h
      refine gx_iconst X (v := (1 : Int32)) dX7_allDifferIn_33 (by decide) ?_
      obtain ⟨rfl, rfl⟩ := ret_eq h
      exact gx_iret X rfl dX7_allDifferIn_34
    · replace h := (if_neg q1).symm.trans h
      refine gx_aload_n X 0 rfl dX7_allDifferIn_10 ?_
      refine gx_getf X (23) lf_X7_11 (by decide) (cl_23 _ _) (v := .ref (al (24))) rfl dX7_allDifferIn_11 ?_
      refine gx_iload_n X 3 rfl dX7_allDifferIn_14 ?_
      obtain ⟨q2, h⟩ := gdd_eq h
      refine gx_iald X (24) 276 (by decide) (cl_24 _ _) q2 dX7_allDifferIn_15 ?_
      refine gx_iload_n X 1 rfl dX7_allDifferIn_16 ?_
      refine gx_iand X dX7_allDifferIn_17 ?_
      obtain ⟨ra3, ga4, ca5, h⟩ := bdd_eq h
      refine gx_callSi X (c_J6_bitCount_0f7a4 ca5) lc_J6_bitCount_0f7a4 li_J6_bitCount_0f7a4 lm_X7_40 rfl rfl (Nat.le_trans (by decide) hd) rfl (Nat.le_of_ble_eq_true rfl) dX7_allDifferIn_18 ?_
      refine gx_iload_n X 2 rfl dX7_allDifferIn_21 ?_
      refine gx_icmp_ge X 27 dX7_allDifferIn_22 (by decide) (fun q6 => ?_) (fun q6 => ?_)
      · replace h := (if_pos q6).symm.trans h
        refine gx_iinc X [(3, .int ((x3 + (1 : Int32)))), (0, .ref (al (23))), (1, .int (x1)), (2, .int (x2))] 3 dX7_allDifferIn_27 rfl rfl (by decide) rfl ?_
        refine gx_goto X 2 dX7_allDifferIn_30 (by decide) ?_
        exact gx_sub [1, 2, 3, 0] rfl (ih x1 x2 (x3 + (1 : Int32)) ga4 h)
      · replace h := (if_neg q6).symm.trans h
        refine gx_iconst X (v := (0 : Int32)) dX7_allDifferIn_25 (by decide) ?_
        obtain ⟨rfl, rfl⟩ := ret_eq h
        exact gx_iret X rfl dX7_allDifferIn_26
def m_X7_allDifferIn (a1 : Int32) (a2 : Int32) (g : Mm) : Option (Int32 × Mm) := m_X7_allDifferIn_2 fuL a1 a2 (0 : Int32) g
set_option maxHeartbeats 2000000 in
theorem c_X7_allDifferIn {r2 : Int32} {g g2 : Mm} {a1 : Int32} {a2 : Int32} (h : m_X7_allDifferIn a1 a2 g = some (r2, g2)) : gx_M 2 yX7_allDifferIn cX7_allDifferIn 4 (some .boolean) (fun al => [.ref (al (23)), .int (a1), .int (a2)]) g (some (.int r2)) g2 := by
  have hd : 2 ≤ 2 := Nat.le_refl _
  refine gx_M.of (by decide +kernel) (fun _ => Nat.le_of_ble_eq_true rfl) ?_
  intro p l e R s m args below meth c D al cI cJ A X
  refine gx_eq (pc' := 0) (ls' := [(0, .ref (al (23))), (1, .int (a1)), (2, .int (a2))]) (st' := []) (g' := g) ⟨rfl, rfl, rfl, rfl⟩ ?_
  unfold m_X7_allDifferIn at h
  refine gx_iconst X (v := (0 : Int32)) dX7_allDifferIn_0 (by decide) ?_
  refine gx_istore_n X [(3, .int ((0 : Int32))), (0, .ref (al (23))), (1, .int (a1)), (2, .int (a2))] dX7_allDifferIn_1 (by decide) rfl ?_
  exact gx_sub [1, 2, 3, 0] rfl (t_X7_allDifferIn_2 X hd fuL a1 a2 (0 : Int32) g h)
theorem dX7_takePair_0 : decode cX7_takePair 0 = .ok (.iload_n 1, 1) := by decide +kernel
theorem dX7_takePair_1 : decode cX7_takePair 1 = .ok (.iload_n 2, 1) := by decide +kernel
theorem dX7_takePair_2 : decode cX7_takePair 2 = .ok (.if_icmp .eq 53, 3) := by decide +kernel
theorem dX7_takePair_5 : decode cX7_takePair 5 = .ok (.aload_n 0, 1) := by decide +kernel
theorem dX7_takePair_6 : decode cX7_takePair 6 = .ok (.getfield 19, 3) := by decide +kernel
theorem dX7_takePair_9 : decode cX7_takePair 9 = .ok (.iload_n 1, 1) := by decide +kernel
theorem dX7_takePair_10 : decode cX7_takePair 10 = .ok (.iload_n 2, 1) := by decide +kernel
theorem dX7_takePair_11 : decode cX7_takePair 11 = .ok (.invokevirtual 23, 3) := by decide +kernel
theorem dX7_takePair_14 : decode cX7_takePair 14 = .ok (.ifCond .ne 41, 3) := by decide +kernel
theorem dX7_takePair_17 : decode cX7_takePair 17 = .ok (.aload_n 0, 1) := by decide +kernel
theorem dX7_takePair_18 : decode cX7_takePair 18 = .ok (.getfield 15, 3) := by decide +kernel
theorem dX7_takePair_21 : decode cX7_takePair 21 = .ok (.sipush 276, 3) := by decide +kernel
theorem dX7_takePair_24 : decode cX7_takePair 24 = .ok (.if_icmp .ge 31, 3) := by decide +kernel
theorem dX7_takePair_27 : decode cX7_takePair 27 = .ok (.aload_n 0, 1) := by decide +kernel
theorem dX7_takePair_28 : decode cX7_takePair 28 = .ok (.getfield 11, 3) := by decide +kernel
theorem dX7_takePair_31 : decode cX7_takePair 31 = .ok (.aload_n 0, 1) := by decide +kernel
theorem dX7_takePair_32 : decode cX7_takePair 32 = .ok (.getfield 15, 3) := by decide +kernel
theorem dX7_takePair_35 : decode cX7_takePair 35 = .ok (.aload_n 0, 1) := by decide +kernel
theorem dX7_takePair_36 : decode cX7_takePair 36 = .ok (.getfield 19, 3) := by decide +kernel
theorem dX7_takePair_39 : decode cX7_takePair 39 = .ok (.iload_n 1, 1) := by decide +kernel
theorem dX7_takePair_40 : decode cX7_takePair 40 = .ok (.iload_n 2, 1) := by decide +kernel
theorem dX7_takePair_41 : decode cX7_takePair 41 = .ok (.invokevirtual 29, 3) := by decide +kernel
theorem dX7_takePair_44 : decode cX7_takePair 44 = .ok (.iastore, 1) := by decide +kernel
theorem dX7_takePair_45 : decode cX7_takePair 45 = .ok (.aload_n 0, 1) := by decide +kernel
theorem dX7_takePair_46 : decode cX7_takePair 46 = .ok (.dup, 1) := by decide +kernel
theorem dX7_takePair_47 : decode cX7_takePair 47 = .ok (.getfield 15, 3) := by decide +kernel
theorem dX7_takePair_50 : decode cX7_takePair 50 = .ok (.iconst 1, 1) := by decide +kernel
theorem dX7_takePair_51 : decode cX7_takePair 51 = .ok (.iadd, 1) := by decide +kernel
theorem dX7_takePair_52 : decode cX7_takePair 52 = .ok (.putfield 15, 3) := by decide +kernel
theorem dX7_takePair_55 : decode cX7_takePair 55 = .ok (.return_, 1) := by decide +kernel
def m_X7_takePair (a1 : Int32) (a2 : Int32) (g : Mm) : Option (Int32 × Mm) := (if a1 = a2 then some ((0 : Int32), g) else bdd (m_X8_areMixed a1 a2 g) (fun ra2 ga3 => (if ra2 = (0 : Int32) then (if (276 : Int32) ≤ (rdI ga3 23 2) then some ((0 : Int32), ga3) else bdd (m_X8_bellsUnlike a1 a2 ga3) (fun ra7 ga8 => gdd (ixo (rdI ga3 23 2) 276) (some ((0 : Int32), (wrI (wrI ga8 24 (rdI ga3 23 2).toNatClampNeg ra7) 23 2 ((rdI (wrI ga8 24 (rdI ga3 23 2).toNatClampNeg ra7) 23 2) + (1 : Int32))))))) else some ((0 : Int32), ga3))))
set_option maxHeartbeats 2000000 in
theorem c_X7_takePair {r2 : Int32} {g g2 : Mm} {a1 : Int32} {a2 : Int32} (h : m_X7_takePair a1 a2 g = some (r2, g2)) : gx_M 3 yX7_takePair cX7_takePair 3 none (fun al => [.ref (al (23)), .int (a1), .int (a2)]) g none g2 := by
  have hd : 3 ≤ 3 := Nat.le_refl _
  refine gx_M.of (by decide +kernel) (fun _ => Nat.le_of_ble_eq_true rfl) ?_
  intro p l e R s m args below meth c D al cI cJ A X
  refine gx_eq (pc' := 0) (ls' := [(0, .ref (al (23))), (1, .int (a1)), (2, .int (a2))]) (st' := []) (g' := g) ⟨rfl, rfl, rfl, rfl⟩ ?_
  unfold m_X7_takePair at h
  refine gx_iload_n X 1 rfl dX7_takePair_0 ?_
  refine gx_iload_n X 2 rfl dX7_takePair_1 ?_
  refine gx_icmp_eq X 55 dX7_takePair_2 (by decide) (fun q1 => ?_) (fun q1 => ?_)
  · replace h := (if_pos q1).symm.trans h
    obtain ⟨rfl, rfl⟩ := ret_eq h
    exact gx_vret X dX7_takePair_55
  · replace h := (if_neg q1).symm.trans h
    refine gx_aload_n X 0 rfl dX7_takePair_5 ?_
    refine gx_getf X (23) lf_X7_19 (by decide) (cl_23 _ _) (v := .ref (al (1))) rfl dX7_takePair_6 ?_
    refine gx_iload_n X 1 rfl dX7_takePair_9 ?_
    refine gx_iload_n X 2 rfl dX7_takePair_10 ?_
    obtain ⟨ra2, ga3, ca4, h⟩ := bdd_eq h
    refine gx_callNi X (1) (c_X8_areMixed ca4) lc_X8_areMixed li_X8_areMixed lm_X7_23 (by decide) (cl_1 _ _) rfl rfl rfl (Nat.le_trans (by decide) hd) rfl (Nat.le_of_ble_eq_true rfl) dX7_takePair_11 ?_
    refine gx_if_ne X 55 dX7_takePair_14 (by decide) (fun q5 => ?_) (fun q5 => ?_)
    · replace h := (if_neg q5).symm.trans h
      obtain ⟨rfl, rfl⟩ := ret_eq h
      exact gx_vret X dX7_takePair_55
    · replace h := (if_pos q5).symm.trans h
      refine gx_aload_n X 0 rfl dX7_takePair_17 ?_
      refine gx_getf X (23) lf_X7_15 (by decide) (cl_23 _ _) (v := .int ((rdI ga3 23 2))) rfl dX7_takePair_18 ?_
      refine gx_sipush X (v := (276 : Int32)) dX7_takePair_21 (by decide) ?_
      refine gx_icmp_ge X 55 dX7_takePair_24 (by decide) (fun q6 => ?_) (fun q6 => ?_)
      · replace h := (if_pos q6).symm.trans h
        obtain ⟨rfl, rfl⟩ := ret_eq h
        exact gx_vret X dX7_takePair_55
      · replace h := (if_neg q6).symm.trans h
        refine gx_aload_n X 0 rfl dX7_takePair_27 ?_
        refine gx_getf X (23) lf_X7_11 (by decide) (cl_23 _ _) (v := .ref (al (24))) rfl dX7_takePair_28 ?_
        refine gx_aload_n X 0 rfl dX7_takePair_31 ?_
        refine gx_getf X (23) lf_X7_15 (by decide) (cl_23 _ _) (v := .int ((rdI ga3 23 2))) rfl dX7_takePair_32 ?_
        refine gx_aload_n X 0 rfl dX7_takePair_35 ?_
        refine gx_getf X (23) lf_X7_19 (by decide) (cl_23 _ _) (v := .ref (al (1))) rfl dX7_takePair_36 ?_
        refine gx_iload_n X 1 rfl dX7_takePair_39 ?_
        refine gx_iload_n X 2 rfl dX7_takePair_40 ?_
        obtain ⟨ra7, ga8, ca9, h⟩ := bdd_eq h
        refine gx_callNi X (1) (c_X8_bellsUnlike ca9) lc_X8_bellsUnlike li_X8_bellsUnlike lm_X7_29 (by decide) (cl_1 _ _) rfl rfl rfl (Nat.le_trans (by decide) hd) rfl (Nat.le_of_ble_eq_true rfl) dX7_takePair_41 ?_
        obtain ⟨q10, h⟩ := gdd_eq h
        refine gx_iast X (24) 276 (by decide) (fun r => cl_24 r _) q10 dX7_takePair_44 ?_
        refine gx_aload_n X 0 rfl dX7_takePair_45 ?_
        refine gx_dup X dX7_takePair_46 rfl ?_
        refine gx_getf X (23) lf_X7_15 (by decide) (cl_23 _ _) (v := .int ((rdI (wrI ga8 24 (rdI ga3 23 2).toNatClampNeg ra7) 23 2))) rfl dX7_takePair_47 ?_
        refine gx_iconst X (v := (1 : Int32)) dX7_takePair_50 (by decide) ?_
        refine gx_iadd X dX7_takePair_51 ?_
        refine gx_putf X (23) ((rdI (wrI ga8 24 (rdI ga3 23 2).toNatClampNeg ra7) 23 2) + (1 : Int32)) lf_X7_15 lp_X7_2 (by decide) (cl_23 _ _) (Nat.le_of_ble_eq_true rfl) rfl rfl rfl dX7_takePair_52 ?_
        obtain ⟨rfl, rfl⟩ := ret_eq h
        exact gx_vret X dX7_takePair_55
theorem dX7_takeAllPairs_0 : decode cX7_takeAllPairs 0 = .ok (.aload_n 0, 1) := by decide +kernel
theorem dX7_takeAllPairs_1 : decode cX7_takeAllPairs 1 = .ok (.iconst 0, 1) := by decide +kernel
theorem dX7_takeAllPairs_2 : decode cX7_takeAllPairs 2 = .ok (.putfield 15, 3) := by decide +kernel
theorem dX7_takeAllPairs_5 : decode cX7_takeAllPairs 5 = .ok (.iconst 0, 1) := by decide +kernel
theorem dX7_takeAllPairs_6 : decode cX7_takeAllPairs 6 = .ok (.istore_n 1, 1) := by decide +kernel
theorem dX7_takeAllPairs_7 : decode cX7_takeAllPairs 7 = .ok (.iload_n 1, 1) := by decide +kernel
theorem dX7_takeAllPairs_8 : decode cX7_takeAllPairs 8 = .ok (.aload_n 0, 1) := by decide +kernel
theorem dX7_takeAllPairs_9 : decode cX7_takeAllPairs 9 = .ok (.getfield 19, 3) := by decide +kernel
theorem dX7_takeAllPairs_12 : decode cX7_takeAllPairs 12 = .ok (.getfield 33, 3) := by decide +kernel
theorem dX7_takeAllPairs_15 : decode cX7_takeAllPairs 15 = .ok (.if_icmp .ge 36, 3) := by decide +kernel
theorem dX7_takeAllPairs_18 : decode cX7_takeAllPairs 18 = .ok (.iload_n 1, 1) := by decide +kernel
theorem dX7_takeAllPairs_19 : decode cX7_takeAllPairs 19 = .ok (.iconst 1, 1) := by decide +kernel
theorem dX7_takeAllPairs_20 : decode cX7_takeAllPairs 20 = .ok (.iadd, 1) := by decide +kernel
theorem dX7_takeAllPairs_21 : decode cX7_takeAllPairs 21 = .ok (.istore_n 2, 1) := by decide +kernel
theorem dX7_takeAllPairs_22 : decode cX7_takeAllPairs 22 = .ok (.iload_n 2, 1) := by decide +kernel
theorem dX7_takeAllPairs_23 : decode cX7_takeAllPairs 23 = .ok (.aload_n 0, 1) := by decide +kernel
theorem dX7_takeAllPairs_24 : decode cX7_takeAllPairs 24 = .ok (.getfield 19, 3) := by decide +kernel
theorem dX7_takeAllPairs_27 : decode cX7_takeAllPairs 27 = .ok (.getfield 33, 3) := by decide +kernel
theorem dX7_takeAllPairs_30 : decode cX7_takeAllPairs 30 = .ok (.if_icmp .ge 15, 3) := by decide +kernel
theorem dX7_takeAllPairs_33 : decode cX7_takeAllPairs 33 = .ok (.aload_n 0, 1) := by decide +kernel
theorem dX7_takeAllPairs_34 : decode cX7_takeAllPairs 34 = .ok (.iload_n 1, 1) := by decide +kernel
theorem dX7_takeAllPairs_35 : decode cX7_takeAllPairs 35 = .ok (.iload_n 2, 1) := by decide +kernel
theorem dX7_takeAllPairs_36 : decode cX7_takeAllPairs 36 = .ok (.invokevirtual 36, 3) := by decide +kernel
theorem dX7_takeAllPairs_39 : decode cX7_takeAllPairs 39 = .ok (.iinc 2 1, 3) := by decide +kernel
theorem dX7_takeAllPairs_42 : decode cX7_takeAllPairs 42 = .ok (.goto (-20), 3) := by decide +kernel
theorem dX7_takeAllPairs_45 : decode cX7_takeAllPairs 45 = .ok (.iinc 1 1, 3) := by decide +kernel
theorem dX7_takeAllPairs_48 : decode cX7_takeAllPairs 48 = .ok (.goto (-41), 3) := by decide +kernel
theorem dX7_takeAllPairs_51 : decode cX7_takeAllPairs 51 = .ok (.return_, 1) := by decide +kernel
def m_X7_takeAllPairs_22 (K7 : Int32 → Mm → Option (Int32 × Mm)) : Nat → Int32 → Int32 → Mm → Option (Int32 × Mm)
  | 0, _, _, _ => none
  | n + 1, x1, x2, g => (if (rdI g 1 1) ≤ x2 then K7 (x1 + (1 : Int32)) g else bdd (m_X7_takePair x1 x2 g) (fun ra2 ga3 => m_X7_takeAllPairs_22 K7 n x1 (x2 + (1 : Int32)) ga3))
set_option maxHeartbeats 2000000 in
theorem t_X7_takeAllPairs_22 {r2 : Int32} {g2 : Mm} (X : gx_X p R s m args meth c D al cI cJ A RX7 cX7_takeAllPairs 3 none d 0 0) (hd : 4 ≤ d) {K7 : Int32 → Mm → Option (Int32 × Mm)} (hK7 : ∀ (u0 : Int32) (g : Mm), K7 u0 g = some (r2, g2) → gx_G p l e R s m args below meth c (gx_Q below args s D al cI cJ A none g2) D al cI cJ A 3 0 0 7 [(0, .ref (al (23))), (1, .int (u0))] [] g) : ∀ (n : Nat) (x1 : Int32) (x2 : Int32) (g : Mm), m_X7_takeAllPairs_22 K7 n x1 x2 g = some (r2, g2) → gx_G p l e R s m args below meth c (gx_Q below args s D al cI cJ A none g2) D al cI cJ A 3 0 0 22 [(0, .ref (al (23))), (1, .int (x1)), (2, .int (x2))] [] g := by
  intro n
  induction n with
  | zero => intro x1 x2 g h; cases h
  | succ n ih =>
    intro x1 x2 g h
    rw [m_X7_takeAllPairs_22] at h
    refine gx_iload_n X 2 rfl dX7_takeAllPairs_22 ?_
    refine gx_aload_n X 0 rfl dX7_takeAllPairs_23 ?_
    refine gx_getf X (23) lf_X7_19 (by decide) (cl_23 _ _) (v := .ref (al (1))) rfl dX7_takeAllPairs_24 ?_
    refine gx_getn X (1) lf_X7_33 (by decide) (cl_1 _ _) (v := .int ((rdI g 1 1))) rfl dX7_takeAllPairs_27 ?_
    refine gx_icmp_ge X 45 dX7_takeAllPairs_30 (by decide) (fun q1 => ?_) (fun q1 => ?_)
    · replace h := (if_pos q1).symm.trans h
      refine gx_iinc X [(1, .int ((x1 + (1 : Int32)))), (0, .ref (al (23))), (2, .int (x2))] 1 dX7_takeAllPairs_45 rfl rfl (by decide) rfl ?_
      refine gx_goto X 7 dX7_takeAllPairs_48 (by decide) ?_
      exact gx_sub [1, 0] rfl (hK7 (x1 + (1 : Int32)) g h)
    · replace h := (if_neg q1).symm.trans h
      refine gx_aload_n X 0 rfl dX7_takeAllPairs_33 ?_
      refine gx_iload_n X 1 rfl dX7_takeAllPairs_34 ?_
      refine gx_iload_n X 2 rfl dX7_takeAllPairs_35 ?_
      obtain ⟨ra2, ga3, ca4, h⟩ := bdd_eq h
      refine gx_callVv X (23) (c_X7_takePair ca4) lc_X7_takePair li_X7_takePair lm_X7_36 (by decide) (cl_23 _ _) rfl rfl rfl (Nat.le_trans (by decide) hd) rfl (Nat.le_of_ble_eq_true rfl) dX7_takeAllPairs_36 ?_
      refine gx_iinc X [(2, .int ((x2 + (1 : Int32)))), (0, .ref (al (23))), (1, .int (x1))] 2 dX7_takeAllPairs_39 rfl rfl (by decide) rfl ?_
      refine gx_goto X 22 dX7_takeAllPairs_42 (by decide) ?_
      exact gx_sub [1, 2, 0] rfl (ih x1 (x2 + (1 : Int32)) ga3 h)
def m_X7_takeAllPairs_7 : Nat → Int32 → Mm → Option (Int32 × Mm)
  | 0, _, _ => none
  | n + 1, x1, g => (if (rdI g 1 1) ≤ x1 then some ((0 : Int32), g) else m_X7_takeAllPairs_22 (m_X7_takeAllPairs_7 n) fuL x1 (x1 + (1 : Int32)) g)
set_option maxHeartbeats 2000000 in
theorem t_X7_takeAllPairs_7 {r2 : Int32} {g2 : Mm} (X : gx_X p R s m args meth c D al cI cJ A RX7 cX7_takeAllPairs 3 none d 0 0) (hd : 4 ≤ d) : ∀ (n : Nat) (x1 : Int32) (g : Mm), m_X7_takeAllPairs_7 n x1 g = some (r2, g2) → gx_G p l e R s m args below meth c (gx_Q below args s D al cI cJ A none g2) D al cI cJ A 3 0 0 7 [(0, .ref (al (23))), (1, .int (x1))] [] g := by
  intro n
  induction n with
  | zero => intro x1 g h; cases h
  | succ n ih =>
    intro x1 g h
    rw [m_X7_takeAllPairs_7] at h
    refine gx_iload_n X 1 rfl dX7_takeAllPairs_7 ?_
    refine gx_aload_n X 0 rfl dX7_takeAllPairs_8 ?_
    refine gx_getf X (23) lf_X7_19 (by decide) (cl_23 _ _) (v := .ref (al (1))) rfl dX7_takeAllPairs_9 ?_
    refine gx_getn X (1) lf_X7_33 (by decide) (cl_1 _ _) (v := .int ((rdI g 1 1))) rfl dX7_takeAllPairs_12 ?_
    refine gx_icmp_ge X 51 dX7_takeAllPairs_15 (by decide) (fun q1 => ?_) (fun q1 => ?_)
    · replace h := (if_pos q1).symm.trans h
      obtain ⟨rfl, rfl⟩ := ret_eq h
      exact gx_vret X dX7_takeAllPairs_51
    · replace h := (if_neg q1).symm.trans h
      refine gx_iload_n X 1 rfl dX7_takeAllPairs_18 ?_
      refine gx_iconst X (v := (1 : Int32)) dX7_takeAllPairs_19 (by decide) ?_
      refine gx_iadd X dX7_takeAllPairs_20 ?_
      refine gx_istore_n X [(2, .int ((x1 + (1 : Int32)))), (0, .ref (al (23))), (1, .int (x1))] dX7_takeAllPairs_21 (by decide) rfl ?_
      exact gx_sub [1, 2, 0] rfl (t_X7_takeAllPairs_22 X hd (fun u0 g h => ih u0 g h) fuL x1 (x1 + (1 : Int32)) g h)
def m_X7_takeAllPairs (g : Mm) : Option (Int32 × Mm) := m_X7_takeAllPairs_7 fuL (0 : Int32) (wrI g 23 2 (0 : Int32))
set_option maxHeartbeats 2000000 in
theorem c_X7_takeAllPairs {r2 : Int32} {g g2 : Mm} (h : m_X7_takeAllPairs g = some (r2, g2)) : gx_M 4 yX7_takeAllPairs cX7_takeAllPairs 3 none (fun al => [.ref (al (23))]) g none g2 := by
  have hd : 4 ≤ 4 := Nat.le_refl _
  refine gx_M.of (by decide +kernel) (fun _ => Nat.le_of_ble_eq_true rfl) ?_
  intro p l e R s m args below meth c D al cI cJ A X
  refine gx_eq (pc' := 0) (ls' := [(0, .ref (al (23)))]) (st' := []) (g' := g) ⟨rfl, rfl, rfl, rfl⟩ ?_
  unfold m_X7_takeAllPairs at h
  refine gx_aload_n X 0 rfl dX7_takeAllPairs_0 ?_
  refine gx_iconst X (v := (0 : Int32)) dX7_takeAllPairs_1 (by decide) ?_
  refine gx_putf X (23) (0 : Int32) lf_X7_15 lp_X7_2 (by decide) (cl_23 _ _) (Nat.le_of_ble_eq_true rfl) rfl rfl rfl dX7_takeAllPairs_2 ?_
  refine gx_iconst X (v := (0 : Int32)) dX7_takeAllPairs_5 (by decide) ?_
  refine gx_istore_n X [(1, .int ((0 : Int32))), (0, .ref (al (23)))] dX7_takeAllPairs_6 (by decide) rfl ?_
  exact gx_sub [1, 0] rfl (t_X7_takeAllPairs_7 X hd fuL (0 : Int32) (wrI g 23 2 (0 : Int32)) h)
theorem dX7_allTold_0 : decode cX7_allTold 0 = .ok (.aload_n 0, 1) := by decide +kernel
theorem dX7_allTold_1 : decode cX7_allTold 1 = .ok (.invokevirtual 46, 3) := by decide +kernel
theorem dX7_allTold_4 : decode cX7_allTold 4 = .ok (.aload_n 0, 1) := by decide +kernel
theorem dX7_allTold_5 : decode cX7_allTold 5 = .ok (.aload_n 0, 1) := by decide +kernel
theorem dX7_allTold_6 : decode cX7_allTold 6 = .ok (.getfield 19, 3) := by decide +kernel
theorem dX7_allTold_9 : decode cX7_allTold 9 = .ok (.invokevirtual 49, 3) := by decide +kernel
theorem dX7_allTold_12 : decode cX7_allTold 12 = .ok (.aload_n 0, 1) := by decide +kernel
theorem dX7_allTold_13 : decode cX7_allTold 13 = .ok (.getfield 19, 3) := by decide +kernel
theorem dX7_allTold_16 : decode cX7_allTold 16 = .ok (.invokevirtual 53, 3) := by decide +kernel
theorem dX7_allTold_19 : decode cX7_allTold 19 = .ok (.invokevirtual 56, 3) := by decide +kernel
theorem dX7_allTold_22 : decode cX7_allTold 22 = .ok (.ireturn, 1) := by decide +kernel
def m_X7_allTold (g : Mm) : Option (Int32 × Mm) := bdd (m_X7_takeAllPairs  g) (fun ra1 ga2 => bdd (m_X8_allBells  ga2) (fun ra4 ga5 => bdd (m_X8_differencesWanted  ga5) (fun ra7 ga8 => bdd (m_X7_allDifferIn ra4 ra7 ga8) (fun ra10 ga11 => gdd (zbI ra10) (some (ra10, ga11))))))
set_option maxHeartbeats 2000000 in
theorem c_X7_allTold {r2 : Int32} {g g2 : Mm} (h : m_X7_allTold g = some (r2, g2)) : gx_M 5 yX7_allTold cX7_allTold 1 (some .boolean) (fun al => [.ref (al (23))]) g (some (.int r2)) g2 := by
  have hd : 5 ≤ 5 := Nat.le_refl _
  refine gx_M.of (by decide +kernel) (fun _ => Nat.le_of_ble_eq_true rfl) ?_
  intro p l e R s m args below meth c D al cI cJ A X
  refine gx_eq (pc' := 0) (ls' := [(0, .ref (al (23)))]) (st' := []) (g' := g) ⟨rfl, rfl, rfl, rfl⟩ ?_
  unfold m_X7_allTold at h
  refine gx_aload_n X 0 rfl dX7_allTold_0 ?_
  obtain ⟨ra1, ga2, ca3, h⟩ := bdd_eq h
  refine gx_callVv X (23) (c_X7_takeAllPairs ca3) lc_X7_takeAllPairs li_X7_takeAllPairs lm_X7_46 (by decide) (cl_23 _ _) rfl rfl rfl (Nat.le_trans (by decide) hd) rfl (Nat.le_of_ble_eq_true rfl) dX7_allTold_1 ?_
  refine gx_aload_n X 0 rfl dX7_allTold_4 ?_
  refine gx_aload_n X 0 rfl dX7_allTold_5 ?_
  refine gx_getf X (23) lf_X7_19 (by decide) (cl_23 _ _) (v := .ref (al (1))) rfl dX7_allTold_6 ?_
  obtain ⟨ra4, ga5, ca6, h⟩ := bdd_eq h
  refine gx_callNi X (1) (c_X8_allBells ca6) lc_X8_allBells li_X8_allBells lm_X7_49 (by decide) (cl_1 _ _) rfl rfl rfl (Nat.le_trans (by decide) hd) rfl (Nat.le_of_ble_eq_true rfl) dX7_allTold_9 ?_
  refine gx_aload_n X 0 rfl dX7_allTold_12 ?_
  refine gx_getf X (23) lf_X7_19 (by decide) (cl_23 _ _) (v := .ref (al (1))) rfl dX7_allTold_13 ?_
  obtain ⟨ra7, ga8, ca9, h⟩ := bdd_eq h
  refine gx_callNi X (1) (c_X8_differencesWanted ca9) lc_X8_differencesWanted li_X8_differencesWanted lm_X7_53 (by decide) (cl_1 _ _) rfl rfl rfl (Nat.le_trans (by decide) hd) rfl (Nat.le_of_ble_eq_true rfl) dX7_allTold_16 ?_
  obtain ⟨ra10, ga11, ca12, h⟩ := bdd_eq h
  refine gx_callVi X (23) (c_X7_allDifferIn ca12) lc_X7_allDifferIn li_X7_allDifferIn lm_X7_56 (by decide) (cl_23 _ _) rfl rfl rfl (Nat.le_trans (by decide) hd) rfl (Nat.le_of_ble_eq_true rfl) dX7_allTold_19 ?_
  obtain ⟨q13, h⟩ := gdd_eq h
  obtain ⟨rfl, rfl⟩ := ret_eq h
  exact gx_iret X (zbI_n q13) dX7_allTold_22
theorem dX7_bellsOneMore_0 : decode cX7_bellsOneMore 0 = .ok (.iconst 0, 1) := by decide +kernel
theorem dX7_bellsOneMore_1 : decode cX7_bellsOneMore 1 = .ok (.istore_n 3, 1) := by decide +kernel
theorem dX7_bellsOneMore_2 : decode cX7_bellsOneMore 2 = .ok (.iconst 0, 1) := by decide +kernel
theorem dX7_bellsOneMore_3 : decode cX7_bellsOneMore 3 = .ok (.istore 4, 2) := by decide +kernel
theorem dX7_bellsOneMore_5 : decode cX7_bellsOneMore 5 = .ok (.iload 4, 2) := by decide +kernel
theorem dX7_bellsOneMore_7 : decode cX7_bellsOneMore 7 = .ok (.aload_n 0, 1) := by decide +kernel
theorem dX7_bellsOneMore_8 : decode cX7_bellsOneMore 8 = .ok (.getfield 19, 3) := by decide +kernel
theorem dX7_bellsOneMore_11 : decode cX7_bellsOneMore 11 = .ok (.getfield 80, 3) := by decide +kernel
theorem dX7_bellsOneMore_14 : decode cX7_bellsOneMore 14 = .ok (.if_icmp .ge 41, 3) := by decide +kernel
theorem dX7_bellsOneMore_17 : decode cX7_bellsOneMore 17 = .ok (.aload_n 0, 1) := by decide +kernel
theorem dX7_bellsOneMore_18 : decode cX7_bellsOneMore 18 = .ok (.getfield 19, 3) := by decide +kernel
theorem dX7_bellsOneMore_21 : decode cX7_bellsOneMore 21 = .ok (.iload_n 1, 1) := by decide +kernel
theorem dX7_bellsOneMore_22 : decode cX7_bellsOneMore 22 = .ok (.iload 4, 2) := by decide +kernel
theorem dX7_bellsOneMore_24 : decode cX7_bellsOneMore 24 = .ok (.invokevirtual 83, 3) := by decide +kernel
theorem dX7_bellsOneMore_27 : decode cX7_bellsOneMore 27 = .ok (.aload_n 0, 1) := by decide +kernel
theorem dX7_bellsOneMore_28 : decode cX7_bellsOneMore 28 = .ok (.getfield 19, 3) := by decide +kernel
theorem dX7_bellsOneMore_31 : decode cX7_bellsOneMore 31 = .ok (.iload_n 2, 1) := by decide +kernel
theorem dX7_bellsOneMore_32 : decode cX7_bellsOneMore 32 = .ok (.iload 4, 2) := by decide +kernel
theorem dX7_bellsOneMore_34 : decode cX7_bellsOneMore 34 = .ok (.invokevirtual 83, 3) := by decide +kernel
theorem dX7_bellsOneMore_37 : decode cX7_bellsOneMore 37 = .ok (.iconst 1, 1) := by decide +kernel
theorem dX7_bellsOneMore_38 : decode cX7_bellsOneMore 38 = .ok (.iadd, 1) := by decide +kernel
theorem dX7_bellsOneMore_39 : decode cX7_bellsOneMore 39 = .ok (.if_icmp .ne 10, 3) := by decide +kernel
theorem dX7_bellsOneMore_42 : decode cX7_bellsOneMore 42 = .ok (.iload_n 3, 1) := by decide +kernel
theorem dX7_bellsOneMore_43 : decode cX7_bellsOneMore 43 = .ok (.iconst 1, 1) := by decide +kernel
theorem dX7_bellsOneMore_44 : decode cX7_bellsOneMore 44 = .ok (.iload 4, 2) := by decide +kernel
theorem dX7_bellsOneMore_46 : decode cX7_bellsOneMore 46 = .ok (.ishl, 1) := by decide +kernel
theorem dX7_bellsOneMore_47 : decode cX7_bellsOneMore 47 = .ok (.ior, 1) := by decide +kernel
theorem dX7_bellsOneMore_48 : decode cX7_bellsOneMore 48 = .ok (.istore_n 3, 1) := by decide +kernel
theorem dX7_bellsOneMore_49 : decode cX7_bellsOneMore 49 = .ok (.iinc 4 1, 3) := by decide +kernel
theorem dX7_bellsOneMore_52 : decode cX7_bellsOneMore 52 = .ok (.goto (-47), 3) := by decide +kernel
theorem dX7_bellsOneMore_55 : decode cX7_bellsOneMore 55 = .ok (.iload_n 3, 1) := by decide +kernel
theorem dX7_bellsOneMore_56 : decode cX7_bellsOneMore 56 = .ok (.ireturn, 1) := by decide +kernel
def m_X7_bellsOneMore_5 : Nat → Int32 → Int32 → Int32 → Int32 → Mm → Option (Int32 × Mm)
  | 0, _, _, _, _, _ => none
  | n + 1, x1, x2, x3, x4, g => (if (rdI g 1 0) ≤ x4 then some (x3, g) else bdd (m_X8_struck x1 x4 g) (fun ra2 ga3 => bdd (m_X8_struck x2 x4 ga3) (fun ra5 ga6 => (if ra2 = (ra5 + (1 : Int32)) then m_X7_bellsOneMore_5 n x1 x2 (x3 ||| (shlI (1 : Int32) x4)) (x4 + (1 : Int32)) ga6 else m_X7_bellsOneMore_5 n x1 x2 x3 (x4 + (1 : Int32)) ga6))))
set_option maxHeartbeats 2000000 in
theorem t_X7_bellsOneMore_5 {r2 : Int32} {g2 : Mm} (X : gx_X p R s m args meth c D al cI cJ A RX7 cX7_bellsOneMore 5 (some .int) d 0 0) (hd : 2 ≤ d) : ∀ (n : Nat) (x1 : Int32) (x2 : Int32) (x3 : Int32) (x4 : Int32) (g : Mm), m_X7_bellsOneMore_5 n x1 x2 x3 x4 g = some (r2, g2) → gx_G p l e R s m args below meth c (gx_Q below args s D al cI cJ A (some (.int r2)) g2) D al cI cJ A 5 0 0 5 [(0, .ref (al (23))), (1, .int (x1)), (2, .int (x2)), (3, .int (x3)), (4, .int (x4))] [] g := by
  intro n
  induction n with
  | zero => intro x1 x2 x3 x4 g h; cases h
  | succ n ih =>
    intro x1 x2 x3 x4 g h
    rw [m_X7_bellsOneMore_5] at h
    refine gx_iload X 4 rfl dX7_bellsOneMore_5 ?_
    refine gx_aload_n X 0 rfl dX7_bellsOneMore_7 ?_
    refine gx_getf X (23) lf_X7_19 (by decide) (cl_23 _ _) (v := .ref (al (1))) rfl dX7_bellsOneMore_8 ?_
    refine gx_getn X (1) lf_X7_80 (by decide) (cl_1 _ _) (v := .int ((rdI g 1 0))) rfl dX7_bellsOneMore_11 ?_
    refine gx_icmp_ge X 55 dX7_bellsOneMore_14 (by decide) (fun q1 => ?_) (fun q1 => ?_)
    · replace h := (if_pos q1).symm.trans h
      refine gx_iload_n X 3 rfl dX7_bellsOneMore_55 ?_
      obtain ⟨rfl, rfl⟩ := ret_eq h
      exact gx_iret X rfl dX7_bellsOneMore_56
    · replace h := (if_neg q1).symm.trans h
      refine gx_aload_n X 0 rfl dX7_bellsOneMore_17 ?_
      refine gx_getf X (23) lf_X7_19 (by decide) (cl_23 _ _) (v := .ref (al (1))) rfl dX7_bellsOneMore_18 ?_
      refine gx_iload_n X 1 rfl dX7_bellsOneMore_21 ?_
      refine gx_iload X 4 rfl dX7_bellsOneMore_22 ?_
      obtain ⟨ra2, ga3, ca4, h⟩ := bdd_eq h
      refine gx_callNi X (1) (c_X8_struck ca4) lc_X8_struck li_X8_struck lm_X7_83 (by decide) (cl_1 _ _) rfl rfl rfl (Nat.le_trans (by decide) hd) rfl (Nat.le_of_ble_eq_true rfl) dX7_bellsOneMore_24 ?_
      refine gx_aload_n X 0 rfl dX7_bellsOneMore_27 ?_
      refine gx_getf X (23) lf_X7_19 (by decide) (cl_23 _ _) (v := .ref (al (1))) rfl dX7_bellsOneMore_28 ?_
      refine gx_iload_n X 2 rfl dX7_bellsOneMore_31 ?_
      refine gx_iload X 4 rfl dX7_bellsOneMore_32 ?_
      obtain ⟨ra5, ga6, ca7, h⟩ := bdd_eq h
      refine gx_callNi X (1) (c_X8_struck ca7) lc_X8_struck li_X8_struck lm_X7_83 (by decide) (cl_1 _ _) rfl rfl rfl (Nat.le_trans (by decide) hd) rfl (Nat.le_of_ble_eq_true rfl) dX7_bellsOneMore_34 ?_
      refine gx_iconst X (v := (1 : Int32)) dX7_bellsOneMore_37 (by decide) ?_
      refine gx_iadd X dX7_bellsOneMore_38 ?_
      refine gx_icmp_ne X 49 dX7_bellsOneMore_39 (by decide) (fun q8 => ?_) (fun q8 => ?_)
      · replace h := (if_neg q8).symm.trans h
        refine gx_iinc X [(4, .int ((x4 + (1 : Int32)))), (0, .ref (al (23))), (1, .int (x1)), (2, .int (x2)), (3, .int (x3))] 4 dX7_bellsOneMore_49 rfl rfl (by decide) rfl ?_
        refine gx_goto X 5 dX7_bellsOneMore_52 (by decide) ?_
        exact gx_sub [1, 2, 3, 4, 0] rfl (ih x1 x2 x3 (x4 + (1 : Int32)) ga6 h)
      · replace h := (if_pos q8).symm.trans h
        refine gx_iload_n X 3 rfl dX7_bellsOneMore_42 ?_
        refine gx_iconst X (v := (1 : Int32)) dX7_bellsOneMore_43 (by decide) ?_
        refine gx_iload X 4 rfl dX7_bellsOneMore_44 ?_
        refine gx_ishl X dX7_bellsOneMore_46 ?_
        refine gx_ior X dX7_bellsOneMore_47 ?_
        refine gx_istore_n X [(3, .int ((x3 ||| (shlI (1 : Int32) x4)))), (0, .ref (al (23))), (1, .int (x1)), (2, .int (x2)), (4, .int (x4))] dX7_bellsOneMore_48 (by decide) rfl ?_
        refine gx_iinc X [(4, .int ((x4 + (1 : Int32)))), (3, .int ((x3 ||| (shlI (1 : Int32) x4)))), (0, .ref (al (23))), (1, .int (x1)), (2, .int (x2))] 4 dX7_bellsOneMore_49 rfl rfl (by decide) rfl ?_
        refine gx_goto X 5 dX7_bellsOneMore_52 (by decide) ?_
        exact gx_sub [2, 3, 4, 1, 0] rfl (ih x1 x2 (x3 ||| (shlI (1 : Int32) x4)) (x4 + (1 : Int32)) ga6 h)
def m_X7_bellsOneMore (a1 : Int32) (a2 : Int32) (g : Mm) : Option (Int32 × Mm) := m_X7_bellsOneMore_5 fuL a1 a2 (0 : Int32) (0 : Int32) g
set_option maxHeartbeats 2000000 in
theorem c_X7_bellsOneMore {r2 : Int32} {g g2 : Mm} {a1 : Int32} {a2 : Int32} (h : m_X7_bellsOneMore a1 a2 g = some (r2, g2)) : gx_M 2 yX7_bellsOneMore cX7_bellsOneMore 5 (some .int) (fun al => [.ref (al (23)), .int (a1), .int (a2)]) g (some (.int r2)) g2 := by
  have hd : 2 ≤ 2 := Nat.le_refl _
  refine gx_M.of (by decide +kernel) (fun _ => Nat.le_of_ble_eq_true rfl) ?_
  intro p l e R s m args below meth c D al cI cJ A X
  refine gx_eq (pc' := 0) (ls' := [(0, .ref (al (23))), (1, .int (a1)), (2, .int (a2))]) (st' := []) (g' := g) ⟨rfl, rfl, rfl, rfl⟩ ?_
  unfold m_X7_bellsOneMore at h
  refine gx_iconst X (v := (0 : Int32)) dX7_bellsOneMore_0 (by decide) ?_
  refine gx_istore_n X [(3, .int ((0 : Int32))), (0, .ref (al (23))), (1, .int (a1)), (2, .int (a2))] dX7_bellsOneMore_1 (by decide) rfl ?_
  refine gx_iconst X (v := (0 : Int32)) dX7_bellsOneMore_2 (by decide) ?_
  refine gx_istore X [(4, .int ((0 : Int32))), (3, .int ((0 : Int32))), (0, .ref (al (23))), (1, .int (a1)), (2, .int (a2))] dX7_bellsOneMore_3 (by decide) rfl ?_
  exact gx_sub [2, 3, 4, 1, 0] rfl (t_X7_bellsOneMore_5 X hd fuL a1 a2 (0 : Int32) (0 : Int32) g h)
theorem dX7_isHeardSet_0 : decode cX7_isHeardSet 0 = .ok (.iload_n 1, 1) := by decide +kernel
theorem dX7_isHeardSet_1 : decode cX7_isHeardSet 1 = .ok (.invokestatic 40, 3) := by decide +kernel
theorem dX7_isHeardSet_4 : decode cX7_isHeardSet 4 = .ok (.aload_n 0, 1) := by decide +kernel
theorem dX7_isHeardSet_5 : decode cX7_isHeardSet 5 = .ok (.getfield 19, 3) := by decide +kernel
theorem dX7_isHeardSet_8 : decode cX7_isHeardSet 8 = .ok (.invokevirtual 59, 3) := by decide +kernel
theorem dX7_isHeardSet_11 : decode cX7_isHeardSet 11 = .ok (.if_icmp .ne 7, 3) := by decide +kernel
theorem dX7_isHeardSet_14 : decode cX7_isHeardSet 14 = .ok (.iconst 1, 1) := by decide +kernel
theorem dX7_isHeardSet_15 : decode cX7_isHeardSet 15 = .ok (.goto 4, 3) := by decide +kernel
theorem dX7_isHeardSet_18 : decode cX7_isHeardSet 18 = .ok (.iconst 0, 1) := by decide +kernel
theorem dX7_isHeardSet_19 : decode cX7_isHeardSet 19 = .ok (.ireturn, 1) := by decide +kernel
def m_X7_isHeardSet (a1 : Int32) (g : Mm) : Option (Int32 × Mm) := bdd (m_J6_bitCount_0f7a4 a1 g) (fun ra1 ga2 => bdd (m_X8_heardTogether  ga2) (fun ra4 ga5 => (if ra1 = ra4 then some ((1 : Int32), ga5) else some ((0 : Int32), ga5))))
set_option maxHeartbeats 2000000 in
theorem c_X7_isHeardSet {r2 : Int32} {g g2 : Mm} {a1 : Int32} (h : m_X7_isHeardSet a1 g = some (r2, g2)) : gx_M 3 yX7_isHeardSet cX7_isHeardSet 2 (some .boolean) (fun al => [.ref (al (23)), .int (a1)]) g (some (.int r2)) g2 := by
  have hd : 3 ≤ 3 := Nat.le_refl _
  refine gx_M.of (by decide +kernel) (fun _ => Nat.le_of_ble_eq_true rfl) ?_
  intro p l e R s m args below meth c D al cI cJ A X
  refine gx_eq (pc' := 0) (ls' := [(0, .ref (al (23))), (1, .int (a1))]) (st' := []) (g' := g) ⟨rfl, rfl, rfl, rfl⟩ ?_
  unfold m_X7_isHeardSet at h
  refine gx_iload_n X 1 rfl dX7_isHeardSet_0 ?_
  obtain ⟨ra1, ga2, ca3, h⟩ := bdd_eq h
  refine gx_callSi X (c_J6_bitCount_0f7a4 ca3) lc_J6_bitCount_0f7a4 li_J6_bitCount_0f7a4 lm_X7_40 rfl rfl (Nat.le_trans (by decide) hd) rfl (Nat.le_of_ble_eq_true rfl) dX7_isHeardSet_1 ?_
  refine gx_aload_n X 0 rfl dX7_isHeardSet_4 ?_
  refine gx_getf X (23) lf_X7_19 (by decide) (cl_23 _ _) (v := .ref (al (1))) rfl dX7_isHeardSet_5 ?_
  obtain ⟨ra4, ga5, ca6, h⟩ := bdd_eq h
  refine gx_callNi X (1) (c_X8_heardTogether ca6) lc_X8_heardTogether li_X8_heardTogether lm_X7_59 (by decide) (cl_1 _ _) rfl rfl rfl (Nat.le_trans (by decide) hd) rfl (Nat.le_of_ble_eq_true rfl) dX7_isHeardSet_8 ?_
  refine gx_icmp_ne X 18 dX7_isHeardSet_11 (by decide) (fun q7 => ?_) (fun q7 => ?_)
  · replace h := (if_neg q7).symm.trans h
    refine gx_iconst X (v := (0 : Int32)) dX7_isHeardSet_18 (by decide) ?_
    obtain ⟨rfl, rfl⟩ := ret_eq h
    exact gx_iret X rfl dX7_isHeardSet_19
  · replace h := (if_pos q7).symm.trans h
    refine gx_iconst X (v := (1 : Int32)) dX7_isHeardSet_14 (by decide) ?_
    refine gx_goto X 19 dX7_isHeardSet_15 (by decide) ?_
    obtain ⟨rfl, rfl⟩ := ret_eq h
    exact gx_iret X rfl dX7_isHeardSet_19
theorem dX7_toldWithAStrokeLost_0 : decode cX7_toldWithAStrokeLost 0 = .ok (.aload_n 0, 1) := by decide +kernel
theorem dX7_toldWithAStrokeLost_1 : decode cX7_toldWithAStrokeLost 1 = .ok (.iload_n 1, 1) := by decide +kernel
theorem dX7_toldWithAStrokeLost_2 : decode cX7_toldWithAStrokeLost 2 = .ok (.iload_n 2, 1) := by decide +kernel
theorem dX7_toldWithAStrokeLost_3 : decode cX7_toldWithAStrokeLost 3 = .ok (.invokevirtual 77, 3) := by decide +kernel
theorem dX7_toldWithAStrokeLost_6 : decode cX7_toldWithAStrokeLost 6 = .ok (.istore_n 3, 1) := by decide +kernel
theorem dX7_toldWithAStrokeLost_7 : decode cX7_toldWithAStrokeLost 7 = .ok (.aload_n 0, 1) := by decide +kernel
theorem dX7_toldWithAStrokeLost_8 : decode cX7_toldWithAStrokeLost 8 = .ok (.iload_n 2, 1) := by decide +kernel
theorem dX7_toldWithAStrokeLost_9 : decode cX7_toldWithAStrokeLost 9 = .ok (.iload_n 1, 1) := by decide +kernel
theorem dX7_toldWithAStrokeLost_10 : decode cX7_toldWithAStrokeLost 10 = .ok (.invokevirtual 77, 3) := by decide +kernel
theorem dX7_toldWithAStrokeLost_13 : decode cX7_toldWithAStrokeLost 13 = .ok (.istore 4, 2) := by decide +kernel
theorem dX7_toldWithAStrokeLost_15 : decode cX7_toldWithAStrokeLost 15 = .ok (.aload_n 0, 1) := by decide +kernel
theorem dX7_toldWithAStrokeLost_16 : decode cX7_toldWithAStrokeLost 16 = .ok (.getfield 19, 3) := by decide +kernel
theorem dX7_toldWithAStrokeLost_19 : decode cX7_toldWithAStrokeLost 19 = .ok (.iload_n 1, 1) := by decide +kernel
theorem dX7_toldWithAStrokeLost_20 : decode cX7_toldWithAStrokeLost 20 = .ok (.iload_n 2, 1) := by decide +kernel
theorem dX7_toldWithAStrokeLost_21 : decode cX7_toldWithAStrokeLost 21 = .ok (.invokevirtual 29, 3) := by decide +kernel
theorem dX7_toldWithAStrokeLost_24 : decode cX7_toldWithAStrokeLost 24 = .ok (.iload_n 3, 1) := by decide +kernel
theorem dX7_toldWithAStrokeLost_25 : decode cX7_toldWithAStrokeLost 25 = .ok (.iconst (-1), 1) := by decide +kernel
theorem dX7_toldWithAStrokeLost_26 : decode cX7_toldWithAStrokeLost 26 = .ok (.ixor, 1) := by decide +kernel
theorem dX7_toldWithAStrokeLost_27 : decode cX7_toldWithAStrokeLost 27 = .ok (.iand, 1) := by decide +kernel
theorem dX7_toldWithAStrokeLost_28 : decode cX7_toldWithAStrokeLost 28 = .ok (.iload 4, 2) := by decide +kernel
theorem dX7_toldWithAStrokeLost_30 : decode cX7_toldWithAStrokeLost 30 = .ok (.iconst (-1), 1) := by decide +kernel
theorem dX7_toldWithAStrokeLost_31 : decode cX7_toldWithAStrokeLost 31 = .ok (.ixor, 1) := by decide +kernel
theorem dX7_toldWithAStrokeLost_32 : decode cX7_toldWithAStrokeLost 32 = .ok (.iand, 1) := by decide +kernel
theorem dX7_toldWithAStrokeLost_33 : decode cX7_toldWithAStrokeLost 33 = .ok (.istore 5, 2) := by decide +kernel
theorem dX7_toldWithAStrokeLost_35 : decode cX7_toldWithAStrokeLost 35 = .ok (.iconst 1, 1) := by decide +kernel
theorem dX7_toldWithAStrokeLost_36 : decode cX7_toldWithAStrokeLost 36 = .ok (.istore 6, 2) := by decide +kernel
theorem dX7_toldWithAStrokeLost_38 : decode cX7_toldWithAStrokeLost 38 = .ok (.iload 6, 2) := by decide +kernel
theorem dX7_toldWithAStrokeLost_40 : decode cX7_toldWithAStrokeLost 40 = .ok (.aload_n 0, 1) := by decide +kernel
theorem dX7_toldWithAStrokeLost_41 : decode cX7_toldWithAStrokeLost 41 = .ok (.getfield 19, 3) := by decide +kernel
theorem dX7_toldWithAStrokeLost_44 : decode cX7_toldWithAStrokeLost 44 = .ok (.invokevirtual 49, 3) := by decide +kernel
theorem dX7_toldWithAStrokeLost_47 : decode cX7_toldWithAStrokeLost 47 = .ok (.if_icmp .gt 63, 3) := by decide +kernel
theorem dX7_toldWithAStrokeLost_50 : decode cX7_toldWithAStrokeLost 50 = .ok (.iload 5, 2) := by decide +kernel
theorem dX7_toldWithAStrokeLost_52 : decode cX7_toldWithAStrokeLost 52 = .ok (.iload 6, 2) := by decide +kernel
theorem dX7_toldWithAStrokeLost_54 : decode cX7_toldWithAStrokeLost 54 = .ok (.iand, 1) := by decide +kernel
theorem dX7_toldWithAStrokeLost_55 : decode cX7_toldWithAStrokeLost 55 = .ok (.ifCond .ne 30, 3) := by decide +kernel
theorem dX7_toldWithAStrokeLost_58 : decode cX7_toldWithAStrokeLost 58 = .ok (.iload_n 3, 1) := by decide +kernel
theorem dX7_toldWithAStrokeLost_59 : decode cX7_toldWithAStrokeLost 59 = .ok (.iload 6, 2) := by decide +kernel
theorem dX7_toldWithAStrokeLost_61 : decode cX7_toldWithAStrokeLost 61 = .ok (.iand, 1) := by decide +kernel
theorem dX7_toldWithAStrokeLost_62 : decode cX7_toldWithAStrokeLost 62 = .ok (.invokestatic 40, 3) := by decide +kernel
theorem dX7_toldWithAStrokeLost_65 : decode cX7_toldWithAStrokeLost 65 = .ok (.iconst 1, 1) := by decide +kernel
theorem dX7_toldWithAStrokeLost_66 : decode cX7_toldWithAStrokeLost 66 = .ok (.if_icmp .gt 19, 3) := by decide +kernel
theorem dX7_toldWithAStrokeLost_69 : decode cX7_toldWithAStrokeLost 69 = .ok (.iload 4, 2) := by decide +kernel
theorem dX7_toldWithAStrokeLost_71 : decode cX7_toldWithAStrokeLost 71 = .ok (.iload 6, 2) := by decide +kernel
theorem dX7_toldWithAStrokeLost_73 : decode cX7_toldWithAStrokeLost 73 = .ok (.iand, 1) := by decide +kernel
theorem dX7_toldWithAStrokeLost_74 : decode cX7_toldWithAStrokeLost 74 = .ok (.invokestatic 40, 3) := by decide +kernel
theorem dX7_toldWithAStrokeLost_77 : decode cX7_toldWithAStrokeLost 77 = .ok (.iconst 1, 1) := by decide +kernel
theorem dX7_toldWithAStrokeLost_78 : decode cX7_toldWithAStrokeLost 78 = .ok (.if_icmp .gt 7, 3) := by decide +kernel
theorem dX7_toldWithAStrokeLost_81 : decode cX7_toldWithAStrokeLost 81 = .ok (.iconst 1, 1) := by decide +kernel
theorem dX7_toldWithAStrokeLost_82 : decode cX7_toldWithAStrokeLost 82 = .ok (.goto 4, 3) := by decide +kernel
theorem dX7_toldWithAStrokeLost_85 : decode cX7_toldWithAStrokeLost 85 = .ok (.iconst 0, 1) := by decide +kernel
theorem dX7_toldWithAStrokeLost_86 : decode cX7_toldWithAStrokeLost 86 = .ok (.istore 7, 2) := by decide +kernel
theorem dX7_toldWithAStrokeLost_88 : decode cX7_toldWithAStrokeLost 88 = .ok (.iload 7, 2) := by decide +kernel
theorem dX7_toldWithAStrokeLost_90 : decode cX7_toldWithAStrokeLost 90 = .ok (.ifCond .eq 14, 3) := by decide +kernel
theorem dX7_toldWithAStrokeLost_93 : decode cX7_toldWithAStrokeLost 93 = .ok (.aload_n 0, 1) := by decide +kernel
theorem dX7_toldWithAStrokeLost_94 : decode cX7_toldWithAStrokeLost 94 = .ok (.iload 6, 2) := by decide +kernel
theorem dX7_toldWithAStrokeLost_96 : decode cX7_toldWithAStrokeLost 96 = .ok (.invokevirtual 62, 3) := by decide +kernel
theorem dX7_toldWithAStrokeLost_99 : decode cX7_toldWithAStrokeLost 99 = .ok (.ifCond .eq 5, 3) := by decide +kernel
theorem dX7_toldWithAStrokeLost_102 : decode cX7_toldWithAStrokeLost 102 = .ok (.iconst 0, 1) := by decide +kernel
theorem dX7_toldWithAStrokeLost_103 : decode cX7_toldWithAStrokeLost 103 = .ok (.ireturn, 1) := by decide +kernel
theorem dX7_toldWithAStrokeLost_104 : decode cX7_toldWithAStrokeLost 104 = .ok (.iinc 6 1, 3) := by decide +kernel
theorem dX7_toldWithAStrokeLost_107 : decode cX7_toldWithAStrokeLost 107 = .ok (.goto (-69), 3) := by decide +kernel
theorem dX7_toldWithAStrokeLost_110 : decode cX7_toldWithAStrokeLost 110 = .ok (.iconst 1, 1) := by decide +kernel
theorem dX7_toldWithAStrokeLost_111 : decode cX7_toldWithAStrokeLost 111 = .ok (.ireturn, 1) := by decide +kernel
def m_X7_toldWithAStrokeLost_86 (K38 : Int32 → Int32 → Int32 → Int32 → Mm → Option (Int32 × Mm)) (x3 : Int32) (x4 : Int32) (x5 : Int32) (x6 : Int32) (k0 : Int32) (g : Mm) : Option (Int32 × Mm) := (if k0 = (0 : Int32) then K38 x3 x4 x5 (x6 + (1 : Int32)) g else bdd (m_X7_isHeardSet x6 g) (fun ra2 ga3 => (if ra2 = (0 : Int32) then K38 x3 x4 x5 (x6 + (1 : Int32)) ga3 else some ((0 : Int32), ga3))))
set_option maxHeartbeats 2000000 in
theorem t_X7_toldWithAStrokeLost_86 {r2 : Int32} {g2 : Mm} (X : gx_X p R s m args meth c D al cI cJ A RX7 cX7_toldWithAStrokeLost 8 (some .boolean) d 0 0) (hd : 4 ≤ d) {K38 : Int32 → Int32 → Int32 → Int32 → Mm → Option (Int32 × Mm)} (hK38 : ∀ (u0 : Int32) (u1 : Int32) (u2 : Int32) (u3 : Int32) (g : Mm), K38 u0 u1 u2 u3 g = some (r2, g2) → gx_G p l e R s m args below meth c (gx_Q below args s D al cI cJ A (some (.int r2)) g2) D al cI cJ A 8 0 0 38 [(0, .ref (al (23))), (3, .int (u0)), (4, .int (u1)), (5, .int (u2)), (6, .int (u3))] [] g) : ∀ (x3 : Int32) (x4 : Int32) (x5 : Int32) (x6 : Int32) (k0 : Int32) (g : Mm), m_X7_toldWithAStrokeLost_86 K38 x3 x4 x5 x6 k0 g = some (r2, g2) → gx_G p l e R s m args below meth c (gx_Q below args s D al cI cJ A (some (.int r2)) g2) D al cI cJ A 8 0 0 86 [(0, .ref (al (23))), (3, .int (x3)), (4, .int (x4)), (5, .int (x5)), (6, .int (x6))] [.int (k0)] g := by
  intro x3 x4 x5 x6 k0 g h
  unfold m_X7_toldWithAStrokeLost_86 at h
  refine gx_istore X [(7, .int (k0)), (0, .ref (al (23))), (3, .int (x3)), (4, .int (x4)), (5, .int (x5)), (6, .int (x6))] dX7_toldWithAStrokeLost_86 (by decide) rfl ?_
  refine gx_iload X 0 rfl dX7_toldWithAStrokeLost_88 ?_
  refine gx_if_eq X 104 dX7_toldWithAStrokeLost_90 (by decide) (fun q1 => ?_) (fun q1 => ?_)
  · replace h := (if_pos q1).symm.trans h
    refine gx_iinc X [(6, .int ((x6 + (1 : Int32)))), (7, .int (k0)), (0, .ref (al (23))), (3, .int (x3)), (4, .int (x4)), (5, .int (x5))] 5 dX7_toldWithAStrokeLost_104 rfl rfl (by decide) rfl ?_
    refine gx_goto X 38 dX7_toldWithAStrokeLost_107 (by decide) ?_
    exact gx_sub [2, 3, 4, 5, 0] rfl (hK38 x3 x4 x5 (x6 + (1 : Int32)) g h)
  · replace h := (if_neg q1).symm.trans h
    refine gx_aload_n X 1 rfl dX7_toldWithAStrokeLost_93 ?_
    refine gx_iload X 5 rfl dX7_toldWithAStrokeLost_94 ?_
    obtain ⟨ra2, ga3, ca4, h⟩ := bdd_eq h
    refine gx_callVi X (23) (c_X7_isHeardSet ca4) lc_X7_isHeardSet li_X7_isHeardSet lm_X7_62 (by decide) (cl_23 _ _) rfl rfl rfl (Nat.le_trans (by decide) hd) rfl (Nat.le_of_ble_eq_true rfl) dX7_toldWithAStrokeLost_96 ?_
    refine gx_if_eq X 104 dX7_toldWithAStrokeLost_99 (by decide) (fun q5 => ?_) (fun q5 => ?_)
    · replace h := (if_pos q5).symm.trans h
      refine gx_iinc X [(6, .int ((x6 + (1 : Int32)))), (7, .int (k0)), (0, .ref (al (23))), (3, .int (x3)), (4, .int (x4)), (5, .int (x5))] 5 dX7_toldWithAStrokeLost_104 rfl rfl (by decide) rfl ?_
      refine gx_goto X 38 dX7_toldWithAStrokeLost_107 (by decide) ?_
      exact gx_sub [2, 3, 4, 5, 0] rfl (hK38 x3 x4 x5 (x6 + (1 : Int32)) ga3 h)
    · replace h := (if_neg q5).symm.trans h
      refine gx_iconst X (v := (0 : Int32)) dX7_toldWithAStrokeLost_102 (by decide) ?_
      obtain ⟨rfl, rfl⟩ := ret_eq h
      exact gx_iret X rfl dX7_toldWithAStrokeLost_103
def m_X7_toldWithAStrokeLost_38 : Nat → Int32 → Int32 → Int32 → Int32 → Mm → Option (Int32 × Mm)
  | 0, _, _, _, _, _ => none
  | n + 1, x3, x4, x5, x6, g => bdd (m_X8_allBells  g) (fun ra1 ga2 => (if ra1 < x6 then some ((1 : Int32), ga2) else (if (x5 &&& x6) = (0 : Int32) then bdd (m_J6_bitCount_0f7a4 (x3 &&& x6) ga2) (fun ra6 ga7 => (if (1 : Int32) < ra6 then m_X7_toldWithAStrokeLost_86 (m_X7_toldWithAStrokeLost_38 n) x3 x4 x5 x6 (0 : Int32) ga7 else bdd (m_J6_bitCount_0f7a4 (x4 &&& x6) ga7) (fun ra10 ga11 => (if (1 : Int32) < ra10 then m_X7_toldWithAStrokeLost_86 (m_X7_toldWithAStrokeLost_38 n) x3 x4 x5 x6 (0 : Int32) ga11 else m_X7_toldWithAStrokeLost_86 (m_X7_toldWithAStrokeLost_38 n) x3 x4 x5 x6 (1 : Int32) ga11)))) else m_X7_toldWithAStrokeLost_86 (m_X7_toldWithAStrokeLost_38 n) x3 x4 x5 x6 (0 : Int32) ga2)))
set_option maxHeartbeats 2000000 in
theorem t_X7_toldWithAStrokeLost_38 {r2 : Int32} {g2 : Mm} (X : gx_X p R s m args meth c D al cI cJ A RX7 cX7_toldWithAStrokeLost 8 (some .boolean) d 0 0) (hd : 4 ≤ d) : ∀ (n : Nat) (x3 : Int32) (x4 : Int32) (x5 : Int32) (x6 : Int32) (g : Mm), m_X7_toldWithAStrokeLost_38 n x3 x4 x5 x6 g = some (r2, g2) → gx_G p l e R s m args below meth c (gx_Q below args s D al cI cJ A (some (.int r2)) g2) D al cI cJ A 8 0 0 38 [(0, .ref (al (23))), (3, .int (x3)), (4, .int (x4)), (5, .int (x5)), (6, .int (x6))] [] g := by
  intro n
  induction n with
  | zero => intro x3 x4 x5 x6 g h; cases h
  | succ n ih =>
    intro x3 x4 x5 x6 g h
    rw [m_X7_toldWithAStrokeLost_38] at h
    refine gx_iload X 4 rfl dX7_toldWithAStrokeLost_38 ?_
    refine gx_aload_n X 0 rfl dX7_toldWithAStrokeLost_40 ?_
    refine gx_getf X (23) lf_X7_19 (by decide) (cl_23 _ _) (v := .ref (al (1))) rfl dX7_toldWithAStrokeLost_41 ?_
    obtain ⟨ra1, ga2, ca3, h⟩ := bdd_eq h
    refine gx_callNi X (1) (c_X8_allBells ca3) lc_X8_allBells li_X8_allBells lm_X7_49 (by decide) (cl_1 _ _) rfl rfl rfl (Nat.le_trans (by decide) hd) rfl (Nat.le_of_ble_eq_true rfl) dX7_toldWithAStrokeLost_44 ?_
    refine gx_icmp_gt X 110 dX7_toldWithAStrokeLost_47 (by decide) (fun q4 => ?_) (fun q4 => ?_)
    · replace h := (if_pos q4).symm.trans h
      refine gx_iconst X (v := (1 : Int32)) dX7_toldWithAStrokeLost_110 (by decide) ?_
      obtain ⟨rfl, rfl⟩ := ret_eq h
      exact gx_iret X rfl dX7_toldWithAStrokeLost_111
    · replace h := (if_neg q4).symm.trans h
      refine gx_iload X 3 rfl dX7_toldWithAStrokeLost_50 ?_
      refine gx_iload X 4 rfl dX7_toldWithAStrokeLost_52 ?_
      refine gx_iand X dX7_toldWithAStrokeLost_54 ?_
      refine gx_if_ne X 85 dX7_toldWithAStrokeLost_55 (by decide) (fun q5 => ?_) (fun q5 => ?_)
      · replace h := (if_neg q5).symm.trans h
        refine gx_iconst X (v := (0 : Int32)) dX7_toldWithAStrokeLost_85 (by decide) ?_
        exact gx_sub [0, 1, 2, 3, 4] rfl (t_X7_toldWithAStrokeLost_86 X hd (fun u0 u1 u2 u3 g h => ih u0 u1 u2 u3 g h) x3 x4 x5 x6 (0 : Int32) ga2 h)
      · replace h := (if_pos q5).symm.trans h
        refine gx_iload_n X 1 rfl dX7_toldWithAStrokeLost_58 ?_
        refine gx_iload X 4 rfl dX7_toldWithAStrokeLost_59 ?_
        refine gx_iand X dX7_toldWithAStrokeLost_61 ?_
        obtain ⟨ra6, ga7, ca8, h⟩ := bdd_eq h
        refine gx_callSi X (c_J6_bitCount_0f7a4 ca8) lc_J6_bitCount_0f7a4 li_J6_bitCount_0f7a4 lm_X7_40 rfl rfl (Nat.le_trans (by decide) hd) rfl (Nat.le_of_ble_eq_true rfl) dX7_toldWithAStrokeLost_62 ?_
        refine gx_iconst X (v := (1 : Int32)) dX7_toldWithAStrokeLost_65 (by decide) ?_
        refine gx_icmp_gt X 85 dX7_toldWithAStrokeLost_66 (by decide) (fun q9 => ?_) (fun q9 => ?_)
        · replace h := (if_pos q9).symm.trans h
          refine gx_iconst X (v := (0 : Int32)) dX7_toldWithAStrokeLost_85 (by decide) ?_
          exact gx_sub [0, 1, 2, 3, 4] rfl (t_X7_toldWithAStrokeLost_86 X hd (fun u0 u1 u2 u3 g h => ih u0 u1 u2 u3 g h) x3 x4 x5 x6 (0 : Int32) ga7 h)
        · replace h := (if_neg q9).symm.trans h
          refine gx_iload X 2 rfl dX7_toldWithAStrokeLost_69 ?_
          refine gx_iload X 4 rfl dX7_toldWithAStrokeLost_71 ?_
          refine gx_iand X dX7_toldWithAStrokeLost_73 ?_
          obtain ⟨ra10, ga11, ca12, h⟩ := bdd_eq h
          refine gx_callSi X (c_J6_bitCount_0f7a4 ca12) lc_J6_bitCount_0f7a4 li_J6_bitCount_0f7a4 lm_X7_40 rfl rfl (Nat.le_trans (by decide) hd) rfl (Nat.le_of_ble_eq_true rfl) dX7_toldWithAStrokeLost_74 ?_
          refine gx_iconst X (v := (1 : Int32)) dX7_toldWithAStrokeLost_77 (by decide) ?_
          refine gx_icmp_gt X 85 dX7_toldWithAStrokeLost_78 (by decide) (fun q13 => ?_) (fun q13 => ?_)
          · replace h := (if_pos q13).symm.trans h
            refine gx_iconst X (v := (0 : Int32)) dX7_toldWithAStrokeLost_85 (by decide) ?_
            exact gx_sub [0, 1, 2, 3, 4] rfl (t_X7_toldWithAStrokeLost_86 X hd (fun u0 u1 u2 u3 g h => ih u0 u1 u2 u3 g h) x3 x4 x5 x6 (0 : Int32) ga11 h)
          · replace h := (if_neg q13).symm.trans h
            refine gx_iconst X (v := (1 : Int32)) dX7_toldWithAStrokeLost_81 (by decide) ?_
            refine gx_goto X 86 dX7_toldWithAStrokeLost_82 (by decide) ?_
            exact gx_sub [0, 1, 2, 3, 4] rfl (t_X7_toldWithAStrokeLost_86 X hd (fun u0 u1 u2 u3 g h => ih u0 u1 u2 u3 g h) x3 x4 x5 x6 (1 : Int32) ga11 h)
def m_X7_toldWithAStrokeLost (a1 : Int32) (a2 : Int32) (g : Mm) : Option (Int32 × Mm) := bdd (m_X7_bellsOneMore a1 a2 g) (fun ra1 ga2 => bdd (m_X7_bellsOneMore a2 a1 ga2) (fun ra4 ga5 => bdd (m_X8_bellsUnlike a1 a2 ga5) (fun ra7 ga8 => lti ((ra7 &&& (ra1 ^^^ (-1 : Int32))) &&& (ra4 ^^^ (-1 : Int32))) (fun v10 => m_X7_toldWithAStrokeLost_38 fuL ra1 ra4 v10 (1 : Int32) ga8))))
set_option maxHeartbeats 2000000 in
theorem c_X7_toldWithAStrokeLost {r2 : Int32} {g g2 : Mm} {a1 : Int32} {a2 : Int32} (h : m_X7_toldWithAStrokeLost a1 a2 g = some (r2, g2)) : gx_M 4 yX7_toldWithAStrokeLost cX7_toldWithAStrokeLost 8 (some .boolean) (fun al => [.ref (al (23)), .int (a1), .int (a2)]) g (some (.int r2)) g2 := by
  have hd : 4 ≤ 4 := Nat.le_refl _
  refine gx_M.of (by decide +kernel) (fun _ => Nat.le_of_ble_eq_true rfl) ?_
  intro p l e R s m args below meth c D al cI cJ A X
  refine gx_eq (pc' := 0) (ls' := [(0, .ref (al (23))), (1, .int (a1)), (2, .int (a2))]) (st' := []) (g' := g) ⟨rfl, rfl, rfl, rfl⟩ ?_
  unfold m_X7_toldWithAStrokeLost at h
  refine gx_aload_n X 0 rfl dX7_toldWithAStrokeLost_0 ?_
  refine gx_iload_n X 1 rfl dX7_toldWithAStrokeLost_1 ?_
  refine gx_iload_n X 2 rfl dX7_toldWithAStrokeLost_2 ?_
  obtain ⟨ra1, ga2, ca3, h⟩ := bdd_eq h
  refine gx_callVi X (23) (c_X7_bellsOneMore ca3) lc_X7_bellsOneMore li_X7_bellsOneMore lm_X7_77 (by decide) (cl_23 _ _) rfl rfl rfl (Nat.le_trans (by decide) hd) rfl (Nat.le_of_ble_eq_true rfl) dX7_toldWithAStrokeLost_3 ?_
  refine gx_istore_n X [(3, .int (ra1)), (0, .ref (al (23))), (1, .int (a1)), (2, .int (a2))] dX7_toldWithAStrokeLost_6 (by decide) rfl ?_
  refine gx_aload_n X 1 rfl dX7_toldWithAStrokeLost_7 ?_
  refine gx_iload_n X 3 rfl dX7_toldWithAStrokeLost_8 ?_
  refine gx_iload_n X 2 rfl dX7_toldWithAStrokeLost_9 ?_
  obtain ⟨ra4, ga5, ca6, h⟩ := bdd_eq h
  refine gx_callVi X (23) (c_X7_bellsOneMore ca6) lc_X7_bellsOneMore li_X7_bellsOneMore lm_X7_77 (by decide) (cl_23 _ _) rfl rfl rfl (Nat.le_trans (by decide) hd) rfl (Nat.le_of_ble_eq_true rfl) dX7_toldWithAStrokeLost_10 ?_
  refine gx_istore X [(4, .int (ra4)), (3, .int (ra1)), (0, .ref (al (23))), (1, .int (a1)), (2, .int (a2))] dX7_toldWithAStrokeLost_13 (by decide) rfl ?_
  refine gx_aload_n X 2 rfl dX7_toldWithAStrokeLost_15 ?_
  refine gx_getf X (23) lf_X7_19 (by decide) (cl_23 _ _) (v := .ref (al (1))) rfl dX7_toldWithAStrokeLost_16 ?_
  refine gx_iload_n X 3 rfl dX7_toldWithAStrokeLost_19 ?_
  refine gx_iload_n X 4 rfl dX7_toldWithAStrokeLost_20 ?_
  obtain ⟨ra7, ga8, ca9, h⟩ := bdd_eq h
  refine gx_callNi X (1) (c_X8_bellsUnlike ca9) lc_X8_bellsUnlike li_X8_bellsUnlike lm_X7_29 (by decide) (cl_1 _ _) rfl rfl rfl (Nat.le_trans (by decide) hd) rfl (Nat.le_of_ble_eq_true rfl) dX7_toldWithAStrokeLost_21 ?_
  refine gx_iload_n X 1 rfl dX7_toldWithAStrokeLost_24 ?_
  refine gx_iconst X (v := (-1 : Int32)) dX7_toldWithAStrokeLost_25 (by decide) ?_
  refine gx_ixor X dX7_toldWithAStrokeLost_26 ?_
  refine gx_iand X dX7_toldWithAStrokeLost_27 ?_
  refine gx_iload X 0 rfl dX7_toldWithAStrokeLost_28 ?_
  refine gx_iconst X (v := (-1 : Int32)) dX7_toldWithAStrokeLost_30 (by decide) ?_
  refine gx_ixor X dX7_toldWithAStrokeLost_31 ?_
  refine gx_iand X dX7_toldWithAStrokeLost_32 ?_
  obtain ⟨v10, ev10, h⟩ := lti_eq h
  refine gx_topi ev10 ?_
  refine gx_istore X [(5, .int (v10)), (4, .int (ra4)), (3, .int (ra1)), (0, .ref (al (23))), (1, .int (a1)), (2, .int (a2))] dX7_toldWithAStrokeLost_33 (by decide) rfl ?_
  refine gx_iconst X (v := (1 : Int32)) dX7_toldWithAStrokeLost_35 (by decide) ?_
  refine gx_istore X [(6, .int ((1 : Int32))), (5, .int (v10)), (4, .int (ra4)), (3, .int (ra1)), (0, .ref (al (23))), (1, .int (a1)), (2, .int (a2))] dX7_toldWithAStrokeLost_36 (by decide) rfl ?_
  exact gx_sub [4, 3, 2, 1, 0] rfl (t_X7_toldWithAStrokeLost_38 X hd fuL ra1 ra4 v10 (1 : Int32) ga8 h)
theorem dX7_allToldWithAStrokeLost_0 : decode cX7_allToldWithAStrokeLost 0 = .ok (.iconst 0, 1) := by decide +kernel
theorem dX7_allToldWithAStrokeLost_1 : decode cX7_allToldWithAStrokeLost 1 = .ok (.istore_n 1, 1) := by decide +kernel
theorem dX7_allToldWithAStrokeLost_2 : decode cX7_allToldWithAStrokeLost 2 = .ok (.iload_n 1, 1) := by decide +kernel
theorem dX7_allToldWithAStrokeLost_3 : decode cX7_allToldWithAStrokeLost 3 = .ok (.aload_n 0, 1) := by decide +kernel
theorem dX7_allToldWithAStrokeLost_4 : decode cX7_allToldWithAStrokeLost 4 = .ok (.getfield 19, 3) := by decide +kernel
theorem dX7_allToldWithAStrokeLost_7 : decode cX7_allToldWithAStrokeLost 7 = .ok (.getfield 33, 3) := by decide +kernel
theorem dX7_allToldWithAStrokeLost_10 : decode cX7_allToldWithAStrokeLost 10 = .ok (.if_icmp .ge 53, 3) := by decide +kernel
theorem dX7_allToldWithAStrokeLost_13 : decode cX7_allToldWithAStrokeLost 13 = .ok (.iload_n 1, 1) := by decide +kernel
theorem dX7_allToldWithAStrokeLost_14 : decode cX7_allToldWithAStrokeLost 14 = .ok (.iconst 1, 1) := by decide +kernel
theorem dX7_allToldWithAStrokeLost_15 : decode cX7_allToldWithAStrokeLost 15 = .ok (.iadd, 1) := by decide +kernel
theorem dX7_allToldWithAStrokeLost_16 : decode cX7_allToldWithAStrokeLost 16 = .ok (.istore_n 2, 1) := by decide +kernel
theorem dX7_allToldWithAStrokeLost_17 : decode cX7_allToldWithAStrokeLost 17 = .ok (.iload_n 2, 1) := by decide +kernel
theorem dX7_allToldWithAStrokeLost_18 : decode cX7_allToldWithAStrokeLost 18 = .ok (.aload_n 0, 1) := by decide +kernel
theorem dX7_allToldWithAStrokeLost_19 : decode cX7_allToldWithAStrokeLost 19 = .ok (.getfield 19, 3) := by decide +kernel
theorem dX7_allToldWithAStrokeLost_22 : decode cX7_allToldWithAStrokeLost 22 = .ok (.getfield 33, 3) := by decide +kernel
theorem dX7_allToldWithAStrokeLost_25 : decode cX7_allToldWithAStrokeLost 25 = .ok (.if_icmp .ge 32, 3) := by decide +kernel
theorem dX7_allToldWithAStrokeLost_28 : decode cX7_allToldWithAStrokeLost 28 = .ok (.aload_n 0, 1) := by decide +kernel
theorem dX7_allToldWithAStrokeLost_29 : decode cX7_allToldWithAStrokeLost 29 = .ok (.getfield 19, 3) := by decide +kernel
theorem dX7_allToldWithAStrokeLost_32 : decode cX7_allToldWithAStrokeLost 32 = .ok (.iload_n 1, 1) := by decide +kernel
theorem dX7_allToldWithAStrokeLost_33 : decode cX7_allToldWithAStrokeLost 33 = .ok (.iload_n 2, 1) := by decide +kernel
theorem dX7_allToldWithAStrokeLost_34 : decode cX7_allToldWithAStrokeLost 34 = .ok (.invokevirtual 23, 3) := by decide +kernel
theorem dX7_allToldWithAStrokeLost_37 : decode cX7_allToldWithAStrokeLost 37 = .ok (.ifCond .ne 14, 3) := by decide +kernel
theorem dX7_allToldWithAStrokeLost_40 : decode cX7_allToldWithAStrokeLost 40 = .ok (.aload_n 0, 1) := by decide +kernel
theorem dX7_allToldWithAStrokeLost_41 : decode cX7_allToldWithAStrokeLost 41 = .ok (.iload_n 1, 1) := by decide +kernel
theorem dX7_allToldWithAStrokeLost_42 : decode cX7_allToldWithAStrokeLost 42 = .ok (.iload_n 2, 1) := by decide +kernel
theorem dX7_allToldWithAStrokeLost_43 : decode cX7_allToldWithAStrokeLost 43 = .ok (.invokevirtual 74, 3) := by decide +kernel
theorem dX7_allToldWithAStrokeLost_46 : decode cX7_allToldWithAStrokeLost 46 = .ok (.ifCond .ne 5, 3) := by decide +kernel
theorem dX7_allToldWithAStrokeLost_49 : decode cX7_allToldWithAStrokeLost 49 = .ok (.iconst 0, 1) := by decide +kernel
theorem dX7_allToldWithAStrokeLost_50 : decode cX7_allToldWithAStrokeLost 50 = .ok (.ireturn, 1) := by decide +kernel
theorem dX7_allToldWithAStrokeLost_51 : decode cX7_allToldWithAStrokeLost 51 = .ok (.iinc 2 1, 3) := by decide +kernel
theorem dX7_allToldWithAStrokeLost_54 : decode cX7_allToldWithAStrokeLost 54 = .ok (.goto (-37), 3) := by decide +kernel
theorem dX7_allToldWithAStrokeLost_57 : decode cX7_allToldWithAStrokeLost 57 = .ok (.iinc 1 1, 3) := by decide +kernel
theorem dX7_allToldWithAStrokeLost_60 : decode cX7_allToldWithAStrokeLost 60 = .ok (.goto (-58), 3) := by decide +kernel
theorem dX7_allToldWithAStrokeLost_63 : decode cX7_allToldWithAStrokeLost 63 = .ok (.iconst 1, 1) := by decide +kernel
theorem dX7_allToldWithAStrokeLost_64 : decode cX7_allToldWithAStrokeLost 64 = .ok (.ireturn, 1) := by decide +kernel
def m_X7_allToldWithAStrokeLost_17 (K2 : Int32 → Mm → Option (Int32 × Mm)) : Nat → Int32 → Int32 → Mm → Option (Int32 × Mm)
  | 0, _, _, _ => none
  | n + 1, x1, x2, g => (if (rdI g 1 1) ≤ x2 then K2 (x1 + (1 : Int32)) g else bdd (m_X8_areMixed x1 x2 g) (fun ra2 ga3 => (if ra2 = (0 : Int32) then bdd (m_X7_toldWithAStrokeLost x1 x2 ga3) (fun ra6 ga7 => (if ra6 = (0 : Int32) then some ((0 : Int32), ga7) else m_X7_allToldWithAStrokeLost_17 K2 n x1 (x2 + (1 : Int32)) ga7)) else m_X7_allToldWithAStrokeLost_17 K2 n x1 (x2 + (1 : Int32)) ga3)))
set_option maxHeartbeats 2000000 in
theorem t_X7_allToldWithAStrokeLost_17 {r2 : Int32} {g2 : Mm} (X : gx_X p R s m args meth c D al cI cJ A RX7 cX7_allToldWithAStrokeLost 3 (some .boolean) d 0 0) (hd : 5 ≤ d) {K2 : Int32 → Mm → Option (Int32 × Mm)} (hK2 : ∀ (u0 : Int32) (g : Mm), K2 u0 g = some (r2, g2) → gx_G p l e R s m args below meth c (gx_Q below args s D al cI cJ A (some (.int r2)) g2) D al cI cJ A 3 0 0 2 [(0, .ref (al (23))), (1, .int (u0))] [] g) : ∀ (n : Nat) (x1 : Int32) (x2 : Int32) (g : Mm), m_X7_allToldWithAStrokeLost_17 K2 n x1 x2 g = some (r2, g2) → gx_G p l e R s m args below meth c (gx_Q below args s D al cI cJ A (some (.int r2)) g2) D al cI cJ A 3 0 0 17 [(0, .ref (al (23))), (1, .int (x1)), (2, .int (x2))] [] g := by
  intro n
  induction n with
  | zero => intro x1 x2 g h; cases h
  | succ n ih =>
    intro x1 x2 g h
    rw [m_X7_allToldWithAStrokeLost_17] at h
    refine gx_iload_n X 2 rfl dX7_allToldWithAStrokeLost_17 ?_
    refine gx_aload_n X 0 rfl dX7_allToldWithAStrokeLost_18 ?_
    refine gx_getf X (23) lf_X7_19 (by decide) (cl_23 _ _) (v := .ref (al (1))) rfl dX7_allToldWithAStrokeLost_19 ?_
    refine gx_getn X (1) lf_X7_33 (by decide) (cl_1 _ _) (v := .int ((rdI g 1 1))) rfl dX7_allToldWithAStrokeLost_22 ?_
    refine gx_icmp_ge X 57 dX7_allToldWithAStrokeLost_25 (by decide) (fun q1 => ?_) (fun q1 => ?_)
    · replace h := (if_pos q1).symm.trans h
      refine gx_iinc X [(1, .int ((x1 + (1 : Int32)))), (0, .ref (al (23))), (2, .int (x2))] 1 dX7_allToldWithAStrokeLost_57 rfl rfl (by decide) rfl ?_
      refine gx_goto X 2 dX7_allToldWithAStrokeLost_60 (by decide) ?_
      exact gx_sub [1, 0] rfl (hK2 (x1 + (1 : Int32)) g h)
    · replace h := (if_neg q1).symm.trans h
      refine gx_aload_n X 0 rfl dX7_allToldWithAStrokeLost_28 ?_
      refine gx_getf X (23) lf_X7_19 (by decide) (cl_23 _ _) (v := .ref (al (1))) rfl dX7_allToldWithAStrokeLost_29 ?_
      refine gx_iload_n X 1 rfl dX7_allToldWithAStrokeLost_32 ?_
      refine gx_iload_n X 2 rfl dX7_allToldWithAStrokeLost_33 ?_
      obtain ⟨ra2, ga3, ca4, h⟩ := bdd_eq h
      refine gx_callNi X (1) (c_X8_areMixed ca4) lc_X8_areMixed li_X8_areMixed lm_X7_23 (by decide) (cl_1 _ _) rfl rfl rfl (Nat.le_trans (by decide) hd) rfl (Nat.le_of_ble_eq_true rfl) dX7_allToldWithAStrokeLost_34 ?_
      refine gx_if_ne X 51 dX7_allToldWithAStrokeLost_37 (by decide) (fun q5 => ?_) (fun q5 => ?_)
      · replace h := (if_neg q5).symm.trans h
        refine gx_iinc X [(2, .int ((x2 + (1 : Int32)))), (0, .ref (al (23))), (1, .int (x1))] 2 dX7_allToldWithAStrokeLost_51 rfl rfl (by decide) rfl ?_
        refine gx_goto X 17 dX7_allToldWithAStrokeLost_54 (by decide) ?_
        exact gx_sub [1, 2, 0] rfl (ih x1 (x2 + (1 : Int32)) ga3 h)
      · replace h := (if_pos q5).symm.trans h
        refine gx_aload_n X 0 rfl dX7_allToldWithAStrokeLost_40 ?_
        refine gx_iload_n X 1 rfl dX7_allToldWithAStrokeLost_41 ?_
        refine gx_iload_n X 2 rfl dX7_allToldWithAStrokeLost_42 ?_
        obtain ⟨ra6, ga7, ca8, h⟩ := bdd_eq h
        refine gx_callVi X (23) (c_X7_toldWithAStrokeLost ca8) lc_X7_toldWithAStrokeLost li_X7_toldWithAStrokeLost lm_X7_74 (by decide) (cl_23 _ _) rfl rfl rfl (Nat.le_trans (by decide) hd) rfl (Nat.le_of_ble_eq_true rfl) dX7_allToldWithAStrokeLost_43 ?_
        refine gx_if_ne X 51 dX7_allToldWithAStrokeLost_46 (by decide) (fun q9 => ?_) (fun q9 => ?_)
        · replace h := (if_neg q9).symm.trans h
          refine gx_iinc X [(2, .int ((x2 + (1 : Int32)))), (0, .ref (al (23))), (1, .int (x1))] 2 dX7_allToldWithAStrokeLost_51 rfl rfl (by decide) rfl ?_
          refine gx_goto X 17 dX7_allToldWithAStrokeLost_54 (by decide) ?_
          exact gx_sub [1, 2, 0] rfl (ih x1 (x2 + (1 : Int32)) ga7 h)
        · replace h := (if_pos q9).symm.trans h
          refine gx_iconst X (v := (0 : Int32)) dX7_allToldWithAStrokeLost_49 (by decide) ?_
          obtain ⟨rfl, rfl⟩ := ret_eq h
          exact gx_iret X rfl dX7_allToldWithAStrokeLost_50
def m_X7_allToldWithAStrokeLost_2 : Nat → Int32 → Mm → Option (Int32 × Mm)
  | 0, _, _ => none
  | n + 1, x1, g => (if (rdI g 1 1) ≤ x1 then some ((1 : Int32), g) else m_X7_allToldWithAStrokeLost_17 (m_X7_allToldWithAStrokeLost_2 n) fuL x1 (x1 + (1 : Int32)) g)
set_option maxHeartbeats 2000000 in
theorem t_X7_allToldWithAStrokeLost_2 {r2 : Int32} {g2 : Mm} (X : gx_X p R s m args meth c D al cI cJ A RX7 cX7_allToldWithAStrokeLost 3 (some .boolean) d 0 0) (hd : 5 ≤ d) : ∀ (n : Nat) (x1 : Int32) (g : Mm), m_X7_allToldWithAStrokeLost_2 n x1 g = some (r2, g2) → gx_G p l e R s m args below meth c (gx_Q below args s D al cI cJ A (some (.int r2)) g2) D al cI cJ A 3 0 0 2 [(0, .ref (al (23))), (1, .int (x1))] [] g := by
  intro n
  induction n with
  | zero => intro x1 g h; cases h
  | succ n ih =>
    intro x1 g h
    rw [m_X7_allToldWithAStrokeLost_2] at h
    refine gx_iload_n X 1 rfl dX7_allToldWithAStrokeLost_2 ?_
    refine gx_aload_n X 0 rfl dX7_allToldWithAStrokeLost_3 ?_
    refine gx_getf X (23) lf_X7_19 (by decide) (cl_23 _ _) (v := .ref (al (1))) rfl dX7_allToldWithAStrokeLost_4 ?_
    refine gx_getn X (1) lf_X7_33 (by decide) (cl_1 _ _) (v := .int ((rdI g 1 1))) rfl dX7_allToldWithAStrokeLost_7 ?_
    refine gx_icmp_ge X 63 dX7_allToldWithAStrokeLost_10 (by decide) (fun q1 => ?_) (fun q1 => ?_)
    · replace h := (if_pos q1).symm.trans h
      refine gx_iconst X (v := (1 : Int32)) dX7_allToldWithAStrokeLost_63 (by decide) ?_
      obtain ⟨rfl, rfl⟩ := ret_eq h
      exact gx_iret X rfl dX7_allToldWithAStrokeLost_64
    · replace h := (if_neg q1).symm.trans h
      refine gx_iload_n X 1 rfl dX7_allToldWithAStrokeLost_13 ?_
      refine gx_iconst X (v := (1 : Int32)) dX7_allToldWithAStrokeLost_14 (by decide) ?_
      refine gx_iadd X dX7_allToldWithAStrokeLost_15 ?_
      refine gx_istore_n X [(2, .int ((x1 + (1 : Int32)))), (0, .ref (al (23))), (1, .int (x1))] dX7_allToldWithAStrokeLost_16 (by decide) rfl ?_
      exact gx_sub [1, 2, 0] rfl (t_X7_allToldWithAStrokeLost_17 X hd (fun u0 g h => ih u0 g h) fuL x1 (x1 + (1 : Int32)) g h)
def m_X7_allToldWithAStrokeLost (g : Mm) : Option (Int32 × Mm) := m_X7_allToldWithAStrokeLost_2 fuL (0 : Int32) g
set_option maxHeartbeats 2000000 in
theorem c_X7_allToldWithAStrokeLost {r2 : Int32} {g g2 : Mm} (h : m_X7_allToldWithAStrokeLost g = some (r2, g2)) : gx_M 5 yX7_allToldWithAStrokeLost cX7_allToldWithAStrokeLost 3 (some .boolean) (fun al => [.ref (al (23))]) g (some (.int r2)) g2 := by
  have hd : 5 ≤ 5 := Nat.le_refl _
  refine gx_M.of (by decide +kernel) (fun _ => Nat.le_of_ble_eq_true rfl) ?_
  intro p l e R s m args below meth c D al cI cJ A X
  refine gx_eq (pc' := 0) (ls' := [(0, .ref (al (23)))]) (st' := []) (g' := g) ⟨rfl, rfl, rfl, rfl⟩ ?_
  unfold m_X7_allToldWithAStrokeLost at h
  refine gx_iconst X (v := (0 : Int32)) dX7_allToldWithAStrokeLost_0 (by decide) ?_
  refine gx_istore_n X [(1, .int ((0 : Int32))), (0, .ref (al (23)))] dX7_allToldWithAStrokeLost_1 (by decide) rfl ?_
  exact gx_sub [1, 0] rfl (t_X7_allToldWithAStrokeLost_2 X hd fuL (0 : Int32) g h)
theorem dX7_bellsThatMayRest_0 : decode cX7_bellsThatMayRest 0 = .ok (.aload_n 0, 1) := by decide +kernel
theorem dX7_bellsThatMayRest_1 : decode cX7_bellsThatMayRest 1 = .ok (.invokevirtual 46, 3) := by decide +kernel
theorem dX7_bellsThatMayRest_4 : decode cX7_bellsThatMayRest 4 = .ok (.aload_n 0, 1) := by decide +kernel
theorem dX7_bellsThatMayRest_5 : decode cX7_bellsThatMayRest 5 = .ok (.getfield 19, 3) := by decide +kernel
theorem dX7_bellsThatMayRest_8 : decode cX7_bellsThatMayRest 8 = .ok (.getfield 80, 3) := by decide +kernel
theorem dX7_bellsThatMayRest_11 : decode cX7_bellsThatMayRest 11 = .ok (.iconst 1, 1) := by decide +kernel
theorem dX7_bellsThatMayRest_12 : decode cX7_bellsThatMayRest 12 = .ok (.isub, 1) := by decide +kernel
theorem dX7_bellsThatMayRest_13 : decode cX7_bellsThatMayRest 13 = .ok (.istore_n 1, 1) := by decide +kernel
theorem dX7_bellsThatMayRest_14 : decode cX7_bellsThatMayRest 14 = .ok (.iconst 1, 1) := by decide +kernel
theorem dX7_bellsThatMayRest_15 : decode cX7_bellsThatMayRest 15 = .ok (.aload_n 0, 1) := by decide +kernel
theorem dX7_bellsThatMayRest_16 : decode cX7_bellsThatMayRest 16 = .ok (.getfield 19, 3) := by decide +kernel
theorem dX7_bellsThatMayRest_19 : decode cX7_bellsThatMayRest 19 = .ok (.getfield 86, 3) := by decide +kernel
theorem dX7_bellsThatMayRest_22 : decode cX7_bellsThatMayRest 22 = .ok (.iconst 1, 1) := by decide +kernel
theorem dX7_bellsThatMayRest_23 : decode cX7_bellsThatMayRest 23 = .ok (.isub, 1) := by decide +kernel
theorem dX7_bellsThatMayRest_24 : decode cX7_bellsThatMayRest 24 = .ok (.invokestatic 89, 3) := by decide +kernel
theorem dX7_bellsThatMayRest_27 : decode cX7_bellsThatMayRest 27 = .ok (.iload_n 1, 1) := by decide +kernel
theorem dX7_bellsThatMayRest_28 : decode cX7_bellsThatMayRest 28 = .ok (.invokestatic 69, 3) := by decide +kernel
theorem dX7_bellsThatMayRest_31 : decode cX7_bellsThatMayRest 31 = .ok (.istore_n 2, 1) := by decide +kernel
theorem dX7_bellsThatMayRest_32 : decode cX7_bellsThatMayRest 32 = .ok (.iconst 0, 1) := by decide +kernel
theorem dX7_bellsThatMayRest_33 : decode cX7_bellsThatMayRest 33 = .ok (.istore_n 3, 1) := by decide +kernel
theorem dX7_bellsThatMayRest_34 : decode cX7_bellsThatMayRest 34 = .ok (.iconst 0, 1) := by decide +kernel
theorem dX7_bellsThatMayRest_35 : decode cX7_bellsThatMayRest 35 = .ok (.istore 4, 2) := by decide +kernel
theorem dX7_bellsThatMayRest_37 : decode cX7_bellsThatMayRest 37 = .ok (.iload 4, 2) := by decide +kernel
theorem dX7_bellsThatMayRest_39 : decode cX7_bellsThatMayRest 39 = .ok (.aload_n 0, 1) := by decide +kernel
theorem dX7_bellsThatMayRest_40 : decode cX7_bellsThatMayRest 40 = .ok (.getfield 19, 3) := by decide +kernel
theorem dX7_bellsThatMayRest_43 : decode cX7_bellsThatMayRest 43 = .ok (.getfield 80, 3) := by decide +kernel
theorem dX7_bellsThatMayRest_46 : decode cX7_bellsThatMayRest 46 = .ok (.if_icmp .ge 42, 3) := by decide +kernel
theorem dX7_bellsThatMayRest_49 : decode cX7_bellsThatMayRest 49 = .ok (.aload_n 0, 1) := by decide +kernel
theorem dX7_bellsThatMayRest_50 : decode cX7_bellsThatMayRest 50 = .ok (.aload_n 0, 1) := by decide +kernel
theorem dX7_bellsThatMayRest_51 : decode cX7_bellsThatMayRest 51 = .ok (.getfield 19, 3) := by decide +kernel
theorem dX7_bellsThatMayRest_54 : decode cX7_bellsThatMayRest 54 = .ok (.invokevirtual 49, 3) := by decide +kernel
theorem dX7_bellsThatMayRest_57 : decode cX7_bellsThatMayRest 57 = .ok (.iconst 1, 1) := by decide +kernel
theorem dX7_bellsThatMayRest_58 : decode cX7_bellsThatMayRest 58 = .ok (.iload 4, 2) := by decide +kernel
theorem dX7_bellsThatMayRest_60 : decode cX7_bellsThatMayRest 60 = .ok (.ishl, 1) := by decide +kernel
theorem dX7_bellsThatMayRest_61 : decode cX7_bellsThatMayRest 61 = .ok (.iconst (-1), 1) := by decide +kernel
theorem dX7_bellsThatMayRest_62 : decode cX7_bellsThatMayRest 62 = .ok (.ixor, 1) := by decide +kernel
theorem dX7_bellsThatMayRest_63 : decode cX7_bellsThatMayRest 63 = .ok (.iand, 1) := by decide +kernel
theorem dX7_bellsThatMayRest_64 : decode cX7_bellsThatMayRest 64 = .ok (.iload_n 1, 1) := by decide +kernel
theorem dX7_bellsThatMayRest_65 : decode cX7_bellsThatMayRest 65 = .ok (.iload_n 2, 1) := by decide +kernel
theorem dX7_bellsThatMayRest_66 : decode cX7_bellsThatMayRest 66 = .ok (.isub, 1) := by decide +kernel
theorem dX7_bellsThatMayRest_67 : decode cX7_bellsThatMayRest 67 = .ok (.iconst 1, 1) := by decide +kernel
theorem dX7_bellsThatMayRest_68 : decode cX7_bellsThatMayRest 68 = .ok (.iadd, 1) := by decide +kernel
theorem dX7_bellsThatMayRest_69 : decode cX7_bellsThatMayRest 69 = .ok (.invokevirtual 56, 3) := by decide +kernel
theorem dX7_bellsThatMayRest_72 : decode cX7_bellsThatMayRest 72 = .ok (.ifCond .eq 10, 3) := by decide +kernel
theorem dX7_bellsThatMayRest_75 : decode cX7_bellsThatMayRest 75 = .ok (.iload_n 3, 1) := by decide +kernel
theorem dX7_bellsThatMayRest_76 : decode cX7_bellsThatMayRest 76 = .ok (.iconst 1, 1) := by decide +kernel
theorem dX7_bellsThatMayRest_77 : decode cX7_bellsThatMayRest 77 = .ok (.iload 4, 2) := by decide +kernel
theorem dX7_bellsThatMayRest_79 : decode cX7_bellsThatMayRest 79 = .ok (.ishl, 1) := by decide +kernel
theorem dX7_bellsThatMayRest_80 : decode cX7_bellsThatMayRest 80 = .ok (.ior, 1) := by decide +kernel
theorem dX7_bellsThatMayRest_81 : decode cX7_bellsThatMayRest 81 = .ok (.istore_n 3, 1) := by decide +kernel
theorem dX7_bellsThatMayRest_82 : decode cX7_bellsThatMayRest 82 = .ok (.iinc 4 1, 3) := by decide +kernel
theorem dX7_bellsThatMayRest_85 : decode cX7_bellsThatMayRest 85 = .ok (.goto (-48), 3) := by decide +kernel
theorem dX7_bellsThatMayRest_88 : decode cX7_bellsThatMayRest 88 = .ok (.iload_n 3, 1) := by decide +kernel
theorem dX7_bellsThatMayRest_89 : decode cX7_bellsThatMayRest 89 = .ok (.ireturn, 1) := by decide +kernel
def m_X7_bellsThatMayRest_37 : Nat → Int32 → Int32 → Int32 → Int32 → Mm → Option (Int32 × Mm)
  | 0, _, _, _, _, _ => none
  | n + 1, x1, x2, x3, x4, g => (if (rdI g 1 0) ≤ x4 then some (x3, g) else bdd (m_X8_allBells  g) (fun ra2 ga3 => bdd (m_X7_allDifferIn (ra2 &&& ((shlI (1 : Int32) x4) ^^^ (-1 : Int32))) ((x1 - x2) + (1 : Int32)) ga3) (fun ra5 ga6 => (if ra5 = (0 : Int32) then m_X7_bellsThatMayRest_37 n x1 x2 x3 (x4 + (1 : Int32)) ga6 else m_X7_bellsThatMayRest_37 n x1 x2 (x3 ||| (shlI (1 : Int32) x4)) (x4 + (1 : Int32)) ga6))))
set_option maxHeartbeats 2000000 in
theorem t_X7_bellsThatMayRest_37 {r2 : Int32} {g2 : Mm} (X : gx_X p R s m args meth c D al cI cJ A RX7 cX7_bellsThatMayRest 5 (some .int) d 0 0) (hd : 5 ≤ d) : ∀ (n : Nat) (x1 : Int32) (x2 : Int32) (x3 : Int32) (x4 : Int32) (g : Mm), m_X7_bellsThatMayRest_37 n x1 x2 x3 x4 g = some (r2, g2) → gx_G p l e R s m args below meth c (gx_Q below args s D al cI cJ A (some (.int r2)) g2) D al cI cJ A 5 0 0 37 [(0, .ref (al (23))), (1, .int (x1)), (2, .int (x2)), (3, .int (x3)), (4, .int (x4))] [] g := by
  intro n
  induction n with
  | zero => intro x1 x2 x3 x4 g h; cases h
  | succ n ih =>
    intro x1 x2 x3 x4 g h
    rw [m_X7_bellsThatMayRest_37] at h
    refine gx_iload X 4 rfl dX7_bellsThatMayRest_37 ?_
    refine gx_aload_n X 0 rfl dX7_bellsThatMayRest_39 ?_
    refine gx_getf X (23) lf_X7_19 (by decide) (cl_23 _ _) (v := .ref (al (1))) rfl dX7_bellsThatMayRest_40 ?_
    refine gx_getn X (1) lf_X7_80 (by decide) (cl_1 _ _) (v := .int ((rdI g 1 0))) rfl dX7_bellsThatMayRest_43 ?_
    refine gx_icmp_ge X 88 dX7_bellsThatMayRest_46 (by decide) (fun q1 => ?_) (fun q1 => ?_)
    · replace h := (if_pos q1).symm.trans h
      refine gx_iload_n X 3 rfl dX7_bellsThatMayRest_88 ?_
      obtain ⟨rfl, rfl⟩ := ret_eq h
      exact gx_iret X rfl dX7_bellsThatMayRest_89
    · replace h := (if_neg q1).symm.trans h
      refine gx_aload_n X 0 rfl dX7_bellsThatMayRest_49 ?_
      refine gx_aload_n X 0 rfl dX7_bellsThatMayRest_50 ?_
      refine gx_getf X (23) lf_X7_19 (by decide) (cl_23 _ _) (v := .ref (al (1))) rfl dX7_bellsThatMayRest_51 ?_
      obtain ⟨ra2, ga3, ca4, h⟩ := bdd_eq h
      refine gx_callNi X (1) (c_X8_allBells ca4) lc_X8_allBells li_X8_allBells lm_X7_49 (by decide) (cl_1 _ _) rfl rfl rfl (Nat.le_trans (by decide) hd) rfl (Nat.le_of_ble_eq_true rfl) dX7_bellsThatMayRest_54 ?_
      refine gx_iconst X (v := (1 : Int32)) dX7_bellsThatMayRest_57 (by decide) ?_
      refine gx_iload X 4 rfl dX7_bellsThatMayRest_58 ?_
      refine gx_ishl X dX7_bellsThatMayRest_60 ?_
      refine gx_iconst X (v := (-1 : Int32)) dX7_bellsThatMayRest_61 (by decide) ?_
      refine gx_ixor X dX7_bellsThatMayRest_62 ?_
      refine gx_iand X dX7_bellsThatMayRest_63 ?_
      refine gx_iload_n X 1 rfl dX7_bellsThatMayRest_64 ?_
      refine gx_iload_n X 2 rfl dX7_bellsThatMayRest_65 ?_
      refine gx_isub X dX7_bellsThatMayRest_66 ?_
      refine gx_iconst X (v := (1 : Int32)) dX7_bellsThatMayRest_67 (by decide) ?_
      refine gx_iadd X dX7_bellsThatMayRest_68 ?_
      obtain ⟨ra5, ga6, ca7, h⟩ := bdd_eq h
      refine gx_callVi X (23) (c_X7_allDifferIn ca7) lc_X7_allDifferIn li_X7_allDifferIn lm_X7_56 (by decide) (cl_23 _ _) rfl rfl rfl (Nat.le_trans (by decide) hd) rfl (Nat.le_of_ble_eq_true rfl) dX7_bellsThatMayRest_69 ?_
      refine gx_if_eq X 82 dX7_bellsThatMayRest_72 (by decide) (fun q8 => ?_) (fun q8 => ?_)
      · replace h := (if_pos q8).symm.trans h
        refine gx_iinc X [(4, .int ((x4 + (1 : Int32)))), (0, .ref (al (23))), (1, .int (x1)), (2, .int (x2)), (3, .int (x3))] 4 dX7_bellsThatMayRest_82 rfl rfl (by decide) rfl ?_
        refine gx_goto X 37 dX7_bellsThatMayRest_85 (by decide) ?_
        exact gx_sub [1, 2, 3, 4, 0] rfl (ih x1 x2 x3 (x4 + (1 : Int32)) ga6 h)
      · replace h := (if_neg q8).symm.trans h
        refine gx_iload_n X 3 rfl dX7_bellsThatMayRest_75 ?_
        refine gx_iconst X (v := (1 : Int32)) dX7_bellsThatMayRest_76 (by decide) ?_
        refine gx_iload X 4 rfl dX7_bellsThatMayRest_77 ?_
        refine gx_ishl X dX7_bellsThatMayRest_79 ?_
        refine gx_ior X dX7_bellsThatMayRest_80 ?_
        refine gx_istore_n X [(3, .int ((x3 ||| (shlI (1 : Int32) x4)))), (0, .ref (al (23))), (1, .int (x1)), (2, .int (x2)), (4, .int (x4))] dX7_bellsThatMayRest_81 (by decide) rfl ?_
        refine gx_iinc X [(4, .int ((x4 + (1 : Int32)))), (3, .int ((x3 ||| (shlI (1 : Int32) x4)))), (0, .ref (al (23))), (1, .int (x1)), (2, .int (x2))] 4 dX7_bellsThatMayRest_82 rfl rfl (by decide) rfl ?_
        refine gx_goto X 37 dX7_bellsThatMayRest_85 (by decide) ?_
        exact gx_sub [2, 3, 4, 1, 0] rfl (ih x1 x2 (x3 ||| (shlI (1 : Int32) x4)) (x4 + (1 : Int32)) ga6 h)
def m_X7_bellsThatMayRest (g : Mm) : Option (Int32 × Mm) := bdd (m_X7_takeAllPairs  g) (fun ra1 ga2 => bdd (m_J9_max_7cf53 (1 : Int32) ((rdI ga2 1 2) - (1 : Int32)) ga2) (fun ra4 ga5 => bdd (m_J9_min_7cf53 ra4 ((rdI ga2 1 0) - (1 : Int32)) ga5) (fun ra7 ga8 => m_X7_bellsThatMayRest_37 fuL ((rdI ga2 1 0) - (1 : Int32)) ra7 (0 : Int32) (0 : Int32) ga8)))
set_option maxHeartbeats 2000000 in
theorem c_X7_bellsThatMayRest {r2 : Int32} {g g2 : Mm} (h : m_X7_bellsThatMayRest g = some (r2, g2)) : gx_M 5 yX7_bellsThatMayRest cX7_bellsThatMayRest 5 (some .int) (fun al => [.ref (al (23))]) g (some (.int r2)) g2 := by
  have hd : 5 ≤ 5 := Nat.le_refl _
  refine gx_M.of (by decide +kernel) (fun _ => Nat.le_of_ble_eq_true rfl) ?_
  intro p l e R s m args below meth c D al cI cJ A X
  refine gx_eq (pc' := 0) (ls' := [(0, .ref (al (23)))]) (st' := []) (g' := g) ⟨rfl, rfl, rfl, rfl⟩ ?_
  unfold m_X7_bellsThatMayRest at h
  refine gx_aload_n X 0 rfl dX7_bellsThatMayRest_0 ?_
  obtain ⟨ra1, ga2, ca3, h⟩ := bdd_eq h
  refine gx_callVv X (23) (c_X7_takeAllPairs ca3) lc_X7_takeAllPairs li_X7_takeAllPairs lm_X7_46 (by decide) (cl_23 _ _) rfl rfl rfl (Nat.le_trans (by decide) hd) rfl (Nat.le_of_ble_eq_true rfl) dX7_bellsThatMayRest_1 ?_
  refine gx_aload_n X 0 rfl dX7_bellsThatMayRest_4 ?_
  refine gx_getf X (23) lf_X7_19 (by decide) (cl_23 _ _) (v := .ref (al (1))) rfl dX7_bellsThatMayRest_5 ?_
  refine gx_getn X (1) lf_X7_80 (by decide) (cl_1 _ _) (v := .int ((rdI ga2 1 0))) rfl dX7_bellsThatMayRest_8 ?_
  refine gx_iconst X (v := (1 : Int32)) dX7_bellsThatMayRest_11 (by decide) ?_
  refine gx_isub X dX7_bellsThatMayRest_12 ?_
  refine gx_istore_n X [(1, .int (((rdI ga2 1 0) - (1 : Int32)))), (0, .ref (al (23)))] dX7_bellsThatMayRest_13 (by decide) rfl ?_
  refine gx_iconst X (v := (1 : Int32)) dX7_bellsThatMayRest_14 (by decide) ?_
  refine gx_aload_n X 1 rfl dX7_bellsThatMayRest_15 ?_
  refine gx_getf X (23) lf_X7_19 (by decide) (cl_23 _ _) (v := .ref (al (1))) rfl dX7_bellsThatMayRest_16 ?_
  refine gx_getn X (1) lf_X7_86 (by decide) (cl_1 _ _) (v := .int ((rdI ga2 1 2))) rfl dX7_bellsThatMayRest_19 ?_
  refine gx_iconst X (v := (1 : Int32)) dX7_bellsThatMayRest_22 (by decide) ?_
  refine gx_isub X dX7_bellsThatMayRest_23 ?_
  obtain ⟨ra4, ga5, ca6, h⟩ := bdd_eq h
  refine gx_callSi X (c_J9_max_7cf53 ca6) lc_J9_max_7cf53 li_J9_max_7cf53 lm_X7_89 rfl rfl (Nat.le_trans (by decide) hd) rfl (Nat.le_of_ble_eq_true rfl) dX7_bellsThatMayRest_24 ?_
  refine gx_iload_n X 0 rfl dX7_bellsThatMayRest_27 ?_
  obtain ⟨ra7, ga8, ca9, h⟩ := bdd_eq h
  refine gx_callSi X (c_J9_min_7cf53 ca9) lc_J9_min_7cf53 li_J9_min_7cf53 lm_X7_69 rfl rfl (Nat.le_trans (by decide) hd) rfl (Nat.le_of_ble_eq_true rfl) dX7_bellsThatMayRest_28 ?_
  refine gx_istore_n X [(2, .int (ra7)), (1, .int (((rdI ga2 1 0) - (1 : Int32)))), (0, .ref (al (23)))] dX7_bellsThatMayRest_31 (by decide) rfl ?_
  refine gx_iconst X (v := (0 : Int32)) dX7_bellsThatMayRest_32 (by decide) ?_
  refine gx_istore_n X [(3, .int ((0 : Int32))), (2, .int (ra7)), (1, .int (((rdI ga2 1 0) - (1 : Int32)))), (0, .ref (al (23)))] dX7_bellsThatMayRest_33 (by decide) rfl ?_
  refine gx_iconst X (v := (0 : Int32)) dX7_bellsThatMayRest_34 (by decide) ?_
  refine gx_istore X [(4, .int ((0 : Int32))), (3, .int ((0 : Int32))), (2, .int (ra7)), (1, .int (((rdI ga2 1 0) - (1 : Int32)))), (0, .ref (al (23)))] dX7_bellsThatMayRest_35 (by decide) rfl ?_
  exact gx_sub [4, 3, 2, 1, 0] rfl (t_X7_bellsThatMayRest_37 X hd fuL ((rdI ga2 1 0) - (1 : Int32)) ra7 (0 : Int32) (0 : Int32) ga8 h)
theorem dX7_chanceHeard_0 : decode cX7_chanceHeard 0 = .ok (.lconst 1, 1) := by decide +kernel
theorem dX7_chanceHeard_1 : decode cX7_chanceHeard 1 = .ok (.lstore_n 2, 1) := by decide +kernel
theorem dX7_chanceHeard_2 : decode cX7_chanceHeard 2 = .ok (.iconst 0, 1) := by decide +kernel
theorem dX7_chanceHeard_3 : decode cX7_chanceHeard 3 = .ok (.istore 4, 2) := by decide +kernel
theorem dX7_chanceHeard_5 : decode cX7_chanceHeard 5 = .ok (.iload 4, 2) := by decide +kernel
theorem dX7_chanceHeard_7 : decode cX7_chanceHeard 7 = .ok (.aload_n 0, 1) := by decide +kernel
theorem dX7_chanceHeard_8 : decode cX7_chanceHeard 8 = .ok (.getfield 19, 3) := by decide +kernel
theorem dX7_chanceHeard_11 : decode cX7_chanceHeard 11 = .ok (.getfield 80, 3) := by decide +kernel
theorem dX7_chanceHeard_14 : decode cX7_chanceHeard 14 = .ok (.if_icmp .ge 45, 3) := by decide +kernel
theorem dX7_chanceHeard_17 : decode cX7_chanceHeard 17 = .ok (.aload_n 0, 1) := by decide +kernel
theorem dX7_chanceHeard_18 : decode cX7_chanceHeard 18 = .ok (.getfield 19, 3) := by decide +kernel
theorem dX7_chanceHeard_21 : decode cX7_chanceHeard 21 = .ok (.getfield 111, 3) := by decide +kernel
theorem dX7_chanceHeard_24 : decode cX7_chanceHeard 24 = .ok (.iload 4, 2) := by decide +kernel
theorem dX7_chanceHeard_26 : decode cX7_chanceHeard 26 = .ok (.iaload, 1) := by decide +kernel
theorem dX7_chanceHeard_27 : decode cX7_chanceHeard 27 = .ok (.istore 5, 2) := by decide +kernel
theorem dX7_chanceHeard_29 : decode cX7_chanceHeard 29 = .ok (.lload_n 2, 1) := by decide +kernel
theorem dX7_chanceHeard_30 : decode cX7_chanceHeard 30 = .ok (.iload_n 1, 1) := by decide +kernel
theorem dX7_chanceHeard_31 : decode cX7_chanceHeard 31 = .ok (.iload 4, 2) := by decide +kernel
theorem dX7_chanceHeard_33 : decode cX7_chanceHeard 33 = .ok (.ishr, 1) := by decide +kernel
theorem dX7_chanceHeard_34 : decode cX7_chanceHeard 34 = .ok (.iconst 1, 1) := by decide +kernel
theorem dX7_chanceHeard_35 : decode cX7_chanceHeard 35 = .ok (.iand, 1) := by decide +kernel
theorem dX7_chanceHeard_36 : decode cX7_chanceHeard 36 = .ok (.ifCond .eq 12, 3) := by decide +kernel
theorem dX7_chanceHeard_39 : decode cX7_chanceHeard 39 = .ok (.bipush 100, 2) := by decide +kernel
theorem dX7_chanceHeard_41 : decode cX7_chanceHeard 41 = .ok (.iload 5, 2) := by decide +kernel
theorem dX7_chanceHeard_43 : decode cX7_chanceHeard 43 = .ok (.isub, 1) := by decide +kernel
theorem dX7_chanceHeard_44 : decode cX7_chanceHeard 44 = .ok (.i2l, 1) := by decide +kernel
theorem dX7_chanceHeard_45 : decode cX7_chanceHeard 45 = .ok (.goto 6, 3) := by decide +kernel
theorem dX7_chanceHeard_48 : decode cX7_chanceHeard 48 = .ok (.iload 5, 2) := by decide +kernel
theorem dX7_chanceHeard_50 : decode cX7_chanceHeard 50 = .ok (.i2l, 1) := by decide +kernel
theorem dX7_chanceHeard_51 : decode cX7_chanceHeard 51 = .ok (.lmul, 1) := by decide +kernel
theorem dX7_chanceHeard_52 : decode cX7_chanceHeard 52 = .ok (.lstore_n 2, 1) := by decide +kernel
theorem dX7_chanceHeard_53 : decode cX7_chanceHeard 53 = .ok (.iinc 4 1, 3) := by decide +kernel
theorem dX7_chanceHeard_56 : decode cX7_chanceHeard 56 = .ok (.goto (-51), 3) := by decide +kernel
theorem dX7_chanceHeard_59 : decode cX7_chanceHeard 59 = .ok (.lload_n 2, 1) := by decide +kernel
theorem dX7_chanceHeard_60 : decode cX7_chanceHeard 60 = .ok (.lreturn, 1) := by decide +kernel
def m_X7_chanceHeard_5 : Nat → Int32 → Int64 → Int32 → Mm → Option (Int64 × Mm)
  | 0, _, _, _, _ => none
  | n + 1, x1, x2, x4, g => (if (rdI g 1 0) ≤ x4 then some (x2, g) else gdd (ixo x4 6) ((if ((shrI x1 x4) &&& (1 : Int32)) = (0 : Int32) then lti (x2 * (rdI g 4 x4.toNatClampNeg).toInt64) (fun v4 => m_X7_chanceHeard_5 n x1 v4 (x4 + (1 : Int32)) g) else lti (x2 * ((100 : Int32) - (rdI g 4 x4.toNatClampNeg)).toInt64) (fun v5 => m_X7_chanceHeard_5 n x1 v5 (x4 + (1 : Int32)) g))))
set_option maxHeartbeats 2000000 in
theorem t_X7_chanceHeard_5 {r2 : Int64} {g2 : Mm} (X : gx_X p R s m args meth c D al cI cJ A RX7 cX7_chanceHeard 6 (some .long) d 0 0) (hd : 1 ≤ d) : ∀ (n : Nat) (x1 : Int32) (x2 : Int64) (x4 : Int32) (g : Mm), m_X7_chanceHeard_5 n x1 x2 x4 g = some (r2, g2) → gx_G p l e R s m args below meth c (gx_Q below args s D al cI cJ A (some (.long r2)) g2) D al cI cJ A 6 0 0 5 [(0, .ref (al (23))), (1, .int (x1)), (2, .long (x2)), (4, .int (x4))] [] g := by
  intro n
  induction n with
  | zero => intro x1 x2 x4 g h; cases h
  | succ n ih =>
    intro x1 x2 x4 g h
    rw [m_X7_chanceHeard_5] at h
    refine gx_iload X 3 rfl dX7_chanceHeard_5 ?_
    refine gx_aload_n X 0 rfl dX7_chanceHeard_7 ?_
    refine gx_getf X (23) lf_X7_19 (by decide) (cl_23 _ _) (v := .ref (al (1))) rfl dX7_chanceHeard_8 ?_
    refine gx_getn X (1) lf_X7_80 (by decide) (cl_1 _ _) (v := .int ((rdI g 1 0))) rfl dX7_chanceHeard_11 ?_
    refine gx_icmp_ge X 59 dX7_chanceHeard_14 (by decide) (fun q1 => ?_) (fun q1 => ?_)
    · replace h := (if_pos q1).symm.trans h
      refine gx_lload_n X 2 rfl dX7_chanceHeard_59 ?_
      obtain ⟨rfl, rfl⟩ := ret_eq h
      exact gx_lret X dX7_chanceHeard_60
    · replace h := (if_neg q1).symm.trans h
      refine gx_aload_n X 0 rfl dX7_chanceHeard_17 ?_
      refine gx_getf X (23) lf_X7_19 (by decide) (cl_23 _ _) (v := .ref (al (1))) rfl dX7_chanceHeard_18 ?_
      refine gx_getn X (1) lf_X7_111 (by decide) (cl_1 _ _) (v := .ref (al (4))) rfl dX7_chanceHeard_21 ?_
      refine gx_iload X 3 rfl dX7_chanceHeard_24 ?_
      obtain ⟨q2, h⟩ := gdd_eq h
      refine gx_iald X (4) 6 (by decide) (cl_4 _ _) q2 dX7_chanceHeard_26 ?_
      refine gx_istore X [(5, .int ((rdI g 4 x4.toNatClampNeg))), (0, .ref (al (23))), (1, .int (x1)), (2, .long (x2)), (4, .int (x4))] dX7_chanceHeard_27 (by decide) rfl ?_
      refine gx_lload_n X 3 rfl dX7_chanceHeard_29 ?_
      refine gx_iload_n X 2 rfl dX7_chanceHeard_30 ?_
      refine gx_iload X 4 rfl dX7_chanceHeard_31 ?_
      refine gx_ishr X dX7_chanceHeard_33 ?_
      refine gx_iconst X (v := (1 : Int32)) dX7_chanceHeard_34 (by decide) ?_
      refine gx_iand X dX7_chanceHeard_35 ?_
      refine gx_if_eq X 48 dX7_chanceHeard_36 (by decide) (fun q3 => ?_) (fun q3 => ?_)
      · replace h := (if_pos q3).symm.trans h
        refine gx_iload X 0 rfl dX7_chanceHeard_48 ?_
        refine gx_i2l X dX7_chanceHeard_50 ?_
        refine gx_lmul X dX7_chanceHeard_51 ?_
        obtain ⟨v4, ev4, h⟩ := lti_eq h
        refine gx_topl ev4 ?_
        refine gx_lstore_n X [(2, .long (v4)), (5, .int ((rdI g 4 x4.toNatClampNeg))), (0, .ref (al (23))), (1, .int (x1)), (4, .int (x4))] dX7_chanceHeard_52 (by decide) rfl ?_
        refine gx_iinc X [(4, .int ((x4 + (1 : Int32)))), (2, .long (v4)), (5, .int ((rdI g 4 x4.toNatClampNeg))), (0, .ref (al (23))), (1, .int (x1))] 4 dX7_chanceHeard_53 rfl rfl (by decide) rfl ?_
        refine gx_goto X 5 dX7_chanceHeard_56 (by decide) ?_
        exact gx_sub [3, 4, 1, 0] rfl (ih x1 v4 (x4 + (1 : Int32)) g h)
      · replace h := (if_neg q3).symm.trans h
        refine gx_bipush X (v := (100 : Int32)) dX7_chanceHeard_39 (by decide) ?_
        refine gx_iload X 0 rfl dX7_chanceHeard_41 ?_
        refine gx_isub X dX7_chanceHeard_43 ?_
        refine gx_i2l X dX7_chanceHeard_44 ?_
        refine gx_goto X 51 dX7_chanceHeard_45 (by decide) ?_
        refine gx_lmul X dX7_chanceHeard_51 ?_
        obtain ⟨v5, ev5, h⟩ := lti_eq h
        refine gx_topl ev5 ?_
        refine gx_lstore_n X [(2, .long (v5)), (5, .int ((rdI g 4 x4.toNatClampNeg))), (0, .ref (al (23))), (1, .int (x1)), (4, .int (x4))] dX7_chanceHeard_52 (by decide) rfl ?_
        refine gx_iinc X [(4, .int ((x4 + (1 : Int32)))), (2, .long (v5)), (5, .int ((rdI g 4 x4.toNatClampNeg))), (0, .ref (al (23))), (1, .int (x1))] 4 dX7_chanceHeard_53 rfl rfl (by decide) rfl ?_
        refine gx_goto X 5 dX7_chanceHeard_56 (by decide) ?_
        exact gx_sub [3, 4, 1, 0] rfl (ih x1 v5 (x4 + (1 : Int32)) g h)
def m_X7_chanceHeard (a1 : Int32) (g : Mm) : Option (Int64 × Mm) := m_X7_chanceHeard_5 fuL a1 (1 : Int64) (0 : Int32) g
set_option maxHeartbeats 2000000 in
theorem c_X7_chanceHeard {r2 : Int64} {g g2 : Mm} {a1 : Int32} (h : m_X7_chanceHeard a1 g = some (r2, g2)) : gx_M 1 yX7_chanceHeard cX7_chanceHeard 6 (some .long) (fun al => [.ref (al (23)), .int (a1)]) g (some (.long r2)) g2 := by
  have hd : 1 ≤ 1 := Nat.le_refl _
  refine gx_M.of (by decide +kernel) (fun _ => Nat.le_of_ble_eq_true rfl) ?_
  intro p l e R s m args below meth c D al cI cJ A X
  refine gx_eq (pc' := 0) (ls' := [(0, .ref (al (23))), (1, .int (a1))]) (st' := []) (g' := g) ⟨rfl, rfl, rfl, rfl⟩ ?_
  unfold m_X7_chanceHeard at h
  refine gx_lconst X (v := (1 : Int64)) dX7_chanceHeard_0 (by decide) ?_
  refine gx_lstore_n X [(2, .long ((1 : Int64))), (0, .ref (al (23))), (1, .int (a1))] dX7_chanceHeard_1 (by decide) rfl ?_
  refine gx_iconst X (v := (0 : Int32)) dX7_chanceHeard_2 (by decide) ?_
  refine gx_istore X [(4, .int ((0 : Int32))), (2, .long ((1 : Int64))), (0, .ref (al (23))), (1, .int (a1))] dX7_chanceHeard_3 (by decide) rfl ?_
  exact gx_sub [2, 3, 1, 0] rfl (t_X7_chanceHeard_5 X hd fuL a1 (1 : Int64) (0 : Int32) g h)
theorem dX7_takePairsOf_0 : decode cX7_takePairsOf 0 = .ok (.aload_n 0, 1) := by decide +kernel
theorem dX7_takePairsOf_1 : decode cX7_takePairsOf 1 = .ok (.iconst 0, 1) := by decide +kernel
theorem dX7_takePairsOf_2 : decode cX7_takePairsOf 2 = .ok (.putfield 15, 3) := by decide +kernel
theorem dX7_takePairsOf_5 : decode cX7_takePairsOf 5 = .ok (.iconst 0, 1) := by decide +kernel
theorem dX7_takePairsOf_6 : decode cX7_takePairsOf 6 = .ok (.istore_n 2, 1) := by decide +kernel
theorem dX7_takePairsOf_7 : decode cX7_takePairsOf 7 = .ok (.iload_n 2, 1) := by decide +kernel
theorem dX7_takePairsOf_8 : decode cX7_takePairsOf 8 = .ok (.aload_n 0, 1) := by decide +kernel
theorem dX7_takePairsOf_9 : decode cX7_takePairsOf 9 = .ok (.getfield 19, 3) := by decide +kernel
theorem dX7_takePairsOf_12 : decode cX7_takePairsOf 12 = .ok (.getfield 33, 3) := by decide +kernel
theorem dX7_takePairsOf_15 : decode cX7_takePairsOf 15 = .ok (.if_icmp .ge 15, 3) := by decide +kernel
theorem dX7_takePairsOf_18 : decode cX7_takePairsOf 18 = .ok (.aload_n 0, 1) := by decide +kernel
theorem dX7_takePairsOf_19 : decode cX7_takePairsOf 19 = .ok (.iload_n 1, 1) := by decide +kernel
theorem dX7_takePairsOf_20 : decode cX7_takePairsOf 20 = .ok (.iload_n 2, 1) := by decide +kernel
theorem dX7_takePairsOf_21 : decode cX7_takePairsOf 21 = .ok (.invokevirtual 36, 3) := by decide +kernel
theorem dX7_takePairsOf_24 : decode cX7_takePairsOf 24 = .ok (.iinc 2 1, 3) := by decide +kernel
theorem dX7_takePairsOf_27 : decode cX7_takePairsOf 27 = .ok (.goto (-20), 3) := by decide +kernel
theorem dX7_takePairsOf_30 : decode cX7_takePairsOf 30 = .ok (.return_, 1) := by decide +kernel
def m_X7_takePairsOf_7 : Nat → Int32 → Int32 → Mm → Option (Int32 × Mm)
  | 0, _, _, _ => none
  | n + 1, x1, x2, g => (if (rdI g 1 1) ≤ x2 then some ((0 : Int32), g) else bdd (m_X7_takePair x1 x2 g) (fun ra2 ga3 => m_X7_takePairsOf_7 n x1 (x2 + (1 : Int32)) ga3))
set_option maxHeartbeats 2000000 in
theorem t_X7_takePairsOf_7 {r2 : Int32} {g2 : Mm} (X : gx_X p R s m args meth c D al cI cJ A RX7 cX7_takePairsOf 3 none d 0 0) (hd : 4 ≤ d) : ∀ (n : Nat) (x1 : Int32) (x2 : Int32) (g : Mm), m_X7_takePairsOf_7 n x1 x2 g = some (r2, g2) → gx_G p l e R s m args below meth c (gx_Q below args s D al cI cJ A none g2) D al cI cJ A 3 0 0 7 [(0, .ref (al (23))), (1, .int (x1)), (2, .int (x2))] [] g := by
  intro n
  induction n with
  | zero => intro x1 x2 g h; cases h
  | succ n ih =>
    intro x1 x2 g h
    rw [m_X7_takePairsOf_7] at h
    refine gx_iload_n X 2 rfl dX7_takePairsOf_7 ?_
    refine gx_aload_n X 0 rfl dX7_takePairsOf_8 ?_
    refine gx_getf X (23) lf_X7_19 (by decide) (cl_23 _ _) (v := .ref (al (1))) rfl dX7_takePairsOf_9 ?_
    refine gx_getn X (1) lf_X7_33 (by decide) (cl_1 _ _) (v := .int ((rdI g 1 1))) rfl dX7_takePairsOf_12 ?_
    refine gx_icmp_ge X 30 dX7_takePairsOf_15 (by decide) (fun q1 => ?_) (fun q1 => ?_)
    · replace h := (if_pos q1).symm.trans h
      obtain ⟨rfl, rfl⟩ := ret_eq h
      exact gx_vret X dX7_takePairsOf_30
    · replace h := (if_neg q1).symm.trans h
      refine gx_aload_n X 0 rfl dX7_takePairsOf_18 ?_
      refine gx_iload_n X 1 rfl dX7_takePairsOf_19 ?_
      refine gx_iload_n X 2 rfl dX7_takePairsOf_20 ?_
      obtain ⟨ra2, ga3, ca4, h⟩ := bdd_eq h
      refine gx_callVv X (23) (c_X7_takePair ca4) lc_X7_takePair li_X7_takePair lm_X7_36 (by decide) (cl_23 _ _) rfl rfl rfl (Nat.le_trans (by decide) hd) rfl (Nat.le_of_ble_eq_true rfl) dX7_takePairsOf_21 ?_
      refine gx_iinc X [(2, .int ((x2 + (1 : Int32)))), (0, .ref (al (23))), (1, .int (x1))] 2 dX7_takePairsOf_24 rfl rfl (by decide) rfl ?_
      refine gx_goto X 7 dX7_takePairsOf_27 (by decide) ?_
      exact gx_sub [1, 2, 0] rfl (ih x1 (x2 + (1 : Int32)) ga3 h)
def m_X7_takePairsOf (a1 : Int32) (g : Mm) : Option (Int32 × Mm) := m_X7_takePairsOf_7 fuL a1 (0 : Int32) (wrI g 23 2 (0 : Int32))
set_option maxHeartbeats 2000000 in
theorem c_X7_takePairsOf {r2 : Int32} {g g2 : Mm} {a1 : Int32} (h : m_X7_takePairsOf a1 g = some (r2, g2)) : gx_M 4 yX7_takePairsOf cX7_takePairsOf 3 none (fun al => [.ref (al (23)), .int (a1)]) g none g2 := by
  have hd : 4 ≤ 4 := Nat.le_refl _
  refine gx_M.of (by decide +kernel) (fun _ => Nat.le_of_ble_eq_true rfl) ?_
  intro p l e R s m args below meth c D al cI cJ A X
  refine gx_eq (pc' := 0) (ls' := [(0, .ref (al (23))), (1, .int (a1))]) (st' := []) (g' := g) ⟨rfl, rfl, rfl, rfl⟩ ?_
  unfold m_X7_takePairsOf at h
  refine gx_aload_n X 0 rfl dX7_takePairsOf_0 ?_
  refine gx_iconst X (v := (0 : Int32)) dX7_takePairsOf_1 (by decide) ?_
  refine gx_putf X (23) (0 : Int32) lf_X7_15 lp_X7_2 (by decide) (cl_23 _ _) (Nat.le_of_ble_eq_true rfl) rfl rfl rfl dX7_takePairsOf_2 ?_
  refine gx_iconst X (v := (0 : Int32)) dX7_takePairsOf_5 (by decide) ?_
  refine gx_istore_n X [(2, .int ((0 : Int32))), (0, .ref (al (23))), (1, .int (a1))] dX7_takePairsOf_6 (by decide) rfl ?_
  exact gx_sub [1, 2, 0] rfl (t_X7_takePairsOf_7 X hd fuL a1 (0 : Int32) (wrI g 23 2 (0 : Int32)) h)
theorem dX7_chanceOf_0 : decode cX7_chanceOf 0 = .ok (.aload_n 0, 1) := by decide +kernel
theorem dX7_chanceOf_1 : decode cX7_chanceOf 1 = .ok (.iload_n 1, 1) := by decide +kernel
theorem dX7_chanceOf_2 : decode cX7_chanceOf 2 = .ok (.invokevirtual 104, 3) := by decide +kernel
theorem dX7_chanceOf_5 : decode cX7_chanceOf 5 = .ok (.lconst 0, 1) := by decide +kernel
theorem dX7_chanceOf_6 : decode cX7_chanceOf 6 = .ok (.lstore_n 2, 1) := by decide +kernel
theorem dX7_chanceOf_7 : decode cX7_chanceOf 7 = .ok (.iconst 0, 1) := by decide +kernel
theorem dX7_chanceOf_8 : decode cX7_chanceOf 8 = .ok (.istore 4, 2) := by decide +kernel
theorem dX7_chanceOf_10 : decode cX7_chanceOf 10 = .ok (.iload 4, 2) := by decide +kernel
theorem dX7_chanceOf_12 : decode cX7_chanceOf 12 = .ok (.aload_n 0, 1) := by decide +kernel
theorem dX7_chanceOf_13 : decode cX7_chanceOf 13 = .ok (.getfield 19, 3) := by decide +kernel
theorem dX7_chanceOf_16 : decode cX7_chanceOf 16 = .ok (.invokevirtual 49, 3) := by decide +kernel
theorem dX7_chanceOf_19 : decode cX7_chanceOf 19 = .ok (.if_icmp .gt 28, 3) := by decide +kernel
theorem dX7_chanceOf_22 : decode cX7_chanceOf 22 = .ok (.aload_n 0, 1) := by decide +kernel
theorem dX7_chanceOf_23 : decode cX7_chanceOf 23 = .ok (.iload 4, 2) := by decide +kernel
theorem dX7_chanceOf_25 : decode cX7_chanceOf 25 = .ok (.iconst 1, 1) := by decide +kernel
theorem dX7_chanceOf_26 : decode cX7_chanceOf 26 = .ok (.invokevirtual 56, 3) := by decide +kernel
theorem dX7_chanceOf_29 : decode cX7_chanceOf 29 = .ok (.ifCond .eq 12, 3) := by decide +kernel
theorem dX7_chanceOf_32 : decode cX7_chanceOf 32 = .ok (.lload_n 2, 1) := by decide +kernel
theorem dX7_chanceOf_33 : decode cX7_chanceOf 33 = .ok (.aload_n 0, 1) := by decide +kernel
theorem dX7_chanceOf_34 : decode cX7_chanceOf 34 = .ok (.iload 4, 2) := by decide +kernel
theorem dX7_chanceOf_36 : decode cX7_chanceOf 36 = .ok (.invokevirtual 108, 3) := by decide +kernel
theorem dX7_chanceOf_39 : decode cX7_chanceOf 39 = .ok (.ladd, 1) := by decide +kernel
theorem dX7_chanceOf_40 : decode cX7_chanceOf 40 = .ok (.lstore_n 2, 1) := by decide +kernel
theorem dX7_chanceOf_41 : decode cX7_chanceOf 41 = .ok (.iinc 4 1, 3) := by decide +kernel
theorem dX7_chanceOf_44 : decode cX7_chanceOf 44 = .ok (.goto (-34), 3) := by decide +kernel
theorem dX7_chanceOf_47 : decode cX7_chanceOf 47 = .ok (.lload_n 2, 1) := by decide +kernel
theorem dX7_chanceOf_48 : decode cX7_chanceOf 48 = .ok (.lreturn, 1) := by decide +kernel
def m_X7_chanceOf_10 : Nat → Int64 → Int32 → Mm → Option (Int64 × Mm)
  | 0, _, _, _ => none
  | n + 1, x2, x4, g => bdd (m_X8_allBells  g) (fun ra1 ga2 => (if ra1 < x4 then some (x2, ga2) else bdd (m_X7_allDifferIn x4 (1 : Int32) ga2) (fun ra5 ga6 => (if ra5 = (0 : Int32) then m_X7_chanceOf_10 n x2 (x4 + (1 : Int32)) ga6 else bdd (m_X7_chanceHeard x4 ga6) (fun ra9 ga10 => m_X7_chanceOf_10 n (x2 + ra9) (x4 + (1 : Int32)) ga10)))))
set_option maxHeartbeats 2000000 in
theorem t_X7_chanceOf_10 {r2 : Int64} {g2 : Mm} (X : gx_X p R s m args meth c D al cI cJ A RX7 cX7_chanceOf 5 (some .long) d 0 0) (hd : 5 ≤ d) : ∀ (n : Nat) (x2 : Int64) (x4 : Int32) (g : Mm), m_X7_chanceOf_10 n x2 x4 g = some (r2, g2) → gx_G p l e R s m args below meth c (gx_Q below args s D al cI cJ A (some (.long r2)) g2) D al cI cJ A 5 0 0 10 [(0, .ref (al (23))), (2, .long (x2)), (4, .int (x4))] [] g := by
  intro n
  induction n with
  | zero => intro x2 x4 g h; cases h
  | succ n ih =>
    intro x2 x4 g h
    rw [m_X7_chanceOf_10] at h
    refine gx_iload X 2 rfl dX7_chanceOf_10 ?_
    refine gx_aload_n X 0 rfl dX7_chanceOf_12 ?_
    refine gx_getf X (23) lf_X7_19 (by decide) (cl_23 _ _) (v := .ref (al (1))) rfl dX7_chanceOf_13 ?_
    obtain ⟨ra1, ga2, ca3, h⟩ := bdd_eq h
    refine gx_callNi X (1) (c_X8_allBells ca3) lc_X8_allBells li_X8_allBells lm_X7_49 (by decide) (cl_1 _ _) rfl rfl rfl (Nat.le_trans (by decide) hd) rfl (Nat.le_of_ble_eq_true rfl) dX7_chanceOf_16 ?_
    refine gx_icmp_gt X 47 dX7_chanceOf_19 (by decide) (fun q4 => ?_) (fun q4 => ?_)
    · replace h := (if_pos q4).symm.trans h
      refine gx_lload_n X 1 rfl dX7_chanceOf_47 ?_
      obtain ⟨rfl, rfl⟩ := ret_eq h
      exact gx_lret X dX7_chanceOf_48
    · replace h := (if_neg q4).symm.trans h
      refine gx_aload_n X 0 rfl dX7_chanceOf_22 ?_
      refine gx_iload X 2 rfl dX7_chanceOf_23 ?_
      refine gx_iconst X (v := (1 : Int32)) dX7_chanceOf_25 (by decide) ?_
      obtain ⟨ra5, ga6, ca7, h⟩ := bdd_eq h
      refine gx_callVi X (23) (c_X7_allDifferIn ca7) lc_X7_allDifferIn li_X7_allDifferIn lm_X7_56 (by decide) (cl_23 _ _) rfl rfl rfl (Nat.le_trans (by decide) hd) rfl (Nat.le_of_ble_eq_true rfl) dX7_chanceOf_26 ?_
      refine gx_if_eq X 41 dX7_chanceOf_29 (by decide) (fun q8 => ?_) (fun q8 => ?_)
      · replace h := (if_pos q8).symm.trans h
        refine gx_iinc X [(4, .int ((x4 + (1 : Int32)))), (0, .ref (al (23))), (2, .long (x2))] 2 dX7_chanceOf_41 rfl rfl (by decide) rfl ?_
        refine gx_goto X 10 dX7_chanceOf_44 (by decide) ?_
        exact gx_sub [1, 2, 0] rfl (ih x2 (x4 + (1 : Int32)) ga6 h)
      · replace h := (if_neg q8).symm.trans h
        refine gx_lload_n X 1 rfl dX7_chanceOf_32 ?_
        refine gx_aload_n X 0 rfl dX7_chanceOf_33 ?_
        refine gx_iload X 2 rfl dX7_chanceOf_34 ?_
        obtain ⟨ra9, ga10, ca11, h⟩ := bdd_eq h
        refine gx_callVl X (23) (c_X7_chanceHeard ca11) lc_X7_chanceHeard li_X7_chanceHeard lm_X7_108 (by decide) (cl_23 _ _) rfl rfl rfl (Nat.le_trans (by decide) hd) rfl (Nat.le_of_ble_eq_true rfl) dX7_chanceOf_36 ?_
        refine gx_ladd X dX7_chanceOf_39 ?_
        refine gx_lstore_n X [(2, .long ((x2 + ra9))), (0, .ref (al (23))), (4, .int (x4))] dX7_chanceOf_40 (by decide) rfl ?_
        refine gx_iinc X [(4, .int ((x4 + (1 : Int32)))), (2, .long ((x2 + ra9))), (0, .ref (al (23)))] 2 dX7_chanceOf_41 rfl rfl (by decide) rfl ?_
        refine gx_goto X 10 dX7_chanceOf_44 (by decide) ?_
        exact gx_sub [2, 1, 0] rfl (ih (x2 + ra9) (x4 + (1 : Int32)) ga10 h)
def m_X7_chanceOf (a1 : Int32) (g : Mm) : Option (Int64 × Mm) := bdd (m_X7_takePairsOf a1 g) (fun ra1 ga2 => m_X7_chanceOf_10 fuL (0 : Int64) (0 : Int32) ga2)
set_option maxHeartbeats 2000000 in
theorem c_X7_chanceOf {r2 : Int64} {g g2 : Mm} {a1 : Int32} (h : m_X7_chanceOf a1 g = some (r2, g2)) : gx_M 5 yX7_chanceOf cX7_chanceOf 5 (some .long) (fun al => [.ref (al (23)), .int (a1)]) g (some (.long r2)) g2 := by
  have hd : 5 ≤ 5 := Nat.le_refl _
  refine gx_M.of (by decide +kernel) (fun _ => Nat.le_of_ble_eq_true rfl) ?_
  intro p l e R s m args below meth c D al cI cJ A X
  refine gx_eq (pc' := 0) (ls' := [(0, .ref (al (23))), (1, .int (a1))]) (st' := []) (g' := g) ⟨rfl, rfl, rfl, rfl⟩ ?_
  unfold m_X7_chanceOf at h
  refine gx_aload_n X 0 rfl dX7_chanceOf_0 ?_
  refine gx_iload_n X 1 rfl dX7_chanceOf_1 ?_
  obtain ⟨ra1, ga2, ca3, h⟩ := bdd_eq h
  refine gx_callVv X (23) (c_X7_takePairsOf ca3) lc_X7_takePairsOf li_X7_takePairsOf lm_X7_104 (by decide) (cl_23 _ _) rfl rfl rfl (Nat.le_trans (by decide) hd) rfl (Nat.le_of_ble_eq_true rfl) dX7_chanceOf_2 ?_
  refine gx_lconst X (v := (0 : Int64)) dX7_chanceOf_5 (by decide) ?_
  refine gx_lstore_n X [(2, .long ((0 : Int64))), (0, .ref (al (23))), (1, .int (a1))] dX7_chanceOf_6 (by decide) rfl ?_
  refine gx_iconst X (v := (0 : Int32)) dX7_chanceOf_7 (by decide) ?_
  refine gx_istore X [(4, .int ((0 : Int32))), (2, .long ((0 : Int64))), (0, .ref (al (23))), (1, .int (a1))] dX7_chanceOf_8 (by decide) rfl ?_
  exact gx_sub [2, 1, 0] rfl (t_X7_chanceOf_10 X hd fuL (0 : Int64) (0 : Int32) ga2 h)
theorem dX7_greatestDivisor_0 : decode cX7_greatestDivisor 0 = .ok (.lload_n 2, 1) := by decide +kernel
theorem dX7_greatestDivisor_1 : decode cX7_greatestDivisor 1 = .ok (.lstore 4, 2) := by decide +kernel
theorem dX7_greatestDivisor_3 : decode cX7_greatestDivisor 3 = .ok (.lload_n 0, 1) := by decide +kernel
theorem dX7_greatestDivisor_4 : decode cX7_greatestDivisor 4 = .ok (.lstore 6, 2) := by decide +kernel
theorem dX7_greatestDivisor_6 : decode cX7_greatestDivisor 6 = .ok (.iconst 0, 1) := by decide +kernel
theorem dX7_greatestDivisor_7 : decode cX7_greatestDivisor 7 = .ok (.istore 8, 2) := by decide +kernel
theorem dX7_greatestDivisor_9 : decode cX7_greatestDivisor 9 = .ok (.iload 8, 2) := by decide +kernel
theorem dX7_greatestDivisor_11 : decode cX7_greatestDivisor 11 = .ok (.sipush 1000, 3) := by decide +kernel
theorem dX7_greatestDivisor_14 : decode cX7_greatestDivisor 14 = .ok (.if_icmp .ge 31, 3) := by decide +kernel
theorem dX7_greatestDivisor_17 : decode cX7_greatestDivisor 17 = .ok (.lload 6, 2) := by decide +kernel
theorem dX7_greatestDivisor_19 : decode cX7_greatestDivisor 19 = .ok (.lconst 0, 1) := by decide +kernel
theorem dX7_greatestDivisor_20 : decode cX7_greatestDivisor 20 = .ok (.lcmp, 1) := by decide +kernel
theorem dX7_greatestDivisor_21 : decode cX7_greatestDivisor 21 = .ok (.ifCond .eq 24, 3) := by decide +kernel
theorem dX7_greatestDivisor_24 : decode cX7_greatestDivisor 24 = .ok (.lload 4, 2) := by decide +kernel
theorem dX7_greatestDivisor_26 : decode cX7_greatestDivisor 26 = .ok (.lload 6, 2) := by decide +kernel
theorem dX7_greatestDivisor_28 : decode cX7_greatestDivisor 28 = .ok (.lrem, 1) := by decide +kernel
theorem dX7_greatestDivisor_29 : decode cX7_greatestDivisor 29 = .ok (.lstore 9, 2) := by decide +kernel
theorem dX7_greatestDivisor_31 : decode cX7_greatestDivisor 31 = .ok (.lload 6, 2) := by decide +kernel
theorem dX7_greatestDivisor_33 : decode cX7_greatestDivisor 33 = .ok (.lstore 4, 2) := by decide +kernel
theorem dX7_greatestDivisor_35 : decode cX7_greatestDivisor 35 = .ok (.lload 9, 2) := by decide +kernel
theorem dX7_greatestDivisor_37 : decode cX7_greatestDivisor 37 = .ok (.lstore 6, 2) := by decide +kernel
theorem dX7_greatestDivisor_39 : decode cX7_greatestDivisor 39 = .ok (.iinc 8 1, 3) := by decide +kernel
theorem dX7_greatestDivisor_42 : decode cX7_greatestDivisor 42 = .ok (.goto (-33), 3) := by decide +kernel
theorem dX7_greatestDivisor_45 : decode cX7_greatestDivisor 45 = .ok (.lload 4, 2) := by decide +kernel
theorem dX7_greatestDivisor_47 : decode cX7_greatestDivisor 47 = .ok (.lreturn, 1) := by decide +kernel
def m_X7_greatestDivisor_9 : Nat → Int64 → Int64 → Int32 → Mm → Option (Int64 × Mm)
  | 0, _, _, _, _ => none
  | n + 1, x4, x6, x8, g => (if (1000 : Int32) ≤ x8 then some (x4, g) else (if (lg_cmp x6 (0 : Int64)) = (0 : Int32) then some (x4, g) else gdd (decide (¬ x6 = 0)) (m_X7_greatestDivisor_9 n x6 (rmL x4 x6) (x8 + (1 : Int32)) g)))
set_option maxHeartbeats 2000000 in
theorem t_X7_greatestDivisor_9 {r2 : Int64} {g2 : Mm} (X : gx_X p R s m args meth c D al cI cJ A RX7 cX7_greatestDivisor 11 (some .long) d 0 0) (hd : 1 ≤ d) : ∀ (n : Nat) (x4 : Int64) (x6 : Int64) (x8 : Int32) (g : Mm), m_X7_greatestDivisor_9 n x4 x6 x8 g = some (r2, g2) → gx_G p l e R s m args below meth c (gx_Q below args s D al cI cJ A (some (.long r2)) g2) D al cI cJ A 11 0 0 9 [(4, .long (x4)), (6, .long (x6)), (8, .int (x8))] [] g := by
  intro n
  induction n with
  | zero => intro x4 x6 x8 g h; cases h
  | succ n ih =>
    intro x4 x6 x8 g h
    rw [m_X7_greatestDivisor_9] at h
    refine gx_iload X 2 rfl dX7_greatestDivisor_9 ?_
    refine gx_sipush X (v := (1000 : Int32)) dX7_greatestDivisor_11 (by decide) ?_
    refine gx_icmp_ge X 45 dX7_greatestDivisor_14 (by decide) (fun q1 => ?_) (fun q1 => ?_)
    · replace h := (if_pos q1).symm.trans h
      refine gx_lload X 0 rfl dX7_greatestDivisor_45 ?_
      obtain ⟨rfl, rfl⟩ := ret_eq h
      exact gx_lret X dX7_greatestDivisor_47
    · replace h := (if_neg q1).symm.trans h
      refine gx_lload X 1 rfl dX7_greatestDivisor_17 ?_
      refine gx_lconst X (v := (0 : Int64)) dX7_greatestDivisor_19 (by decide) ?_
      refine gx_lcmp X dX7_greatestDivisor_20 ?_
      refine gx_if_eq X 45 dX7_greatestDivisor_21 (by decide) (fun q2 => ?_) (fun q2 => ?_)
      · replace h := (if_pos q2).symm.trans h
        refine gx_lload X 0 rfl dX7_greatestDivisor_45 ?_
        obtain ⟨rfl, rfl⟩ := ret_eq h
        exact gx_lret X dX7_greatestDivisor_47
      · replace h := (if_neg q2).symm.trans h
        refine gx_lload X 0 rfl dX7_greatestDivisor_24 ?_
        refine gx_lload X 1 rfl dX7_greatestDivisor_26 ?_
        obtain ⟨q3, h⟩ := gdd_eq h
        refine gx_lrem X dX7_greatestDivisor_28 (of_decide_eq_true q3) ?_
        refine gx_lstore X [(9, .long ((rmL x4 x6))), (4, .long (x4)), (6, .long (x6)), (8, .int (x8))] dX7_greatestDivisor_29 (by decide) rfl ?_
        refine gx_lload X 2 rfl dX7_greatestDivisor_31 ?_
        refine gx_lstore X [(4, .long (x6)), (9, .long ((rmL x4 x6))), (6, .long (x6)), (8, .int (x8))] dX7_greatestDivisor_33 (by decide) rfl ?_
        refine gx_lload X 1 rfl dX7_greatestDivisor_35 ?_
        refine gx_lstore X [(6, .long ((rmL x4 x6))), (4, .long (x6)), (9, .long ((rmL x4 x6))), (8, .int (x8))] dX7_greatestDivisor_37 (by decide) rfl ?_
        refine gx_iinc X [(8, .int ((x8 + (1 : Int32)))), (6, .long ((rmL x4 x6))), (4, .long (x6)), (9, .long ((rmL x4 x6)))] 3 dX7_greatestDivisor_39 rfl rfl (by decide) rfl ?_
        refine gx_goto X 9 dX7_greatestDivisor_42 (by decide) ?_
        exact gx_sub [2, 1, 0] rfl (ih x6 (rmL x4 x6) (x8 + (1 : Int32)) g h)
def m_X7_greatestDivisor (a0 : Int64) (a2 : Int64) (g : Mm) : Option (Int64 × Mm) := m_X7_greatestDivisor_9 fuL a2 a0 (0 : Int32) g
set_option maxHeartbeats 2000000 in
theorem c_X7_greatestDivisor {r2 : Int64} {g g2 : Mm} {a0 : Int64} {a2 : Int64} (h : m_X7_greatestDivisor a0 a2 g = some (r2, g2)) : gx_M 1 yX7_greatestDivisor cX7_greatestDivisor 11 (some .long) (fun al => [.long (a0), .long (a2)]) g (some (.long r2)) g2 := by
  have hd : 1 ≤ 1 := Nat.le_refl _
  refine gx_M.of (by decide +kernel) (fun _ => Nat.le_of_ble_eq_true rfl) ?_
  intro p l e R s m args below meth c D al cI cJ A X
  refine gx_eq (pc' := 0) (ls' := [(0, .long (a0)), (2, .long (a2))]) (st' := []) (g' := g) ⟨rfl, rfl, rfl, rfl⟩ ?_
  unfold m_X7_greatestDivisor at h
  refine gx_lload_n X 1 rfl dX7_greatestDivisor_0 ?_
  refine gx_lstore X [(4, .long (a2)), (0, .long (a0)), (2, .long (a2))] dX7_greatestDivisor_1 (by decide) rfl ?_
  refine gx_lload_n X 1 rfl dX7_greatestDivisor_3 ?_
  refine gx_lstore X [(6, .long (a0)), (4, .long (a2)), (0, .long (a0)), (2, .long (a2))] dX7_greatestDivisor_4 (by decide) rfl ?_
  refine gx_iconst X (v := (0 : Int32)) dX7_greatestDivisor_6 (by decide) ?_
  refine gx_istore X [(8, .int ((0 : Int32))), (6, .long (a0)), (4, .long (a2)), (0, .long (a0)), (2, .long (a2))] dX7_greatestDivisor_7 (by decide) rfl ?_
  exact gx_sub [2, 1, 0] rfl (t_X7_greatestDivisor_9 X hd fuL a2 a0 (0 : Int32) g h)
theorem dX7_chanceInLowestTerms_0 : decode cX7_chanceInLowestTerms 0 = .ok (.lconst 0, 1) := by decide +kernel
theorem dX7_chanceInLowestTerms_1 : decode cX7_chanceInLowestTerms 1 = .ok (.lstore_n 3, 1) := by decide +kernel
theorem dX7_chanceInLowestTerms_2 : decode cX7_chanceInLowestTerms 2 = .ok (.lconst 1, 1) := by decide +kernel
theorem dX7_chanceInLowestTerms_3 : decode cX7_chanceInLowestTerms 3 = .ok (.lstore 5, 2) := by decide +kernel
theorem dX7_chanceInLowestTerms_5 : decode cX7_chanceInLowestTerms 5 = .ok (.iconst 0, 1) := by decide +kernel
theorem dX7_chanceInLowestTerms_6 : decode cX7_chanceInLowestTerms 6 = .ok (.istore 7, 2) := by decide +kernel
theorem dX7_chanceInLowestTerms_8 : decode cX7_chanceInLowestTerms 8 = .ok (.iload 7, 2) := by decide +kernel
theorem dX7_chanceInLowestTerms_10 : decode cX7_chanceInLowestTerms 10 = .ok (.aload_n 0, 1) := by decide +kernel
theorem dX7_chanceInLowestTerms_11 : decode cX7_chanceInLowestTerms 11 = .ok (.getfield 19, 3) := by decide +kernel
theorem dX7_chanceInLowestTerms_14 : decode cX7_chanceInLowestTerms 14 = .ok (.getfield 80, 3) := by decide +kernel
theorem dX7_chanceInLowestTerms_17 : decode cX7_chanceInLowestTerms 17 = .ok (.if_icmp .ge 17, 3) := by decide +kernel
theorem dX7_chanceInLowestTerms_20 : decode cX7_chanceInLowestTerms 20 = .ok (.lload 5, 2) := by decide +kernel
theorem dX7_chanceInLowestTerms_22 : decode cX7_chanceInLowestTerms 22 = .ok (.ldc2_w 92, 3) := by decide +kernel
theorem dX7_chanceInLowestTerms_25 : decode cX7_chanceInLowestTerms 25 = .ok (.lmul, 1) := by decide +kernel
theorem dX7_chanceInLowestTerms_26 : decode cX7_chanceInLowestTerms 26 = .ok (.lstore 5, 2) := by decide +kernel
theorem dX7_chanceInLowestTerms_28 : decode cX7_chanceInLowestTerms 28 = .ok (.iinc 7 1, 3) := by decide +kernel
theorem dX7_chanceInLowestTerms_31 : decode cX7_chanceInLowestTerms 31 = .ok (.goto (-23), 3) := by decide +kernel
theorem dX7_chanceInLowestTerms_34 : decode cX7_chanceInLowestTerms 34 = .ok (.iload_n 1, 1) := by decide +kernel
theorem dX7_chanceInLowestTerms_35 : decode cX7_chanceInLowestTerms 35 = .ok (.ifCond .lt 12, 3) := by decide +kernel
theorem dX7_chanceInLowestTerms_38 : decode cX7_chanceInLowestTerms 38 = .ok (.aload_n 0, 1) := by decide +kernel
theorem dX7_chanceInLowestTerms_39 : decode cX7_chanceInLowestTerms 39 = .ok (.iload_n 1, 1) := by decide +kernel
theorem dX7_chanceInLowestTerms_40 : decode cX7_chanceInLowestTerms 40 = .ok (.invokevirtual 94, 3) := by decide +kernel
theorem dX7_chanceInLowestTerms_43 : decode cX7_chanceInLowestTerms 43 = .ok (.lstore_n 3, 1) := by decide +kernel
theorem dX7_chanceInLowestTerms_44 : decode cX7_chanceInLowestTerms 44 = .ok (.goto 46, 3) := by decide +kernel
theorem dX7_chanceInLowestTerms_47 : decode cX7_chanceInLowestTerms 47 = .ok (.lload 5, 2) := by decide +kernel
theorem dX7_chanceInLowestTerms_49 : decode cX7_chanceInLowestTerms 49 = .ok (.aload_n 0, 1) := by decide +kernel
theorem dX7_chanceInLowestTerms_50 : decode cX7_chanceInLowestTerms 50 = .ok (.getfield 19, 3) := by decide +kernel
theorem dX7_chanceInLowestTerms_53 : decode cX7_chanceInLowestTerms 53 = .ok (.getfield 33, 3) := by decide +kernel
theorem dX7_chanceInLowestTerms_56 : decode cX7_chanceInLowestTerms 56 = .ok (.i2l, 1) := by decide +kernel
theorem dX7_chanceInLowestTerms_57 : decode cX7_chanceInLowestTerms 57 = .ok (.lmul, 1) := by decide +kernel
theorem dX7_chanceInLowestTerms_58 : decode cX7_chanceInLowestTerms 58 = .ok (.lstore 5, 2) := by decide +kernel
theorem dX7_chanceInLowestTerms_60 : decode cX7_chanceInLowestTerms 60 = .ok (.iconst 0, 1) := by decide +kernel
theorem dX7_chanceInLowestTerms_61 : decode cX7_chanceInLowestTerms 61 = .ok (.istore 7, 2) := by decide +kernel
theorem dX7_chanceInLowestTerms_63 : decode cX7_chanceInLowestTerms 63 = .ok (.iload 7, 2) := by decide +kernel
theorem dX7_chanceInLowestTerms_65 : decode cX7_chanceInLowestTerms 65 = .ok (.aload_n 0, 1) := by decide +kernel
theorem dX7_chanceInLowestTerms_66 : decode cX7_chanceInLowestTerms 66 = .ok (.getfield 19, 3) := by decide +kernel
theorem dX7_chanceInLowestTerms_69 : decode cX7_chanceInLowestTerms 69 = .ok (.getfield 33, 3) := by decide +kernel
theorem dX7_chanceInLowestTerms_72 : decode cX7_chanceInLowestTerms 72 = .ok (.if_icmp .ge 18, 3) := by decide +kernel
theorem dX7_chanceInLowestTerms_75 : decode cX7_chanceInLowestTerms 75 = .ok (.lload_n 3, 1) := by decide +kernel
theorem dX7_chanceInLowestTerms_76 : decode cX7_chanceInLowestTerms 76 = .ok (.aload_n 0, 1) := by decide +kernel
theorem dX7_chanceInLowestTerms_77 : decode cX7_chanceInLowestTerms 77 = .ok (.iload 7, 2) := by decide +kernel
theorem dX7_chanceInLowestTerms_79 : decode cX7_chanceInLowestTerms 79 = .ok (.invokevirtual 94, 3) := by decide +kernel
theorem dX7_chanceInLowestTerms_82 : decode cX7_chanceInLowestTerms 82 = .ok (.ladd, 1) := by decide +kernel
theorem dX7_chanceInLowestTerms_83 : decode cX7_chanceInLowestTerms 83 = .ok (.lstore_n 3, 1) := by decide +kernel
theorem dX7_chanceInLowestTerms_84 : decode cX7_chanceInLowestTerms 84 = .ok (.iinc 7 1, 3) := by decide +kernel
theorem dX7_chanceInLowestTerms_87 : decode cX7_chanceInLowestTerms 87 = .ok (.goto (-24), 3) := by decide +kernel
theorem dX7_chanceInLowestTerms_90 : decode cX7_chanceInLowestTerms 90 = .ok (.lconst 1, 1) := by decide +kernel
theorem dX7_chanceInLowestTerms_91 : decode cX7_chanceInLowestTerms 91 = .ok (.lload_n 3, 1) := by decide +kernel
theorem dX7_chanceInLowestTerms_92 : decode cX7_chanceInLowestTerms 92 = .ok (.lload 5, 2) := by decide +kernel
theorem dX7_chanceInLowestTerms_94 : decode cX7_chanceInLowestTerms 94 = .ok (.invokestatic 98, 3) := by decide +kernel
theorem dX7_chanceInLowestTerms_97 : decode cX7_chanceInLowestTerms 97 = .ok (.invokestatic 102, 3) := by decide +kernel
theorem dX7_chanceInLowestTerms_100 : decode cX7_chanceInLowestTerms 100 = .ok (.lstore 7, 2) := by decide +kernel
theorem dX7_chanceInLowestTerms_102 : decode cX7_chanceInLowestTerms 102 = .ok (.iload_n 2, 1) := by decide +kernel
theorem dX7_chanceInLowestTerms_103 : decode cX7_chanceInLowestTerms 103 = .ok (.ifCond .ne 10, 3) := by decide +kernel
theorem dX7_chanceInLowestTerms_106 : decode cX7_chanceInLowestTerms 106 = .ok (.lload_n 3, 1) := by decide +kernel
theorem dX7_chanceInLowestTerms_107 : decode cX7_chanceInLowestTerms 107 = .ok (.lload 7, 2) := by decide +kernel
theorem dX7_chanceInLowestTerms_109 : decode cX7_chanceInLowestTerms 109 = .ok (.ldiv, 1) := by decide +kernel
theorem dX7_chanceInLowestTerms_110 : decode cX7_chanceInLowestTerms 110 = .ok (.goto 8, 3) := by decide +kernel
theorem dX7_chanceInLowestTerms_113 : decode cX7_chanceInLowestTerms 113 = .ok (.lload 5, 2) := by decide +kernel
theorem dX7_chanceInLowestTerms_115 : decode cX7_chanceInLowestTerms 115 = .ok (.lload 7, 2) := by decide +kernel
theorem dX7_chanceInLowestTerms_117 : decode cX7_chanceInLowestTerms 117 = .ok (.ldiv, 1) := by decide +kernel
theorem dX7_chanceInLowestTerms_118 : decode cX7_chanceInLowestTerms 118 = .ok (.lreturn, 1) := by decide +kernel
def m_X7_chanceInLowestTerms_90 (x2 : Int32) (x3 : Int64) (x5 : Int64) (g : Mm) : Option (Int64 × Mm) := bdd (m_X7_greatestDivisor x3 x5 g) (fun ra1 ga2 => bdd (m_J9_max_f86c9 (1 : Int64) ra1 ga2) (fun ra4 ga5 => (if x2 = (0 : Int32) then gdd (decide (¬ ra4 = 0)) (some ((x3 / ra4), ga5)) else gdd (decide (¬ ra4 = 0)) (some ((x5 / ra4), ga5)))))
set_option maxHeartbeats 2000000 in
theorem t_X7_chanceInLowestTerms_90 {r2 : Int64} {g2 : Mm} (X : gx_X p R s m args meth c D al cI cJ A RX7 cX7_chanceInLowestTerms 9 (some .long) d 0 0) (hd : 6 ≤ d) : ∀ (x2 : Int32) (x3 : Int64) (x5 : Int64) (g : Mm), m_X7_chanceInLowestTerms_90 x2 x3 x5 g = some (r2, g2) → gx_G p l e R s m args below meth c (gx_Q below args s D al cI cJ A (some (.long r2)) g2) D al cI cJ A 9 0 0 90 [(2, .int (x2)), (3, .long (x3)), (5, .long (x5))] [] g := by
  intro x2 x3 x5 g h
  unfold m_X7_chanceInLowestTerms_90 at h
  refine gx_lconst X (v := (1 : Int64)) dX7_chanceInLowestTerms_90 (by decide) ?_
  refine gx_lload_n X 1 rfl dX7_chanceInLowestTerms_91 ?_
  refine gx_lload X 2 rfl dX7_chanceInLowestTerms_92 ?_
  obtain ⟨ra1, ga2, ca3, h⟩ := bdd_eq h
  refine gx_callSl X (c_X7_greatestDivisor ca3) lc_X7_greatestDivisor li_X7_greatestDivisor lm_X7_98 rfl rfl (Nat.le_trans (by decide) hd) rfl (Nat.le_of_ble_eq_true rfl) dX7_chanceInLowestTerms_94 ?_
  obtain ⟨ra4, ga5, ca6, h⟩ := bdd_eq h
  refine gx_callSl X (c_J9_max_f86c9 ca6) lc_J9_max_f86c9 li_J9_max_f86c9 lm_X7_102 rfl rfl (Nat.le_trans (by decide) hd) rfl (Nat.le_of_ble_eq_true rfl) dX7_chanceInLowestTerms_97 ?_
  refine gx_lstore X [(7, .long (ra4)), (2, .int (x2)), (3, .long (x3)), (5, .long (x5))] dX7_chanceInLowestTerms_100 (by decide) rfl ?_
  refine gx_iload_n X 1 rfl dX7_chanceInLowestTerms_102 ?_
  refine gx_if_ne X 113 dX7_chanceInLowestTerms_103 (by decide) (fun q7 => ?_) (fun q7 => ?_)
  · replace h := (if_neg q7).symm.trans h
    refine gx_lload X 3 rfl dX7_chanceInLowestTerms_113 ?_
    refine gx_lload X 0 rfl dX7_chanceInLowestTerms_115 ?_
    obtain ⟨q8, h⟩ := gdd_eq h
    refine gx_ldiv X dX7_chanceInLowestTerms_117 (of_decide_eq_true q8) ?_
    obtain ⟨rfl, rfl⟩ := ret_eq h
    exact gx_lret X dX7_chanceInLowestTerms_118
  · replace h := (if_pos q7).symm.trans h
    refine gx_lload_n X 2 rfl dX7_chanceInLowestTerms_106 ?_
    refine gx_lload X 0 rfl dX7_chanceInLowestTerms_107 ?_
    obtain ⟨q9, h⟩ := gdd_eq h
    refine gx_ldiv X dX7_chanceInLowestTerms_109 (of_decide_eq_true q9) ?_
    refine gx_goto X 118 dX7_chanceInLowestTerms_110 (by decide) ?_
    obtain ⟨rfl, rfl⟩ := ret_eq h
    exact gx_lret X dX7_chanceInLowestTerms_118
def m_X7_chanceInLowestTerms_63 (K90 : Int32 → Int64 → Int64 → Mm → Option (Int64 × Mm)) : Nat → Int32 → Int64 → Int64 → Int32 → Mm → Option (Int64 × Mm)
  | 0, _, _, _, _, _ => none
  | n + 1, x2, x3, x5, x7, g => (if (rdI g 1 1) ≤ x7 then K90 x2 x3 x5 g else bdd (m_X7_chanceOf x7 g) (fun ra2 ga3 => m_X7_chanceInLowestTerms_63 K90 n x2 (x3 + ra2) x5 (x7 + (1 : Int32)) ga3))
set_option maxHeartbeats 2000000 in
theorem t_X7_chanceInLowestTerms_63 {r2 : Int64} {g2 : Mm} (X : gx_X p R s m args meth c D al cI cJ A RX7 cX7_chanceInLowestTerms 9 (some .long) d 0 0) (hd : 6 ≤ d) {K90 : Int32 → Int64 → Int64 → Mm → Option (Int64 × Mm)} (hK90 : ∀ (u0 : Int32) (u1 : Int64) (u2 : Int64) (g : Mm), K90 u0 u1 u2 g = some (r2, g2) → gx_G p l e R s m args below meth c (gx_Q below args s D al cI cJ A (some (.long r2)) g2) D al cI cJ A 9 0 0 90 [(2, .int (u0)), (3, .long (u1)), (5, .long (u2))] [] g) : ∀ (n : Nat) (x2 : Int32) (x3 : Int64) (x5 : Int64) (x7 : Int32) (g : Mm), m_X7_chanceInLowestTerms_63 K90 n x2 x3 x5 x7 g = some (r2, g2) → gx_G p l e R s m args below meth c (gx_Q below args s D al cI cJ A (some (.long r2)) g2) D al cI cJ A 9 0 0 63 [(0, .ref (al (23))), (2, .int (x2)), (3, .long (x3)), (5, .long (x5)), (7, .int (x7))] [] g := by
  intro n
  induction n with
  | zero => intro x2 x3 x5 x7 g h; cases h
  | succ n ih =>
    intro x2 x3 x5 x7 g h
    rw [m_X7_chanceInLowestTerms_63] at h
    refine gx_iload X 4 rfl dX7_chanceInLowestTerms_63 ?_
    refine gx_aload_n X 0 rfl dX7_chanceInLowestTerms_65 ?_
    refine gx_getf X (23) lf_X7_19 (by decide) (cl_23 _ _) (v := .ref (al (1))) rfl dX7_chanceInLowestTerms_66 ?_
    refine gx_getn X (1) lf_X7_33 (by decide) (cl_1 _ _) (v := .int ((rdI g 1 1))) rfl dX7_chanceInLowestTerms_69 ?_
    refine gx_icmp_ge X 90 dX7_chanceInLowestTerms_72 (by decide) (fun q1 => ?_) (fun q1 => ?_)
    · replace h := (if_pos q1).symm.trans h
      exact gx_sub [1, 2, 3] rfl (hK90 x2 x3 x5 g h)
    · replace h := (if_neg q1).symm.trans h
      refine gx_lload_n X 2 rfl dX7_chanceInLowestTerms_75 ?_
      refine gx_aload_n X 0 rfl dX7_chanceInLowestTerms_76 ?_
      refine gx_iload X 4 rfl dX7_chanceInLowestTerms_77 ?_
      obtain ⟨ra2, ga3, ca4, h⟩ := bdd_eq h
      refine gx_callVl X (23) (c_X7_chanceOf ca4) lc_X7_chanceOf li_X7_chanceOf lm_X7_94 (by decide) (cl_23 _ _) rfl rfl rfl (Nat.le_trans (by decide) hd) rfl (Nat.le_of_ble_eq_true rfl) dX7_chanceInLowestTerms_79 ?_
      refine gx_ladd X dX7_chanceInLowestTerms_82 ?_
      refine gx_lstore_n X [(3, .long ((x3 + ra2))), (0, .ref (al (23))), (2, .int (x2)), (5, .long (x5)), (7, .int (x7))] dX7_chanceInLowestTerms_83 (by decide) rfl ?_
      refine gx_iinc X [(7, .int ((x7 + (1 : Int32)))), (3, .long ((x3 + ra2))), (0, .ref (al (23))), (2, .int (x2)), (5, .long (x5))] 4 dX7_chanceInLowestTerms_84 rfl rfl (by decide) rfl ?_
      refine gx_goto X 63 dX7_chanceInLowestTerms_87 (by decide) ?_
      exact gx_sub [2, 3, 1, 4, 0] rfl (ih x2 (x3 + ra2) x5 (x7 + (1 : Int32)) ga3 h)
def m_X7_chanceInLowestTerms_8 : Nat → Int32 → Int32 → Int64 → Int64 → Int32 → Mm → Option (Int64 × Mm)
  | 0, _, _, _, _, _, _ => none
  | n + 1, x1, x2, x3, x5, x7, g => (if (rdI g 1 0) ≤ x7 then (if x1 < (0 : Int32) then m_X7_chanceInLowestTerms_63 (m_X7_chanceInLowestTerms_90) fuL x2 x3 (x5 * (rdI g 1 1).toInt64) (0 : Int32) g else bdd (m_X7_chanceOf x1 g) (fun ra3 ga4 => m_X7_chanceInLowestTerms_90 x2 ra3 x5 ga4)) else m_X7_chanceInLowestTerms_8 n x1 x2 x3 (x5 * (100 : Int64)) (x7 + (1 : Int32)) g)
set_option maxHeartbeats 2000000 in
theorem t_X7_chanceInLowestTerms_8 {r2 : Int64} {g2 : Mm} (X : gx_X p R s m args meth c D al cI cJ A RX7 cX7_chanceInLowestTerms 9 (some .long) d 0 0) (hd : 6 ≤ d) : ∀ (n : Nat) (x1 : Int32) (x2 : Int32) (x3 : Int64) (x5 : Int64) (x7 : Int32) (g : Mm), m_X7_chanceInLowestTerms_8 n x1 x2 x3 x5 x7 g = some (r2, g2) → gx_G p l e R s m args below meth c (gx_Q below args s D al cI cJ A (some (.long r2)) g2) D al cI cJ A 9 0 0 8 [(0, .ref (al (23))), (1, .int (x1)), (2, .int (x2)), (3, .long (x3)), (5, .long (x5)), (7, .int (x7))] [] g := by
  intro n
  induction n with
  | zero => intro x1 x2 x3 x5 x7 g h; cases h
  | succ n ih =>
    intro x1 x2 x3 x5 x7 g h
    rw [m_X7_chanceInLowestTerms_8] at h
    refine gx_iload X 5 rfl dX7_chanceInLowestTerms_8 ?_
    refine gx_aload_n X 0 rfl dX7_chanceInLowestTerms_10 ?_
    refine gx_getf X (23) lf_X7_19 (by decide) (cl_23 _ _) (v := .ref (al (1))) rfl dX7_chanceInLowestTerms_11 ?_
    refine gx_getn X (1) lf_X7_80 (by decide) (cl_1 _ _) (v := .int ((rdI g 1 0))) rfl dX7_chanceInLowestTerms_14 ?_
    refine gx_icmp_ge X 34 dX7_chanceInLowestTerms_17 (by decide) (fun q1 => ?_) (fun q1 => ?_)
    · replace h := (if_pos q1).symm.trans h
      refine gx_iload_n X 1 rfl dX7_chanceInLowestTerms_34 ?_
      refine gx_if_lt X 47 dX7_chanceInLowestTerms_35 (by decide) (fun q2 => ?_) (fun q2 => ?_)
      · replace h := (if_pos q2).symm.trans h
        refine gx_lload X 4 rfl dX7_chanceInLowestTerms_47 ?_
        refine gx_aload_n X 0 rfl dX7_chanceInLowestTerms_49 ?_
        refine gx_getf X (23) lf_X7_19 (by decide) (cl_23 _ _) (v := .ref (al (1))) rfl dX7_chanceInLowestTerms_50 ?_
        refine gx_getn X (1) lf_X7_33 (by decide) (cl_1 _ _) (v := .int ((rdI g 1 1))) rfl dX7_chanceInLowestTerms_53 ?_
        refine gx_i2l X dX7_chanceInLowestTerms_56 ?_
        refine gx_lmul X dX7_chanceInLowestTerms_57 ?_
        refine gx_lstore X [(5, .long ((x5 * (rdI g 1 1).toInt64))), (0, .ref (al (23))), (1, .int (x1)), (2, .int (x2)), (3, .long (x3)), (7, .int (x7))] dX7_chanceInLowestTerms_58 (by decide) rfl ?_
        refine gx_iconst X (v := (0 : Int32)) dX7_chanceInLowestTerms_60 (by decide) ?_
        refine gx_istore X [(7, .int ((0 : Int32))), (5, .long ((x5 * (rdI g 1 1).toInt64))), (0, .ref (al (23))), (1, .int (x1)), (2, .int (x2)), (3, .long (x3))] dX7_chanceInLowestTerms_61 (by decide) rfl ?_
        exact gx_sub [2, 4, 5, 1, 0] rfl (t_X7_chanceInLowestTerms_63 X hd (fun u0 u1 u2 g h => t_X7_chanceInLowestTerms_90 X hd u0 u1 u2 g h) fuL x2 x3 (x5 * (rdI g 1 1).toInt64) (0 : Int32) g h)
      · replace h := (if_neg q2).symm.trans h
        refine gx_aload_n X 0 rfl dX7_chanceInLowestTerms_38 ?_
        refine gx_iload_n X 1 rfl dX7_chanceInLowestTerms_39 ?_
        obtain ⟨ra3, ga4, ca5, h⟩ := bdd_eq h
        refine gx_callVl X (23) (c_X7_chanceOf ca5) lc_X7_chanceOf li_X7_chanceOf lm_X7_94 (by decide) (cl_23 _ _) rfl rfl rfl (Nat.le_trans (by decide) hd) rfl (Nat.le_of_ble_eq_true rfl) dX7_chanceInLowestTerms_40 ?_
        refine gx_lstore_n X [(3, .long (ra3)), (0, .ref (al (23))), (1, .int (x1)), (2, .int (x2)), (5, .long (x5)), (7, .int (x7))] dX7_chanceInLowestTerms_43 (by decide) rfl ?_
        refine gx_goto X 90 dX7_chanceInLowestTerms_44 (by decide) ?_
        exact gx_sub [3, 0, 4] rfl (t_X7_chanceInLowestTerms_90 X hd x2 ra3 x5 ga4 h)
    · replace h := (if_neg q1).symm.trans h
      refine gx_lload X 4 rfl dX7_chanceInLowestTerms_20 ?_
      refine gx_ldc2 X (v := (100 : Int64)) lk_X7_92 dX7_chanceInLowestTerms_22 ?_
      refine gx_lmul X dX7_chanceInLowestTerms_25 ?_
      refine gx_lstore X [(5, .long ((x5 * (100 : Int64)))), (0, .ref (al (23))), (1, .int (x1)), (2, .int (x2)), (3, .long (x3)), (7, .int (x7))] dX7_chanceInLowestTerms_26 (by decide) rfl ?_
      refine gx_iinc X [(7, .int ((x7 + (1 : Int32)))), (5, .long ((x5 * (100 : Int64)))), (0, .ref (al (23))), (1, .int (x1)), (2, .int (x2)), (3, .long (x3))] 5 dX7_chanceInLowestTerms_28 rfl rfl (by decide) rfl ?_
      refine gx_goto X 8 dX7_chanceInLowestTerms_31 (by decide) ?_
      exact gx_sub [2, 3, 4, 5, 1, 0] rfl (ih x1 x2 x3 (x5 * (100 : Int64)) (x7 + (1 : Int32)) g h)
def m_X7_chanceInLowestTerms (a1 : Int32) (a2 : Int32) (g : Mm) : Option (Int64 × Mm) := m_X7_chanceInLowestTerms_8 fuL a1 a2 (0 : Int64) (1 : Int64) (0 : Int32) g
set_option maxHeartbeats 2000000 in
theorem c_X7_chanceInLowestTerms {r2 : Int64} {g g2 : Mm} {a1 : Int32} {a2 : Int32} (h : m_X7_chanceInLowestTerms a1 a2 g = some (r2, g2)) : gx_M 6 yX7_chanceInLowestTerms cX7_chanceInLowestTerms 9 (some .long) (fun al => [.ref (al (23)), .int (a1), .int (a2)]) g (some (.long r2)) g2 := by
  have hd : 6 ≤ 6 := Nat.le_refl _
  refine gx_M.of (by decide +kernel) (fun _ => Nat.le_of_ble_eq_true rfl) ?_
  intro p l e R s m args below meth c D al cI cJ A X
  refine gx_eq (pc' := 0) (ls' := [(0, .ref (al (23))), (1, .int (a1)), (2, .int (a2))]) (st' := []) (g' := g) ⟨rfl, rfl, rfl, rfl⟩ ?_
  unfold m_X7_chanceInLowestTerms at h
  refine gx_lconst X (v := (0 : Int64)) dX7_chanceInLowestTerms_0 (by decide) ?_
  refine gx_lstore_n X [(3, .long ((0 : Int64))), (0, .ref (al (23))), (1, .int (a1)), (2, .int (a2))] dX7_chanceInLowestTerms_1 (by decide) rfl ?_
  refine gx_lconst X (v := (1 : Int64)) dX7_chanceInLowestTerms_2 (by decide) ?_
  refine gx_lstore X [(5, .long ((1 : Int64))), (3, .long ((0 : Int64))), (0, .ref (al (23))), (1, .int (a1)), (2, .int (a2))] dX7_chanceInLowestTerms_3 (by decide) rfl ?_
  refine gx_iconst X (v := (0 : Int32)) dX7_chanceInLowestTerms_5 (by decide) ?_
  refine gx_istore X [(7, .int ((0 : Int32))), (5, .long ((1 : Int64))), (3, .long ((0 : Int64))), (0, .ref (al (23))), (1, .int (a1)), (2, .int (a2))] dX7_chanceInLowestTerms_6 (by decide) rfl ?_
  exact gx_sub [3, 4, 5, 2, 1, 0] rfl (t_X7_chanceInLowestTerms_8 X hd fuL a1 a2 (0 : Int64) (1 : Int64) (0 : Int32) g h)
theorem dX7_fewestBells_0 : decode cX7_fewestBells 0 = .ok (.aload_n 0, 1) := by decide +kernel
theorem dX7_fewestBells_1 : decode cX7_fewestBells 1 = .ok (.invokevirtual 46, 3) := by decide +kernel
theorem dX7_fewestBells_4 : decode cX7_fewestBells 4 = .ok (.iconst 0, 1) := by decide +kernel
theorem dX7_fewestBells_5 : decode cX7_fewestBells 5 = .ok (.istore_n 1, 1) := by decide +kernel
theorem dX7_fewestBells_6 : decode cX7_fewestBells 6 = .ok (.iload_n 1, 1) := by decide +kernel
theorem dX7_fewestBells_7 : decode cX7_fewestBells 7 = .ok (.aload_n 0, 1) := by decide +kernel
theorem dX7_fewestBells_8 : decode cX7_fewestBells 8 = .ok (.getfield 19, 3) := by decide +kernel
theorem dX7_fewestBells_11 : decode cX7_fewestBells 11 = .ok (.getfield 80, 3) := by decide +kernel
theorem dX7_fewestBells_14 : decode cX7_fewestBells 14 = .ok (.if_icmp .gt 47, 3) := by decide +kernel
theorem dX7_fewestBells_17 : decode cX7_fewestBells 17 = .ok (.iconst 0, 1) := by decide +kernel
theorem dX7_fewestBells_18 : decode cX7_fewestBells 18 = .ok (.istore_n 2, 1) := by decide +kernel
theorem dX7_fewestBells_19 : decode cX7_fewestBells 19 = .ok (.iload_n 2, 1) := by decide +kernel
theorem dX7_fewestBells_20 : decode cX7_fewestBells 20 = .ok (.aload_n 0, 1) := by decide +kernel
theorem dX7_fewestBells_21 : decode cX7_fewestBells 21 = .ok (.getfield 19, 3) := by decide +kernel
theorem dX7_fewestBells_24 : decode cX7_fewestBells 24 = .ok (.invokevirtual 49, 3) := by decide +kernel
theorem dX7_fewestBells_27 : decode cX7_fewestBells 27 = .ok (.if_icmp .gt 28, 3) := by decide +kernel
theorem dX7_fewestBells_30 : decode cX7_fewestBells 30 = .ok (.iload_n 2, 1) := by decide +kernel
theorem dX7_fewestBells_31 : decode cX7_fewestBells 31 = .ok (.invokestatic 40, 3) := by decide +kernel
theorem dX7_fewestBells_34 : decode cX7_fewestBells 34 = .ok (.iload_n 1, 1) := by decide +kernel
theorem dX7_fewestBells_35 : decode cX7_fewestBells 35 = .ok (.if_icmp .ne 14, 3) := by decide +kernel
theorem dX7_fewestBells_38 : decode cX7_fewestBells 38 = .ok (.aload_n 0, 1) := by decide +kernel
theorem dX7_fewestBells_39 : decode cX7_fewestBells 39 = .ok (.iload_n 2, 1) := by decide +kernel
theorem dX7_fewestBells_40 : decode cX7_fewestBells 40 = .ok (.iconst 1, 1) := by decide +kernel
theorem dX7_fewestBells_41 : decode cX7_fewestBells 41 = .ok (.invokevirtual 56, 3) := by decide +kernel
theorem dX7_fewestBells_44 : decode cX7_fewestBells 44 = .ok (.ifCond .eq 5, 3) := by decide +kernel
theorem dX7_fewestBells_47 : decode cX7_fewestBells 47 = .ok (.iload_n 2, 1) := by decide +kernel
theorem dX7_fewestBells_48 : decode cX7_fewestBells 48 = .ok (.ireturn, 1) := by decide +kernel
theorem dX7_fewestBells_49 : decode cX7_fewestBells 49 = .ok (.iinc 2 1, 3) := by decide +kernel
theorem dX7_fewestBells_52 : decode cX7_fewestBells 52 = .ok (.goto (-33), 3) := by decide +kernel
theorem dX7_fewestBells_55 : decode cX7_fewestBells 55 = .ok (.iinc 1 1, 3) := by decide +kernel
theorem dX7_fewestBells_58 : decode cX7_fewestBells 58 = .ok (.goto (-52), 3) := by decide +kernel
theorem dX7_fewestBells_61 : decode cX7_fewestBells 61 = .ok (.bipush (-2), 2) := by decide +kernel
theorem dX7_fewestBells_63 : decode cX7_fewestBells 63 = .ok (.ireturn, 1) := by decide +kernel
def m_X7_fewestBells_19 (K6 : Int32 → Mm → Option (Int32 × Mm)) : Nat → Int32 → Int32 → Mm → Option (Int32 × Mm)
  | 0, _, _, _ => none
  | n + 1, x1, x2, g => bdd (m_X8_allBells  g) (fun ra1 ga2 => (if ra1 < x2 then K6 (x1 + (1 : Int32)) ga2 else bdd (m_J6_bitCount_0f7a4 x2 ga2) (fun ra5 ga6 => (if ra5 = x1 then bdd (m_X7_allDifferIn x2 (1 : Int32) ga6) (fun ra9 ga10 => (if ra9 = (0 : Int32) then m_X7_fewestBells_19 K6 n x1 (x2 + (1 : Int32)) ga10 else some (x2, ga10))) else m_X7_fewestBells_19 K6 n x1 (x2 + (1 : Int32)) ga6))))
set_option maxHeartbeats 2000000 in
theorem t_X7_fewestBells_19 {r2 : Int32} {g2 : Mm} (X : gx_X p R s m args meth c D al cI cJ A RX7 cX7_fewestBells 3 (some .int) d 0 0) (hd : 5 ≤ d) {K6 : Int32 → Mm → Option (Int32 × Mm)} (hK6 : ∀ (u0 : Int32) (g : Mm), K6 u0 g = some (r2, g2) → gx_G p l e R s m args below meth c (gx_Q below args s D al cI cJ A (some (.int r2)) g2) D al cI cJ A 3 0 0 6 [(0, .ref (al (23))), (1, .int (u0))] [] g) : ∀ (n : Nat) (x1 : Int32) (x2 : Int32) (g : Mm), m_X7_fewestBells_19 K6 n x1 x2 g = some (r2, g2) → gx_G p l e R s m args below meth c (gx_Q below args s D al cI cJ A (some (.int r2)) g2) D al cI cJ A 3 0 0 19 [(0, .ref (al (23))), (1, .int (x1)), (2, .int (x2))] [] g := by
  intro n
  induction n with
  | zero => intro x1 x2 g h; cases h
  | succ n ih =>
    intro x1 x2 g h
    rw [m_X7_fewestBells_19] at h
    refine gx_iload_n X 2 rfl dX7_fewestBells_19 ?_
    refine gx_aload_n X 0 rfl dX7_fewestBells_20 ?_
    refine gx_getf X (23) lf_X7_19 (by decide) (cl_23 _ _) (v := .ref (al (1))) rfl dX7_fewestBells_21 ?_
    obtain ⟨ra1, ga2, ca3, h⟩ := bdd_eq h
    refine gx_callNi X (1) (c_X8_allBells ca3) lc_X8_allBells li_X8_allBells lm_X7_49 (by decide) (cl_1 _ _) rfl rfl rfl (Nat.le_trans (by decide) hd) rfl (Nat.le_of_ble_eq_true rfl) dX7_fewestBells_24 ?_
    refine gx_icmp_gt X 55 dX7_fewestBells_27 (by decide) (fun q4 => ?_) (fun q4 => ?_)
    · replace h := (if_pos q4).symm.trans h
      refine gx_iinc X [(1, .int ((x1 + (1 : Int32)))), (0, .ref (al (23))), (2, .int (x2))] 1 dX7_fewestBells_55 rfl rfl (by decide) rfl ?_
      refine gx_goto X 6 dX7_fewestBells_58 (by decide) ?_
      exact gx_sub [1, 0] rfl (hK6 (x1 + (1 : Int32)) ga2 h)
    · replace h := (if_neg q4).symm.trans h
      refine gx_iload_n X 2 rfl dX7_fewestBells_30 ?_
      obtain ⟨ra5, ga6, ca7, h⟩ := bdd_eq h
      refine gx_callSi X (c_J6_bitCount_0f7a4 ca7) lc_J6_bitCount_0f7a4 li_J6_bitCount_0f7a4 lm_X7_40 rfl rfl (Nat.le_trans (by decide) hd) rfl (Nat.le_of_ble_eq_true rfl) dX7_fewestBells_31 ?_
      refine gx_iload_n X 1 rfl dX7_fewestBells_34 ?_
      refine gx_icmp_ne X 49 dX7_fewestBells_35 (by decide) (fun q8 => ?_) (fun q8 => ?_)
      · replace h := (if_neg q8).symm.trans h
        refine gx_iinc X [(2, .int ((x2 + (1 : Int32)))), (0, .ref (al (23))), (1, .int (x1))] 2 dX7_fewestBells_49 rfl rfl (by decide) rfl ?_
        refine gx_goto X 19 dX7_fewestBells_52 (by decide) ?_
        exact gx_sub [1, 2, 0] rfl (ih x1 (x2 + (1 : Int32)) ga6 h)
      · replace h := (if_pos q8).symm.trans h
        refine gx_aload_n X 0 rfl dX7_fewestBells_38 ?_
        refine gx_iload_n X 2 rfl dX7_fewestBells_39 ?_
        refine gx_iconst X (v := (1 : Int32)) dX7_fewestBells_40 (by decide) ?_
        obtain ⟨ra9, ga10, ca11, h⟩ := bdd_eq h
        refine gx_callVi X (23) (c_X7_allDifferIn ca11) lc_X7_allDifferIn li_X7_allDifferIn lm_X7_56 (by decide) (cl_23 _ _) rfl rfl rfl (Nat.le_trans (by decide) hd) rfl (Nat.le_of_ble_eq_true rfl) dX7_fewestBells_41 ?_
        refine gx_if_eq X 49 dX7_fewestBells_44 (by decide) (fun q12 => ?_) (fun q12 => ?_)
        · replace h := (if_pos q12).symm.trans h
          refine gx_iinc X [(2, .int ((x2 + (1 : Int32)))), (0, .ref (al (23))), (1, .int (x1))] 2 dX7_fewestBells_49 rfl rfl (by decide) rfl ?_
          refine gx_goto X 19 dX7_fewestBells_52 (by decide) ?_
          exact gx_sub [1, 2, 0] rfl (ih x1 (x2 + (1 : Int32)) ga10 h)
        · replace h := (if_neg q12).symm.trans h
          refine gx_iload_n X 2 rfl dX7_fewestBells_47 ?_
          obtain ⟨rfl, rfl⟩ := ret_eq h
          exact gx_iret X rfl dX7_fewestBells_48
def m_X7_fewestBells_6 : Nat → Int32 → Mm → Option (Int32 × Mm)
  | 0, _, _ => none
  | n + 1, x1, g => (if (rdI g 1 0) < x1 then some ((-2 : Int32), g) else m_X7_fewestBells_19 (m_X7_fewestBells_6 n) fuL x1 (0 : Int32) g)
set_option maxHeartbeats 2000000 in
theorem t_X7_fewestBells_6 {r2 : Int32} {g2 : Mm} (X : gx_X p R s m args meth c D al cI cJ A RX7 cX7_fewestBells 3 (some .int) d 0 0) (hd : 5 ≤ d) : ∀ (n : Nat) (x1 : Int32) (g : Mm), m_X7_fewestBells_6 n x1 g = some (r2, g2) → gx_G p l e R s m args below meth c (gx_Q below args s D al cI cJ A (some (.int r2)) g2) D al cI cJ A 3 0 0 6 [(0, .ref (al (23))), (1, .int (x1))] [] g := by
  intro n
  induction n with
  | zero => intro x1 g h; cases h
  | succ n ih =>
    intro x1 g h
    rw [m_X7_fewestBells_6] at h
    refine gx_iload_n X 1 rfl dX7_fewestBells_6 ?_
    refine gx_aload_n X 0 rfl dX7_fewestBells_7 ?_
    refine gx_getf X (23) lf_X7_19 (by decide) (cl_23 _ _) (v := .ref (al (1))) rfl dX7_fewestBells_8 ?_
    refine gx_getn X (1) lf_X7_80 (by decide) (cl_1 _ _) (v := .int ((rdI g 1 0))) rfl dX7_fewestBells_11 ?_
    refine gx_icmp_gt X 61 dX7_fewestBells_14 (by decide) (fun q1 => ?_) (fun q1 => ?_)
    · replace h := (if_pos q1).symm.trans h
      refine gx_bipush X (v := (-2 : Int32)) dX7_fewestBells_61 (by decide) ?_
      obtain ⟨rfl, rfl⟩ := ret_eq h
      exact gx_iret X rfl dX7_fewestBells_63
    · replace h := (if_neg q1).symm.trans h
      refine gx_iconst X (v := (0 : Int32)) dX7_fewestBells_17 (by decide) ?_
      refine gx_istore_n X [(2, .int ((0 : Int32))), (0, .ref (al (23))), (1, .int (x1))] dX7_fewestBells_18 (by decide) rfl ?_
      exact gx_sub [1, 2, 0] rfl (t_X7_fewestBells_19 X hd (fun u0 g h => ih u0 g h) fuL x1 (0 : Int32) g h)
def m_X7_fewestBells (g : Mm) : Option (Int32 × Mm) := bdd (m_X7_takeAllPairs  g) (fun ra1 ga2 => m_X7_fewestBells_6 fuL (0 : Int32) ga2)
set_option maxHeartbeats 2000000 in
theorem c_X7_fewestBells {r2 : Int32} {g g2 : Mm} (h : m_X7_fewestBells g = some (r2, g2)) : gx_M 5 yX7_fewestBells cX7_fewestBells 3 (some .int) (fun al => [.ref (al (23))]) g (some (.int r2)) g2 := by
  have hd : 5 ≤ 5 := Nat.le_refl _
  refine gx_M.of (by decide +kernel) (fun _ => Nat.le_of_ble_eq_true rfl) ?_
  intro p l e R s m args below meth c D al cI cJ A X
  refine gx_eq (pc' := 0) (ls' := [(0, .ref (al (23)))]) (st' := []) (g' := g) ⟨rfl, rfl, rfl, rfl⟩ ?_
  unfold m_X7_fewestBells at h
  refine gx_aload_n X 0 rfl dX7_fewestBells_0 ?_
  obtain ⟨ra1, ga2, ca3, h⟩ := bdd_eq h
  refine gx_callVv X (23) (c_X7_takeAllPairs ca3) lc_X7_takeAllPairs li_X7_takeAllPairs lm_X7_46 (by decide) (cl_23 _ _) rfl rfl rfl (Nat.le_trans (by decide) hd) rfl (Nat.le_of_ble_eq_true rfl) dX7_fewestBells_1 ?_
  refine gx_iconst X (v := (0 : Int32)) dX7_fewestBells_4 (by decide) ?_
  refine gx_istore_n X [(1, .int ((0 : Int32))), (0, .ref (al (23)))] dX7_fewestBells_5 (by decide) rfl ?_
  exact gx_sub [1, 0] rfl (t_X7_fewestBells_6 X hd fuL (0 : Int32) ga2 h)
theorem dX7_hourOfFault_0 : decode cX7_hourOfFault 0 = .ok (.iconst 0, 1) := by decide +kernel
theorem dX7_hourOfFault_1 : decode cX7_hourOfFault 1 = .ok (.istore_n 3, 1) := by decide +kernel
theorem dX7_hourOfFault_2 : decode cX7_hourOfFault 2 = .ok (.iload_n 3, 1) := by decide +kernel
theorem dX7_hourOfFault_3 : decode cX7_hourOfFault 3 = .ok (.aload_n 0, 1) := by decide +kernel
theorem dX7_hourOfFault_4 : decode cX7_hourOfFault 4 = .ok (.getfield 19, 3) := by decide +kernel
theorem dX7_hourOfFault_7 : decode cX7_hourOfFault 7 = .ok (.getfield 33, 3) := by decide +kernel
theorem dX7_hourOfFault_10 : decode cX7_hourOfFault 10 = .ok (.if_icmp .ge 72, 3) := by decide +kernel
theorem dX7_hourOfFault_13 : decode cX7_hourOfFault 13 = .ok (.iload_n 3, 1) := by decide +kernel
theorem dX7_hourOfFault_14 : decode cX7_hourOfFault 14 = .ok (.iconst 1, 1) := by decide +kernel
theorem dX7_hourOfFault_15 : decode cX7_hourOfFault 15 = .ok (.iadd, 1) := by decide +kernel
theorem dX7_hourOfFault_16 : decode cX7_hourOfFault 16 = .ok (.istore 4, 2) := by decide +kernel
theorem dX7_hourOfFault_18 : decode cX7_hourOfFault 18 = .ok (.iload 4, 2) := by decide +kernel
theorem dX7_hourOfFault_20 : decode cX7_hourOfFault 20 = .ok (.aload_n 0, 1) := by decide +kernel
theorem dX7_hourOfFault_21 : decode cX7_hourOfFault 21 = .ok (.getfield 19, 3) := by decide +kernel
theorem dX7_hourOfFault_24 : decode cX7_hourOfFault 24 = .ok (.getfield 33, 3) := by decide +kernel
theorem dX7_hourOfFault_27 : decode cX7_hourOfFault 27 = .ok (.if_icmp .ge 49, 3) := by decide +kernel
theorem dX7_hourOfFault_30 : decode cX7_hourOfFault 30 = .ok (.aload_n 0, 1) := by decide +kernel
theorem dX7_hourOfFault_31 : decode cX7_hourOfFault 31 = .ok (.getfield 19, 3) := by decide +kernel
theorem dX7_hourOfFault_34 : decode cX7_hourOfFault 34 = .ok (.iload_n 3, 1) := by decide +kernel
theorem dX7_hourOfFault_35 : decode cX7_hourOfFault 35 = .ok (.iload 4, 2) := by decide +kernel
theorem dX7_hourOfFault_37 : decode cX7_hourOfFault 37 = .ok (.invokevirtual 23, 3) := by decide +kernel
theorem dX7_hourOfFault_40 : decode cX7_hourOfFault 40 = .ok (.ifCond .ne 30, 3) := by decide +kernel
theorem dX7_hourOfFault_43 : decode cX7_hourOfFault 43 = .ok (.aload_n 0, 1) := by decide +kernel
theorem dX7_hourOfFault_44 : decode cX7_hourOfFault 44 = .ok (.getfield 19, 3) := by decide +kernel
theorem dX7_hourOfFault_47 : decode cX7_hourOfFault 47 = .ok (.iload_n 3, 1) := by decide +kernel
theorem dX7_hourOfFault_48 : decode cX7_hourOfFault 48 = .ok (.iload 4, 2) := by decide +kernel
theorem dX7_hourOfFault_50 : decode cX7_hourOfFault 50 = .ok (.invokevirtual 29, 3) := by decide +kernel
theorem dX7_hourOfFault_53 : decode cX7_hourOfFault 53 = .ok (.iload_n 1, 1) := by decide +kernel
theorem dX7_hourOfFault_54 : decode cX7_hourOfFault 54 = .ok (.iand, 1) := by decide +kernel
theorem dX7_hourOfFault_55 : decode cX7_hourOfFault 55 = .ok (.ifCond .ne 15, 3) := by decide +kernel
theorem dX7_hourOfFault_58 : decode cX7_hourOfFault 58 = .ok (.iload_n 2, 1) := by decide +kernel
theorem dX7_hourOfFault_59 : decode cX7_hourOfFault 59 = .ok (.iconst 1, 1) := by decide +kernel
theorem dX7_hourOfFault_60 : decode cX7_hourOfFault 60 = .ok (.if_icmp .ne 7, 3) := by decide +kernel
theorem dX7_hourOfFault_63 : decode cX7_hourOfFault 63 = .ok (.iload_n 3, 1) := by decide +kernel
theorem dX7_hourOfFault_64 : decode cX7_hourOfFault 64 = .ok (.goto 5, 3) := by decide +kernel
theorem dX7_hourOfFault_67 : decode cX7_hourOfFault 67 = .ok (.iload 4, 2) := by decide +kernel
theorem dX7_hourOfFault_69 : decode cX7_hourOfFault 69 = .ok (.ireturn, 1) := by decide +kernel
theorem dX7_hourOfFault_70 : decode cX7_hourOfFault 70 = .ok (.iinc 4 1, 3) := by decide +kernel
theorem dX7_hourOfFault_73 : decode cX7_hourOfFault 73 = .ok (.goto (-55), 3) := by decide +kernel
theorem dX7_hourOfFault_76 : decode cX7_hourOfFault 76 = .ok (.iinc 3 1, 3) := by decide +kernel
theorem dX7_hourOfFault_79 : decode cX7_hourOfFault 79 = .ok (.goto (-77), 3) := by decide +kernel
theorem dX7_hourOfFault_82 : decode cX7_hourOfFault 82 = .ok (.bipush (-2), 2) := by decide +kernel
theorem dX7_hourOfFault_84 : decode cX7_hourOfFault 84 = .ok (.ireturn, 1) := by decide +kernel
def m_X7_hourOfFault_18 (K2 : Int32 → Int32 → Int32 → Mm → Option (Int32 × Mm)) : Nat → Int32 → Int32 → Int32 → Int32 → Mm → Option (Int32 × Mm)
  | 0, _, _, _, _, _ => none
  | n + 1, x1, x2, x3, x4, g => (if (rdI g 1 1) ≤ x4 then K2 x1 x2 (x3 + (1 : Int32)) g else bdd (m_X8_areMixed x3 x4 g) (fun ra2 ga3 => (if ra2 = (0 : Int32) then bdd (m_X8_bellsUnlike x3 x4 ga3) (fun ra6 ga7 => (if (ra6 &&& x1) = (0 : Int32) then (if x2 = (1 : Int32) then some (x3, ga7) else some (x4, ga7)) else m_X7_hourOfFault_18 K2 n x1 x2 x3 (x4 + (1 : Int32)) ga7)) else m_X7_hourOfFault_18 K2 n x1 x2 x3 (x4 + (1 : Int32)) ga3)))
set_option maxHeartbeats 2000000 in
theorem t_X7_hourOfFault_18 {r2 : Int32} {g2 : Mm} (X : gx_X p R s m args meth c D al cI cJ A RX7 cX7_hourOfFault 5 (some .int) d 0 0) (hd : 3 ≤ d) {K2 : Int32 → Int32 → Int32 → Mm → Option (Int32 × Mm)} (hK2 : ∀ (u0 : Int32) (u1 : Int32) (u2 : Int32) (g : Mm), K2 u0 u1 u2 g = some (r2, g2) → gx_G p l e R s m args below meth c (gx_Q below args s D al cI cJ A (some (.int r2)) g2) D al cI cJ A 5 0 0 2 [(0, .ref (al (23))), (1, .int (u0)), (2, .int (u1)), (3, .int (u2))] [] g) : ∀ (n : Nat) (x1 : Int32) (x2 : Int32) (x3 : Int32) (x4 : Int32) (g : Mm), m_X7_hourOfFault_18 K2 n x1 x2 x3 x4 g = some (r2, g2) → gx_G p l e R s m args below meth c (gx_Q below args s D al cI cJ A (some (.int r2)) g2) D al cI cJ A 5 0 0 18 [(0, .ref (al (23))), (1, .int (x1)), (2, .int (x2)), (3, .int (x3)), (4, .int (x4))] [] g := by
  intro n
  induction n with
  | zero => intro x1 x2 x3 x4 g h; cases h
  | succ n ih =>
    intro x1 x2 x3 x4 g h
    rw [m_X7_hourOfFault_18] at h
    refine gx_iload X 4 rfl dX7_hourOfFault_18 ?_
    refine gx_aload_n X 0 rfl dX7_hourOfFault_20 ?_
    refine gx_getf X (23) lf_X7_19 (by decide) (cl_23 _ _) (v := .ref (al (1))) rfl dX7_hourOfFault_21 ?_
    refine gx_getn X (1) lf_X7_33 (by decide) (cl_1 _ _) (v := .int ((rdI g 1 1))) rfl dX7_hourOfFault_24 ?_
    refine gx_icmp_ge X 76 dX7_hourOfFault_27 (by decide) (fun q1 => ?_) (fun q1 => ?_)
    · replace h := (if_pos q1).symm.trans h
      refine gx_iinc X [(3, .int ((x3 + (1 : Int32)))), (0, .ref (al (23))), (1, .int (x1)), (2, .int (x2)), (4, .int (x4))] 3 dX7_hourOfFault_76 rfl rfl (by decide) rfl ?_
      refine gx_goto X 2 dX7_hourOfFault_79 (by decide) ?_
      exact gx_sub [1, 2, 3, 0] rfl (hK2 x1 x2 (x3 + (1 : Int32)) g h)
    · replace h := (if_neg q1).symm.trans h
      refine gx_aload_n X 0 rfl dX7_hourOfFault_30 ?_
      refine gx_getf X (23) lf_X7_19 (by decide) (cl_23 _ _) (v := .ref (al (1))) rfl dX7_hourOfFault_31 ?_
      refine gx_iload_n X 3 rfl dX7_hourOfFault_34 ?_
      refine gx_iload X 4 rfl dX7_hourOfFault_35 ?_
      obtain ⟨ra2, ga3, ca4, h⟩ := bdd_eq h
      refine gx_callNi X (1) (c_X8_areMixed ca4) lc_X8_areMixed li_X8_areMixed lm_X7_23 (by decide) (cl_1 _ _) rfl rfl rfl (Nat.le_trans (by decide) hd) rfl (Nat.le_of_ble_eq_true rfl) dX7_hourOfFault_37 ?_
      refine gx_if_ne X 70 dX7_hourOfFault_40 (by decide) (fun q5 => ?_) (fun q5 => ?_)
      · replace h := (if_neg q5).symm.trans h
        refine gx_iinc X [(4, .int ((x4 + (1 : Int32)))), (0, .ref (al (23))), (1, .int (x1)), (2, .int (x2)), (3, .int (x3))] 4 dX7_hourOfFault_70 rfl rfl (by decide) rfl ?_
        refine gx_goto X 18 dX7_hourOfFault_73 (by decide) ?_
        exact gx_sub [1, 2, 3, 4, 0] rfl (ih x1 x2 x3 (x4 + (1 : Int32)) ga3 h)
      · replace h := (if_pos q5).symm.trans h
        refine gx_aload_n X 0 rfl dX7_hourOfFault_43 ?_
        refine gx_getf X (23) lf_X7_19 (by decide) (cl_23 _ _) (v := .ref (al (1))) rfl dX7_hourOfFault_44 ?_
        refine gx_iload_n X 3 rfl dX7_hourOfFault_47 ?_
        refine gx_iload X 4 rfl dX7_hourOfFault_48 ?_
        obtain ⟨ra6, ga7, ca8, h⟩ := bdd_eq h
        refine gx_callNi X (1) (c_X8_bellsUnlike ca8) lc_X8_bellsUnlike li_X8_bellsUnlike lm_X7_29 (by decide) (cl_1 _ _) rfl rfl rfl (Nat.le_trans (by decide) hd) rfl (Nat.le_of_ble_eq_true rfl) dX7_hourOfFault_50 ?_
        refine gx_iload_n X 1 rfl dX7_hourOfFault_53 ?_
        refine gx_iand X dX7_hourOfFault_54 ?_
        refine gx_if_ne X 70 dX7_hourOfFault_55 (by decide) (fun q9 => ?_) (fun q9 => ?_)
        · replace h := (if_neg q9).symm.trans h
          refine gx_iinc X [(4, .int ((x4 + (1 : Int32)))), (0, .ref (al (23))), (1, .int (x1)), (2, .int (x2)), (3, .int (x3))] 4 dX7_hourOfFault_70 rfl rfl (by decide) rfl ?_
          refine gx_goto X 18 dX7_hourOfFault_73 (by decide) ?_
          exact gx_sub [1, 2, 3, 4, 0] rfl (ih x1 x2 x3 (x4 + (1 : Int32)) ga7 h)
        · replace h := (if_pos q9).symm.trans h
          refine gx_iload_n X 2 rfl dX7_hourOfFault_58 ?_
          refine gx_iconst X (v := (1 : Int32)) dX7_hourOfFault_59 (by decide) ?_
          refine gx_icmp_ne X 67 dX7_hourOfFault_60 (by decide) (fun q10 => ?_) (fun q10 => ?_)
          · replace h := (if_neg q10).symm.trans h
            refine gx_iload X 4 rfl dX7_hourOfFault_67 ?_
            obtain ⟨rfl, rfl⟩ := ret_eq h
            exact gx_iret X rfl dX7_hourOfFault_69
          · replace h := (if_pos q10).symm.trans h
            refine gx_iload_n X 3 rfl dX7_hourOfFault_63 ?_
            refine gx_goto X 69 dX7_hourOfFault_64 (by decide) ?_
            obtain ⟨rfl, rfl⟩ := ret_eq h
            exact gx_iret X rfl dX7_hourOfFault_69
def m_X7_hourOfFault_2 : Nat → Int32 → Int32 → Int32 → Mm → Option (Int32 × Mm)
  | 0, _, _, _, _ => none
  | n + 1, x1, x2, x3, g => (if (rdI g 1 1) ≤ x3 then some ((-2 : Int32), g) else m_X7_hourOfFault_18 (m_X7_hourOfFault_2 n) fuL x1 x2 x3 (x3 + (1 : Int32)) g)
set_option maxHeartbeats 2000000 in
theorem t_X7_hourOfFault_2 {r2 : Int32} {g2 : Mm} (X : gx_X p R s m args meth c D al cI cJ A RX7 cX7_hourOfFault 5 (some .int) d 0 0) (hd : 3 ≤ d) : ∀ (n : Nat) (x1 : Int32) (x2 : Int32) (x3 : Int32) (g : Mm), m_X7_hourOfFault_2 n x1 x2 x3 g = some (r2, g2) → gx_G p l e R s m args below meth c (gx_Q below args s D al cI cJ A (some (.int r2)) g2) D al cI cJ A 5 0 0 2 [(0, .ref (al (23))), (1, .int (x1)), (2, .int (x2)), (3, .int (x3))] [] g := by
  intro n
  induction n with
  | zero => intro x1 x2 x3 g h; cases h
  | succ n ih =>
    intro x1 x2 x3 g h
    rw [m_X7_hourOfFault_2] at h
    refine gx_iload_n X 3 rfl dX7_hourOfFault_2 ?_
    refine gx_aload_n X 0 rfl dX7_hourOfFault_3 ?_
    refine gx_getf X (23) lf_X7_19 (by decide) (cl_23 _ _) (v := .ref (al (1))) rfl dX7_hourOfFault_4 ?_
    refine gx_getn X (1) lf_X7_33 (by decide) (cl_1 _ _) (v := .int ((rdI g 1 1))) rfl dX7_hourOfFault_7 ?_
    refine gx_icmp_ge X 82 dX7_hourOfFault_10 (by decide) (fun q1 => ?_) (fun q1 => ?_)
    · replace h := (if_pos q1).symm.trans h
      refine gx_bipush X (v := (-2 : Int32)) dX7_hourOfFault_82 (by decide) ?_
      obtain ⟨rfl, rfl⟩ := ret_eq h
      exact gx_iret X rfl dX7_hourOfFault_84
    · replace h := (if_neg q1).symm.trans h
      refine gx_iload_n X 3 rfl dX7_hourOfFault_13 ?_
      refine gx_iconst X (v := (1 : Int32)) dX7_hourOfFault_14 (by decide) ?_
      refine gx_iadd X dX7_hourOfFault_15 ?_
      refine gx_istore X [(4, .int ((x3 + (1 : Int32)))), (0, .ref (al (23))), (1, .int (x1)), (2, .int (x2)), (3, .int (x3))] dX7_hourOfFault_16 (by decide) rfl ?_
      exact gx_sub [1, 2, 3, 4, 0] rfl (t_X7_hourOfFault_18 X hd (fun u0 u1 u2 g h => ih u0 u1 u2 g h) fuL x1 x2 x3 (x3 + (1 : Int32)) g h)
def m_X7_hourOfFault (a1 : Int32) (a2 : Int32) (g : Mm) : Option (Int32 × Mm) := m_X7_hourOfFault_2 fuL a1 a2 (0 : Int32) g
set_option maxHeartbeats 2000000 in
theorem c_X7_hourOfFault {r2 : Int32} {g g2 : Mm} {a1 : Int32} {a2 : Int32} (h : m_X7_hourOfFault a1 a2 g = some (r2, g2)) : gx_M 3 yX7_hourOfFault cX7_hourOfFault 5 (some .int) (fun al => [.ref (al (23)), .int (a1), .int (a2)]) g (some (.int r2)) g2 := by
  have hd : 3 ≤ 3 := Nat.le_refl _
  refine gx_M.of (by decide +kernel) (fun _ => Nat.le_of_ble_eq_true rfl) ?_
  intro p l e R s m args below meth c D al cI cJ A X
  refine gx_eq (pc' := 0) (ls' := [(0, .ref (al (23))), (1, .int (a1)), (2, .int (a2))]) (st' := []) (g' := g) ⟨rfl, rfl, rfl, rfl⟩ ?_
  unfold m_X7_hourOfFault at h
  refine gx_iconst X (v := (0 : Int32)) dX7_hourOfFault_0 (by decide) ?_
  refine gx_istore_n X [(3, .int ((0 : Int32))), (0, .ref (al (23))), (1, .int (a1)), (2, .int (a2))] dX7_hourOfFault_1 (by decide) rfl ?_
  exact gx_sub [1, 2, 3, 0] rfl (t_X7_hourOfFault_2 X hd fuL a1 a2 (0 : Int32) g h)
theorem dX7_firstFault_0 : decode cX7_firstFault 0 = .ok (.aload_n 0, 1) := by decide +kernel
theorem dX7_firstFault_1 : decode cX7_firstFault 1 = .ok (.invokevirtual 46, 3) := by decide +kernel
theorem dX7_firstFault_4 : decode cX7_firstFault 4 = .ok (.iconst 1, 1) := by decide +kernel
theorem dX7_firstFault_5 : decode cX7_firstFault 5 = .ok (.istore_n 2, 1) := by decide +kernel
theorem dX7_firstFault_6 : decode cX7_firstFault 6 = .ok (.iload_n 2, 1) := by decide +kernel
theorem dX7_firstFault_7 : decode cX7_firstFault 7 = .ok (.aload_n 0, 1) := by decide +kernel
theorem dX7_firstFault_8 : decode cX7_firstFault 8 = .ok (.getfield 19, 3) := by decide +kernel
theorem dX7_firstFault_11 : decode cX7_firstFault 11 = .ok (.invokevirtual 49, 3) := by decide +kernel
theorem dX7_firstFault_14 : decode cX7_firstFault 14 = .ok (.if_icmp .gt 41, 3) := by decide +kernel
theorem dX7_firstFault_17 : decode cX7_firstFault 17 = .ok (.aload_n 0, 1) := by decide +kernel
theorem dX7_firstFault_18 : decode cX7_firstFault 18 = .ok (.iload_n 2, 1) := by decide +kernel
theorem dX7_firstFault_19 : decode cX7_firstFault 19 = .ok (.invokevirtual 62, 3) := by decide +kernel
theorem dX7_firstFault_22 : decode cX7_firstFault 22 = .ok (.ifCond .eq 27, 3) := by decide +kernel
theorem dX7_firstFault_25 : decode cX7_firstFault 25 = .ok (.aload_n 0, 1) := by decide +kernel
theorem dX7_firstFault_26 : decode cX7_firstFault 26 = .ok (.iload_n 2, 1) := by decide +kernel
theorem dX7_firstFault_27 : decode cX7_firstFault 27 = .ok (.iconst 1, 1) := by decide +kernel
theorem dX7_firstFault_28 : decode cX7_firstFault 28 = .ok (.invokevirtual 56, 3) := by decide +kernel
theorem dX7_firstFault_31 : decode cX7_firstFault 31 = .ok (.ifCond .ne 18, 3) := by decide +kernel
theorem dX7_firstFault_34 : decode cX7_firstFault 34 = .ok (.iload_n 1, 1) := by decide +kernel
theorem dX7_firstFault_35 : decode cX7_firstFault 35 = .ok (.ifCond .ne 7, 3) := by decide +kernel
theorem dX7_firstFault_38 : decode cX7_firstFault 38 = .ok (.iload_n 2, 1) := by decide +kernel
theorem dX7_firstFault_39 : decode cX7_firstFault 39 = .ok (.goto 9, 3) := by decide +kernel
theorem dX7_firstFault_42 : decode cX7_firstFault 42 = .ok (.aload_n 0, 1) := by decide +kernel
theorem dX7_firstFault_43 : decode cX7_firstFault 43 = .ok (.iload_n 2, 1) := by decide +kernel
theorem dX7_firstFault_44 : decode cX7_firstFault 44 = .ok (.iload_n 1, 1) := by decide +kernel
theorem dX7_firstFault_45 : decode cX7_firstFault 45 = .ok (.invokevirtual 66, 3) := by decide +kernel
theorem dX7_firstFault_48 : decode cX7_firstFault 48 = .ok (.ireturn, 1) := by decide +kernel
theorem dX7_firstFault_49 : decode cX7_firstFault 49 = .ok (.iinc 2 1, 3) := by decide +kernel
theorem dX7_firstFault_52 : decode cX7_firstFault 52 = .ok (.goto (-46), 3) := by decide +kernel
theorem dX7_firstFault_55 : decode cX7_firstFault 55 = .ok (.bipush (-2), 2) := by decide +kernel
theorem dX7_firstFault_57 : decode cX7_firstFault 57 = .ok (.ireturn, 1) := by decide +kernel
def m_X7_firstFault_6 : Nat → Int32 → Int32 → Mm → Option (Int32 × Mm)
  | 0, _, _, _ => none
  | n + 1, x1, x2, g => bdd (m_X8_allBells  g) (fun ra1 ga2 => (if ra1 < x2 then some ((-2 : Int32), ga2) else bdd (m_X7_isHeardSet x2 ga2) (fun ra5 ga6 => (if ra5 = (0 : Int32) then m_X7_firstFault_6 n x1 (x2 + (1 : Int32)) ga6 else bdd (m_X7_allDifferIn x2 (1 : Int32) ga6) (fun ra9 ga10 => (if ra9 = (0 : Int32) then (if x1 = (0 : Int32) then some (x2, ga10) else bdd (m_X7_hourOfFault x2 x1 ga10) (fun ra14 ga15 => some (ra14, ga15))) else m_X7_firstFault_6 n x1 (x2 + (1 : Int32)) ga10))))))
set_option maxHeartbeats 2000000 in
theorem t_X7_firstFault_6 {r2 : Int32} {g2 : Mm} (X : gx_X p R s m args meth c D al cI cJ A RX7 cX7_firstFault 3 (some .int) d 0 0) (hd : 5 ≤ d) : ∀ (n : Nat) (x1 : Int32) (x2 : Int32) (g : Mm), m_X7_firstFault_6 n x1 x2 g = some (r2, g2) → gx_G p l e R s m args below meth c (gx_Q below args s D al cI cJ A (some (.int r2)) g2) D al cI cJ A 3 0 0 6 [(0, .ref (al (23))), (1, .int (x1)), (2, .int (x2))] [] g := by
  intro n
  induction n with
  | zero => intro x1 x2 g h; cases h
  | succ n ih =>
    intro x1 x2 g h
    rw [m_X7_firstFault_6] at h
    refine gx_iload_n X 2 rfl dX7_firstFault_6 ?_
    refine gx_aload_n X 0 rfl dX7_firstFault_7 ?_
    refine gx_getf X (23) lf_X7_19 (by decide) (cl_23 _ _) (v := .ref (al (1))) rfl dX7_firstFault_8 ?_
    obtain ⟨ra1, ga2, ca3, h⟩ := bdd_eq h
    refine gx_callNi X (1) (c_X8_allBells ca3) lc_X8_allBells li_X8_allBells lm_X7_49 (by decide) (cl_1 _ _) rfl rfl rfl (Nat.le_trans (by decide) hd) rfl (Nat.le_of_ble_eq_true rfl) dX7_firstFault_11 ?_
    refine gx_icmp_gt X 55 dX7_firstFault_14 (by decide) (fun q4 => ?_) (fun q4 => ?_)
    · replace h := (if_pos q4).symm.trans h
      refine gx_bipush X (v := (-2 : Int32)) dX7_firstFault_55 (by decide) ?_
      obtain ⟨rfl, rfl⟩ := ret_eq h
      exact gx_iret X rfl dX7_firstFault_57
    · replace h := (if_neg q4).symm.trans h
      refine gx_aload_n X 0 rfl dX7_firstFault_17 ?_
      refine gx_iload_n X 2 rfl dX7_firstFault_18 ?_
      obtain ⟨ra5, ga6, ca7, h⟩ := bdd_eq h
      refine gx_callVi X (23) (c_X7_isHeardSet ca7) lc_X7_isHeardSet li_X7_isHeardSet lm_X7_62 (by decide) (cl_23 _ _) rfl rfl rfl (Nat.le_trans (by decide) hd) rfl (Nat.le_of_ble_eq_true rfl) dX7_firstFault_19 ?_
      refine gx_if_eq X 49 dX7_firstFault_22 (by decide) (fun q8 => ?_) (fun q8 => ?_)
      · replace h := (if_pos q8).symm.trans h
        refine gx_iinc X [(2, .int ((x2 + (1 : Int32)))), (0, .ref (al (23))), (1, .int (x1))] 2 dX7_firstFault_49 rfl rfl (by decide) rfl ?_
        refine gx_goto X 6 dX7_firstFault_52 (by decide) ?_
        exact gx_sub [1, 2, 0] rfl (ih x1 (x2 + (1 : Int32)) ga6 h)
      · replace h := (if_neg q8).symm.trans h
        refine gx_aload_n X 0 rfl dX7_firstFault_25 ?_
        refine gx_iload_n X 2 rfl dX7_firstFault_26 ?_
        refine gx_iconst X (v := (1 : Int32)) dX7_firstFault_27 (by decide) ?_
        obtain ⟨ra9, ga10, ca11, h⟩ := bdd_eq h
        refine gx_callVi X (23) (c_X7_allDifferIn ca11) lc_X7_allDifferIn li_X7_allDifferIn lm_X7_56 (by decide) (cl_23 _ _) rfl rfl rfl (Nat.le_trans (by decide) hd) rfl (Nat.le_of_ble_eq_true rfl) dX7_firstFault_28 ?_
        refine gx_if_ne X 49 dX7_firstFault_31 (by decide) (fun q12 => ?_) (fun q12 => ?_)
        · replace h := (if_neg q12).symm.trans h
          refine gx_iinc X [(2, .int ((x2 + (1 : Int32)))), (0, .ref (al (23))), (1, .int (x1))] 2 dX7_firstFault_49 rfl rfl (by decide) rfl ?_
          refine gx_goto X 6 dX7_firstFault_52 (by decide) ?_
          exact gx_sub [1, 2, 0] rfl (ih x1 (x2 + (1 : Int32)) ga10 h)
        · replace h := (if_pos q12).symm.trans h
          refine gx_iload_n X 1 rfl dX7_firstFault_34 ?_
          refine gx_if_ne X 42 dX7_firstFault_35 (by decide) (fun q13 => ?_) (fun q13 => ?_)
          · replace h := (if_neg q13).symm.trans h
            refine gx_aload_n X 0 rfl dX7_firstFault_42 ?_
            refine gx_iload_n X 2 rfl dX7_firstFault_43 ?_
            refine gx_iload_n X 1 rfl dX7_firstFault_44 ?_
            obtain ⟨ra14, ga15, ca16, h⟩ := bdd_eq h
            refine gx_callVi X (23) (c_X7_hourOfFault ca16) lc_X7_hourOfFault li_X7_hourOfFault lm_X7_66 (by decide) (cl_23 _ _) rfl rfl rfl (Nat.le_trans (by decide) hd) rfl (Nat.le_of_ble_eq_true rfl) dX7_firstFault_45 ?_
            obtain ⟨rfl, rfl⟩ := ret_eq h
            exact gx_iret X rfl dX7_firstFault_48
          · replace h := (if_pos q13).symm.trans h
            refine gx_iload_n X 2 rfl dX7_firstFault_38 ?_
            refine gx_goto X 48 dX7_firstFault_39 (by decide) ?_
            obtain ⟨rfl, rfl⟩ := ret_eq h
            exact gx_iret X rfl dX7_firstFault_48
def m_X7_firstFault (a1 : Int32) (g : Mm) : Option (Int32 × Mm) := bdd (m_X7_takeAllPairs  g) (fun ra1 ga2 => m_X7_firstFault_6 fuL a1 (1 : Int32) ga2)
set_option maxHeartbeats 2000000 in
theorem c_X7_firstFault {r2 : Int32} {g g2 : Mm} {a1 : Int32} (h : m_X7_firstFault a1 g = some (r2, g2)) : gx_M 5 yX7_firstFault cX7_firstFault 3 (some .int) (fun al => [.ref (al (23)), .int (a1)]) g (some (.int r2)) g2 := by
  have hd : 5 ≤ 5 := Nat.le_refl _
  refine gx_M.of (by decide +kernel) (fun _ => Nat.le_of_ble_eq_true rfl) ?_
  intro p l e R s m args below meth c D al cI cJ A X
  refine gx_eq (pc' := 0) (ls' := [(0, .ref (al (23))), (1, .int (a1))]) (st' := []) (g' := g) ⟨rfl, rfl, rfl, rfl⟩ ?_
  unfold m_X7_firstFault at h
  refine gx_aload_n X 0 rfl dX7_firstFault_0 ?_
  obtain ⟨ra1, ga2, ca3, h⟩ := bdd_eq h
  refine gx_callVv X (23) (c_X7_takeAllPairs ca3) lc_X7_takeAllPairs li_X7_takeAllPairs lm_X7_46 (by decide) (cl_23 _ _) rfl rfl rfl (Nat.le_trans (by decide) hd) rfl (Nat.le_of_ble_eq_true rfl) dX7_firstFault_1 ?_
  refine gx_iconst X (v := (1 : Int32)) dX7_firstFault_4 (by decide) ?_
  refine gx_istore_n X [(2, .int ((1 : Int32))), (0, .ref (al (23))), (1, .int (a1))] dX7_firstFault_5 (by decide) rfl ?_
  exact gx_sub [1, 2, 0] rfl (t_X7_firstFault_6 X hd fuL a1 (1 : Int32) ga2 h)
theorem dX7_leastDifference_0 : decode cX7_leastDifference 0 = .ok (.aload_n 0, 1) := by decide +kernel
theorem dX7_leastDifference_1 : decode cX7_leastDifference 1 = .ok (.invokevirtual 46, 3) := by decide +kernel
theorem dX7_leastDifference_4 : decode cX7_leastDifference 4 = .ok (.bipush (-2), 2) := by decide +kernel
theorem dX7_leastDifference_6 : decode cX7_leastDifference 6 = .ok (.istore_n 1, 1) := by decide +kernel
theorem dX7_leastDifference_7 : decode cX7_leastDifference 7 = .ok (.iconst 0, 1) := by decide +kernel
theorem dX7_leastDifference_8 : decode cX7_leastDifference 8 = .ok (.istore_n 2, 1) := by decide +kernel
theorem dX7_leastDifference_9 : decode cX7_leastDifference 9 = .ok (.iload_n 2, 1) := by decide +kernel
theorem dX7_leastDifference_10 : decode cX7_leastDifference 10 = .ok (.aload_n 0, 1) := by decide +kernel
theorem dX7_leastDifference_11 : decode cX7_leastDifference 11 = .ok (.getfield 15, 3) := by decide +kernel
theorem dX7_leastDifference_14 : decode cX7_leastDifference 14 = .ok (.if_icmp .ge 35, 3) := by decide +kernel
theorem dX7_leastDifference_17 : decode cX7_leastDifference 17 = .ok (.aload_n 0, 1) := by decide +kernel
theorem dX7_leastDifference_18 : decode cX7_leastDifference 18 = .ok (.getfield 11, 3) := by decide +kernel
theorem dX7_leastDifference_21 : decode cX7_leastDifference 21 = .ok (.iload_n 2, 1) := by decide +kernel
theorem dX7_leastDifference_22 : decode cX7_leastDifference 22 = .ok (.iaload, 1) := by decide +kernel
theorem dX7_leastDifference_23 : decode cX7_leastDifference 23 = .ok (.invokestatic 40, 3) := by decide +kernel
theorem dX7_leastDifference_26 : decode cX7_leastDifference 26 = .ok (.istore_n 3, 1) := by decide +kernel
theorem dX7_leastDifference_27 : decode cX7_leastDifference 27 = .ok (.iload_n 1, 1) := by decide +kernel
theorem dX7_leastDifference_28 : decode cX7_leastDifference 28 = .ok (.bipush (-2), 2) := by decide +kernel
theorem dX7_leastDifference_30 : decode cX7_leastDifference 30 = .ok (.if_icmp .ne 7, 3) := by decide +kernel
theorem dX7_leastDifference_33 : decode cX7_leastDifference 33 = .ok (.iload_n 3, 1) := by decide +kernel
theorem dX7_leastDifference_34 : decode cX7_leastDifference 34 = .ok (.goto 8, 3) := by decide +kernel
theorem dX7_leastDifference_37 : decode cX7_leastDifference 37 = .ok (.iload_n 1, 1) := by decide +kernel
theorem dX7_leastDifference_38 : decode cX7_leastDifference 38 = .ok (.iload_n 3, 1) := by decide +kernel
theorem dX7_leastDifference_39 : decode cX7_leastDifference 39 = .ok (.invokestatic 69, 3) := by decide +kernel
theorem dX7_leastDifference_42 : decode cX7_leastDifference 42 = .ok (.istore_n 1, 1) := by decide +kernel
theorem dX7_leastDifference_43 : decode cX7_leastDifference 43 = .ok (.iinc 2 1, 3) := by decide +kernel
theorem dX7_leastDifference_46 : decode cX7_leastDifference 46 = .ok (.goto (-37), 3) := by decide +kernel
theorem dX7_leastDifference_49 : decode cX7_leastDifference 49 = .ok (.iload_n 1, 1) := by decide +kernel
theorem dX7_leastDifference_50 : decode cX7_leastDifference 50 = .ok (.ireturn, 1) := by decide +kernel
def m_X7_leastDifference_9 : Nat → Int32 → Int32 → Mm → Option (Int32 × Mm)
  | 0, _, _, _ => none
  | n + 1, x1, x2, g => (if (rdI g 23 2) ≤ x2 then some (x1, g) else gdd (ixo x2 276) (bdd (m_J6_bitCount_0f7a4 (rdI g 24 x2.toNatClampNeg) g) (fun ra3 ga4 => (if x1 = (-2 : Int32) then m_X7_leastDifference_9 n ra3 (x2 + (1 : Int32)) ga4 else bdd (m_J9_min_7cf53 x1 ra3 ga4) (fun ra7 ga8 => m_X7_leastDifference_9 n ra7 (x2 + (1 : Int32)) ga8)))))
set_option maxHeartbeats 2000000 in
theorem t_X7_leastDifference_9 {r2 : Int32} {g2 : Mm} (X : gx_X p R s m args meth c D al cI cJ A RX7 cX7_leastDifference 4 (some .int) d 0 0) (hd : 5 ≤ d) : ∀ (n : Nat) (x1 : Int32) (x2 : Int32) (g : Mm), m_X7_leastDifference_9 n x1 x2 g = some (r2, g2) → gx_G p l e R s m args below meth c (gx_Q below args s D al cI cJ A (some (.int r2)) g2) D al cI cJ A 4 0 0 9 [(0, .ref (al (23))), (1, .int (x1)), (2, .int (x2))] [] g := by
  intro n
  induction n with
  | zero => intro x1 x2 g h; cases h
  | succ n ih =>
    intro x1 x2 g h
    rw [m_X7_leastDifference_9] at h
    refine gx_iload_n X 2 rfl dX7_leastDifference_9 ?_
    refine gx_aload_n X 0 rfl dX7_leastDifference_10 ?_
    refine gx_getf X (23) lf_X7_15 (by decide) (cl_23 _ _) (v := .int ((rdI g 23 2))) rfl dX7_leastDifference_11 ?_
    refine gx_icmp_ge X 49 dX7_leastDifference_14 (by decide) (fun q1 => ?_) (fun q1 => ?_)
    · replace h := (if_pos q1).symm.trans h
      refine gx_iload_n X 1 rfl dX7_leastDifference_49 ?_
      obtain ⟨rfl, rfl⟩ := ret_eq h
      exact gx_iret X rfl dX7_leastDifference_50
    · replace h := (if_neg q1).symm.trans h
      refine gx_aload_n X 0 rfl dX7_leastDifference_17 ?_
      refine gx_getf X (23) lf_X7_11 (by decide) (cl_23 _ _) (v := .ref (al (24))) rfl dX7_leastDifference_18 ?_
      refine gx_iload_n X 2 rfl dX7_leastDifference_21 ?_
      obtain ⟨q2, h⟩ := gdd_eq h
      refine gx_iald X (24) 276 (by decide) (cl_24 _ _) q2 dX7_leastDifference_22 ?_
      obtain ⟨ra3, ga4, ca5, h⟩ := bdd_eq h
      refine gx_callSi X (c_J6_bitCount_0f7a4 ca5) lc_J6_bitCount_0f7a4 li_J6_bitCount_0f7a4 lm_X7_40 rfl rfl (Nat.le_trans (by decide) hd) rfl (Nat.le_of_ble_eq_true rfl) dX7_leastDifference_23 ?_
      refine gx_istore_n X [(3, .int (ra3)), (0, .ref (al (23))), (1, .int (x1)), (2, .int (x2))] dX7_leastDifference_26 (by decide) rfl ?_
      refine gx_iload_n X 2 rfl dX7_leastDifference_27 ?_
      refine gx_bipush X (v := (-2 : Int32)) dX7_leastDifference_28 (by decide) ?_
      refine gx_icmp_ne X 37 dX7_leastDifference_30 (by decide) (fun q6 => ?_) (fun q6 => ?_)
      · replace h := (if_neg q6).symm.trans h
        refine gx_iload_n X 2 rfl dX7_leastDifference_37 ?_
        refine gx_iload_n X 0 rfl dX7_leastDifference_38 ?_
        obtain ⟨ra7, ga8, ca9, h⟩ := bdd_eq h
        refine gx_callSi X (c_J9_min_7cf53 ca9) lc_J9_min_7cf53 li_J9_min_7cf53 lm_X7_69 rfl rfl (Nat.le_trans (by decide) hd) rfl (Nat.le_of_ble_eq_true rfl) dX7_leastDifference_39 ?_
        refine gx_istore_n X [(1, .int (ra7)), (3, .int (ra3)), (0, .ref (al (23))), (2, .int (x2))] dX7_leastDifference_42 (by decide) rfl ?_
        refine gx_iinc X [(2, .int ((x2 + (1 : Int32)))), (1, .int (ra7)), (3, .int (ra3)), (0, .ref (al (23)))] 3 dX7_leastDifference_43 rfl rfl (by decide) rfl ?_
        refine gx_goto X 9 dX7_leastDifference_46 (by decide) ?_
        exact gx_sub [3, 1, 0] rfl (ih ra7 (x2 + (1 : Int32)) ga8 h)
      · replace h := (if_pos q6).symm.trans h
        refine gx_iload_n X 0 rfl dX7_leastDifference_33 ?_
        refine gx_goto X 42 dX7_leastDifference_34 (by decide) ?_
        refine gx_istore_n X [(1, .int (ra3)), (3, .int (ra3)), (0, .ref (al (23))), (2, .int (x2))] dX7_leastDifference_42 (by decide) rfl ?_
        refine gx_iinc X [(2, .int ((x2 + (1 : Int32)))), (1, .int (ra3)), (3, .int (ra3)), (0, .ref (al (23)))] 3 dX7_leastDifference_43 rfl rfl (by decide) rfl ?_
        refine gx_goto X 9 dX7_leastDifference_46 (by decide) ?_
        exact gx_sub [3, 1, 0] rfl (ih ra3 (x2 + (1 : Int32)) ga4 h)
def m_X7_leastDifference (g : Mm) : Option (Int32 × Mm) := bdd (m_X7_takeAllPairs  g) (fun ra1 ga2 => m_X7_leastDifference_9 fuL (-2 : Int32) (0 : Int32) ga2)
set_option maxHeartbeats 2000000 in
theorem c_X7_leastDifference {r2 : Int32} {g g2 : Mm} (h : m_X7_leastDifference g = some (r2, g2)) : gx_M 5 yX7_leastDifference cX7_leastDifference 4 (some .int) (fun al => [.ref (al (23))]) g (some (.int r2)) g2 := by
  have hd : 5 ≤ 5 := Nat.le_refl _
  refine gx_M.of (by decide +kernel) (fun _ => Nat.le_of_ble_eq_true rfl) ?_
  intro p l e R s m args below meth c D al cI cJ A X
  refine gx_eq (pc' := 0) (ls' := [(0, .ref (al (23)))]) (st' := []) (g' := g) ⟨rfl, rfl, rfl, rfl⟩ ?_
  unfold m_X7_leastDifference at h
  refine gx_aload_n X 0 rfl dX7_leastDifference_0 ?_
  obtain ⟨ra1, ga2, ca3, h⟩ := bdd_eq h
  refine gx_callVv X (23) (c_X7_takeAllPairs ca3) lc_X7_takeAllPairs li_X7_takeAllPairs lm_X7_46 (by decide) (cl_23 _ _) rfl rfl rfl (Nat.le_trans (by decide) hd) rfl (Nat.le_of_ble_eq_true rfl) dX7_leastDifference_1 ?_
  refine gx_bipush X (v := (-2 : Int32)) dX7_leastDifference_4 (by decide) ?_
  refine gx_istore_n X [(1, .int ((-2 : Int32))), (0, .ref (al (23)))] dX7_leastDifference_6 (by decide) rfl ?_
  refine gx_iconst X (v := (0 : Int32)) dX7_leastDifference_7 (by decide) ?_
  refine gx_istore_n X [(2, .int ((0 : Int32))), (1, .int ((-2 : Int32))), (0, .ref (al (23)))] dX7_leastDifference_8 (by decide) rfl ?_
  exact gx_sub [2, 1, 0] rfl (t_X7_leastDifference_9 X hd fuL (-2 : Int32) (0 : Int32) ga2 h)
end DC
