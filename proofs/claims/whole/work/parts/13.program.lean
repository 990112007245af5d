section DC
variable {p : Program} {l : Launch} {e : Env} {R : Room} {s : State} {m : MethodId} {args : Array Value} {below : List Frame} {meth : Method} {c : Code} {D : va_G} {al : Nat → Nat} {cI cJ : ClassId} {A : Nat → Prop} {d : Nat}
theorem dX4_add_0 : decode cX4_add 0 = .ok (.aload_n 0, 1) := by decide +kernel
theorem dX4_add_1 : decode cX4_add 1 = .ok (.getfield 24, 3) := by decide +kernel
theorem dX4_add_4 : decode cX4_add 4 = .ok (.bipush 121, 2) := by decide +kernel
theorem dX4_add_6 : decode cX4_add 6 = .ok (.if_icmp .ge 33, 3) := by decide +kernel
theorem dX4_add_9 : decode cX4_add 9 = .ok (.aload_n 0, 1) := by decide +kernel
theorem dX4_add_10 : decode cX4_add 10 = .ok (.getfield 11, 3) := by decide +kernel
theorem dX4_add_13 : decode cX4_add 13 = .ok (.aload_n 0, 1) := by decide +kernel
theorem dX4_add_14 : decode cX4_add 14 = .ok (.getfield 24, 3) := by decide +kernel
theorem dX4_add_17 : decode cX4_add 17 = .ok (.iload_n 1, 1) := by decide +kernel
theorem dX4_add_18 : decode cX4_add 18 = .ok (.iastore, 1) := by decide +kernel
theorem dX4_add_19 : decode cX4_add 19 = .ok (.aload_n 0, 1) := by decide +kernel
theorem dX4_add_20 : decode cX4_add 20 = .ok (.getfield 15, 3) := by decide +kernel
theorem dX4_add_23 : decode cX4_add 23 = .ok (.aload_n 0, 1) := by decide +kernel
theorem dX4_add_24 : decode cX4_add 24 = .ok (.getfield 24, 3) := by decide +kernel
theorem dX4_add_27 : decode cX4_add 27 = .ok (.iload_n 2, 1) := by decide +kernel
theorem dX4_add_28 : decode cX4_add 28 = .ok (.iastore, 1) := by decide +kernel
theorem dX4_add_29 : decode cX4_add 29 = .ok (.aload_n 0, 1) := by decide +kernel
theorem dX4_add_30 : decode cX4_add 30 = .ok (.dup, 1) := by decide +kernel
theorem dX4_add_31 : decode cX4_add 31 = .ok (.getfield 24, 3) := by decide +kernel
theorem dX4_add_34 : decode cX4_add 34 = .ok (.iconst 1, 1) := by decide +kernel
theorem dX4_add_35 : decode cX4_add 35 = .ok (.iadd, 1) := by decide +kernel
theorem dX4_add_36 : decode cX4_add 36 = .ok (.putfield 24, 3) := by decide +kernel
theorem dX4_add_39 : decode cX4_add 39 = .ok (.return_, 1) := by decide +kernel
def m_X4_add (t0 : Int32) (a1 : Int32) (a2 : Int32) (g : Mm) : Option (Int32 × Mm) := (if (121 : Int32) ≤ (rdI g (pgm t0) 4) then some ((0 : Int32), g) else gdd (ixo (rdI g (pgm t0) 4) 121) (gdd (ixo (rdI (wrI g (pgm t0 + 1) (rdI g (pgm t0) 4).toNatClampNeg a1) (pgm t0) 4) 121) (some ((0 : Int32), (wrI (wrI (wrI g (pgm t0 + 1) (rdI g (pgm t0) 4).toNatClampNeg a1) (pgm t0 + 2) (rdI (wrI g (pgm t0 + 1) (rdI g (pgm t0) 4).toNatClampNeg a1) (pgm t0) 4).toNatClampNeg a2) (pgm t0) 4 ((rdI (wrI (wrI g (pgm t0 + 1) (rdI g (pgm t0) 4).toNatClampNeg a1) (pgm t0 + 2) (rdI (wrI g (pgm t0 + 1) (rdI g (pgm t0) 4).toNatClampNeg a1) (pgm t0) 4).toNatClampNeg a2) (pgm t0) 4) + (1 : Int32)))))))
set_option maxHeartbeats 2000000 in
theorem c_X4_add {r2 : Int32} {g g2 : Mm} {t0 : Int32} {a1 : Int32} {a2 : Int32} (h : m_X4_add t0 a1 a2 g = some (r2, g2)) : gx_M 1 yX4_add cX4_add 3 none (fun al => [.ref (al (pgm t0)), .int (a1), .int (a2)]) g none g2 := by
  have hd : 1 ≤ 1 := Nat.le_refl _
  refine gx_M.of (by decide +kernel) (fun _ => Nat.le_of_ble_eq_true rfl) ?_
  intro p l e R s m args below meth c D al cI cJ A X
  refine gx_eq (pc' := 0) (ls' := [(0, .ref (al (pgm t0))), (1, .int (a1)), (2, .int (a2))]) (st' := []) (g' := g) ⟨rfl, rfl, rfl, rfl⟩ ?_
  unfold m_X4_add at h
  refine gx_aload_n X 0 rfl dX4_add_0 ?_
  refine gx_getf X (pgm t0) lf_X4_24 (pg_lt _) (cl_pg _ _ _) (v := .int ((rdI g (pgm t0) 4))) rfl dX4_add_1 ?_
  refine gx_bipush X (v := (121 : Int32)) dX4_add_4 (by decide) ?_
  refine gx_icmp_ge X 39 dX4_add_6 (by decide) (fun q1 => ?_) (fun q1 => ?_)
  · replace h := (if_pos q1).symm.trans h
    obtain ⟨rfl, rfl⟩ := ret_eq h
    exact gx_vret X dX4_add_39
  · replace h := (if_neg q1).symm.trans h
    refine gx_aload_n X 0 rfl dX4_add_9 ?_
    refine gx_getf X (pgm t0) lf_X4_11 (pg_lt _) (cl_pg _ _ _) (v := .ref (al (pgm t0 + 1))) rfl dX4_add_10 ?_
    refine gx_aload_n X 0 rfl dX4_add_13 ?_
    refine gx_getf X (pgm t0) lf_X4_24 (pg_lt _) (cl_pg _ _ _) (v := .int ((rdI g (pgm t0) 4))) rfl dX4_add_14 ?_
    refine gx_iload_n X 1 rfl dX4_add_17 ?_
    obtain ⟨q2, h⟩ := gdd_eq h
    refine gx_iast X (pgm t0 + 1) 121 (pg_lt1 _) (fun r => cl_pg1 _ r _) q2 dX4_add_18 ?_
    refine gx_aload_n X 0 rfl dX4_add_19 ?_
    refine gx_getf X (pgm t0) lf_X4_15 (pg_lt _) (cl_pg _ _ _) (v := .ref (al (pgm t0 + 2))) rfl dX4_add_20 ?_
    refine gx_aload_n X 0 rfl dX4_add_23 ?_
    refine gx_getf X (pgm t0) lf_X4_24 (pg_lt _) (cl_pg _ _ _) (v := .int ((rdI (wrI g (pgm t0 + 1) (rdI g (pgm t0) 4).toNatClampNeg a1) (pgm t0) 4))) rfl dX4_add_24 ?_
    refine gx_iload_n X 2 rfl dX4_add_27 ?_
    obtain ⟨q3, h⟩ := gdd_eq h
    refine gx_iast X (pgm t0 + 2) 121 (pg_lt2 _) (fun r => cl_pg2 _ r _) q3 dX4_add_28 ?_
    refine gx_aload_n X 0 rfl dX4_add_29 ?_
    refine gx_dup X dX4_add_30 rfl ?_
    refine gx_getf X (pgm t0) lf_X4_24 (pg_lt _) (cl_pg _ _ _) (v := .int ((rdI (wrI (wrI g (pgm t0 + 1) (rdI g (pgm t0) 4).toNatClampNeg a1) (pgm t0 + 2) (rdI (wrI g (pgm t0 + 1) (rdI g (pgm t0) 4).toNatClampNeg a1) (pgm t0) 4).toNatClampNeg a2) (pgm t0) 4))) rfl dX4_add_31 ?_
    refine gx_iconst X (v := (1 : Int32)) dX4_add_34 (by decide) ?_
    refine gx_iadd X dX4_add_35 ?_
    refine gx_putf X (pgm t0) ((rdI (wrI (wrI g (pgm t0 + 1) (rdI g (pgm t0) 4).toNatClampNeg a1) (pgm t0 + 2) (rdI (wrI g (pgm t0 + 1) (rdI g (pgm t0) 4).toNatClampNeg a1) (pgm t0) 4).toNatClampNeg a2) (pgm t0) 4) + (1 : Int32)) lf_X4_24 lp_X4_4 (pg_lt _) (cl_pg _ _ _) (Nat.le_of_ble_eq_true rfl) rfl rfl (cl_pg _ _ _) dX4_add_36 ?_
    obtain ⟨rfl, rfl⟩ := ret_eq h
    exact gx_vret X dX4_add_39
theorem dX4_skipToEnd_0 : decode cX4_skipToEnd 0 = .ok (.iload_n 1, 1) := by decide +kernel
theorem dX4_skipToEnd_1 : decode cX4_skipToEnd 1 = .ok (.aload_n 0, 1) := by decide +kernel
theorem dX4_skipToEnd_2 : decode cX4_skipToEnd 2 = .ok (.getfield 24, 3) := by decide +kernel
theorem dX4_skipToEnd_5 : decode cX4_skipToEnd 5 = .ok (.if_icmp .ge 13, 3) := by decide +kernel
theorem dX4_skipToEnd_8 : decode cX4_skipToEnd 8 = .ok (.aload_n 0, 1) := by decide +kernel
theorem dX4_skipToEnd_9 : decode cX4_skipToEnd 9 = .ok (.getfield 15, 3) := by decide +kernel
theorem dX4_skipToEnd_12 : decode cX4_skipToEnd 12 = .ok (.iload_n 1, 1) := by decide +kernel
theorem dX4_skipToEnd_13 : decode cX4_skipToEnd 13 = .ok (.aload_n 0, 1) := by decide +kernel
theorem dX4_skipToEnd_14 : decode cX4_skipToEnd 14 = .ok (.getfield 24, 3) := by decide +kernel
theorem dX4_skipToEnd_17 : decode cX4_skipToEnd 17 = .ok (.iastore, 1) := by decide +kernel
theorem dX4_skipToEnd_18 : decode cX4_skipToEnd 18 = .ok (.return_, 1) := by decide +kernel
def m_X4_skipToEnd (t0 : Int32) (a1 : Int32) (g : Mm) : Option (Int32 × Mm) := (if (rdI g (pgm t0) 4) ≤ a1 then some ((0 : Int32), g) else gdd (ixo a1 121) (some ((0 : Int32), (wrI g (pgm t0 + 2) a1.toNatClampNeg (rdI g (pgm t0) 4)))))
set_option maxHeartbeats 2000000 in
theorem c_X4_skipToEnd {r2 : Int32} {g g2 : Mm} {t0 : Int32} {a1 : Int32} (h : m_X4_skipToEnd t0 a1 g = some (r2, g2)) : gx_M 1 yX4_skipToEnd cX4_skipToEnd 2 none (fun al => [.ref (al (pgm t0)), .int (a1)]) g none g2 := by
  have hd : 1 ≤ 1 := Nat.le_refl _
  refine gx_M.of (by decide +kernel) (fun _ => Nat.le_of_ble_eq_true rfl) ?_
  intro p l e R s m args below meth c D al cI cJ A X
  refine gx_eq (pc' := 0) (ls' := [(0, .ref (al (pgm t0))), (1, .int (a1))]) (st' := []) (g' := g) ⟨rfl, rfl, rfl, rfl⟩ ?_
  unfold m_X4_skipToEnd at h
  refine gx_iload_n X 1 rfl dX4_skipToEnd_0 ?_
  refine gx_aload_n X 0 rfl dX4_skipToEnd_1 ?_
  refine gx_getf X (pgm t0) lf_X4_24 (pg_lt _) (cl_pg _ _ _) (v := .int ((rdI g (pgm t0) 4))) rfl dX4_skipToEnd_2 ?_
  refine gx_icmp_ge X 18 dX4_skipToEnd_5 (by decide) (fun q1 => ?_) (fun q1 => ?_)
  · replace h := (if_pos q1).symm.trans h
    obtain ⟨rfl, rfl⟩ := ret_eq h
    exact gx_vret X dX4_skipToEnd_18
  · replace h := (if_neg q1).symm.trans h
    refine gx_aload_n X 0 rfl dX4_skipToEnd_8 ?_
    refine gx_getf X (pgm t0) lf_X4_15 (pg_lt _) (cl_pg _ _ _) (v := .ref (al (pgm t0 + 2))) rfl dX4_skipToEnd_9 ?_
    refine gx_iload_n X 1 rfl dX4_skipToEnd_12 ?_
    refine gx_aload_n X 0 rfl dX4_skipToEnd_13 ?_
    refine gx_getf X (pgm t0) lf_X4_24 (pg_lt _) (cl_pg _ _ _) (v := .int ((rdI g (pgm t0) 4))) rfl dX4_skipToEnd_14 ?_
    obtain ⟨q2, h⟩ := gdd_eq h
    refine gx_iast X (pgm t0 + 2) 121 (pg_lt2 _) (fun r => cl_pg2 _ r _) q2 dX4_skipToEnd_17 ?_
    obtain ⟨rfl, rfl⟩ := ret_eq h
    exact gx_vret X dX4_skipToEnd_18
theorem dX4_truth_0 : decode cX4_truth 0 = .ok (.iload_n 0, 1) := by decide +kernel
theorem dX4_truth_1 : decode cX4_truth 1 = .ok (.ifCond .eq 7, 3) := by decide +kernel
theorem dX4_truth_4 : decode cX4_truth 4 = .ok (.iconst 1, 1) := by decide +kernel
theorem dX4_truth_5 : decode cX4_truth 5 = .ok (.goto 4, 3) := by decide +kernel
theorem dX4_truth_8 : decode cX4_truth 8 = .ok (.iconst 0, 1) := by decide +kernel
theorem dX4_truth_9 : decode cX4_truth 9 = .ok (.ireturn, 1) := by decide +kernel
def m_X4_truth (a0 : Int32) (g : Mm) : Option (Int32 × Mm) := (if a0 = (0 : Int32) then some ((0 : Int32), g) else some ((1 : Int32), g))
set_option maxHeartbeats 2000000 in
theorem c_X4_truth {r2 : Int32} {g g2 : Mm} {a0 : Int32} (h : m_X4_truth a0 g = some (r2, g2)) : gx_M 1 yX4_truth cX4_truth 1 (some .int) (fun al => [.int (a0)]) g (some (.int r2)) g2 := by
  have hd : 1 ≤ 1 := Nat.le_refl _
  refine gx_M.of (by decide +kernel) (fun _ => Nat.le_of_ble_eq_true rfl) ?_
  intro p l e R s m args below meth c D al cI cJ A X
  refine gx_eq (pc' := 0) (ls' := [(0, .int (a0))]) (st' := []) (g' := g) ⟨rfl, rfl, rfl, rfl⟩ ?_
  unfold m_X4_truth at h
  refine gx_iload_n X 0 rfl dX4_truth_0 ?_
  refine gx_if_eq X 8 dX4_truth_1 (by decide) (fun q1 => ?_) (fun q1 => ?_)
  · replace h := (if_pos q1).symm.trans h
    refine gx_iconst X (v := (0 : Int32)) dX4_truth_8 (by decide) ?_
    obtain ⟨rfl, rfl⟩ := ret_eq h
    exact gx_iret X rfl dX4_truth_9
  · replace h := (if_neg q1).symm.trans h
    refine gx_iconst X (v := (1 : Int32)) dX4_truth_4 (by decide) ?_
    refine gx_goto X 9 dX4_truth_5 (by decide) ?_
    obtain ⟨rfl, rfl⟩ := ret_eq h
    exact gx_iret X rfl dX4_truth_9
theorem dX4_joined_0 : decode cX4_joined 0 = .ok (.iload_n 0, 1) := by decide +kernel
theorem dX4_joined_1 : decode cX4_joined 1 = .ok (.lookupswitch 203 #[(37, 191), (38, 108), (42, 175), (43, 167), (45, 171), (47, 179), (60, 125), (61, 139), (62, 153), (124, 91)], 91) := by decide +kernel
theorem dX4_joined_92 : decode cX4_joined 92 = .ok (.iload_n 1, 1) := by decide +kernel
theorem dX4_joined_93 : decode cX4_joined 93 = .ok (.ifCond .ne 7, 3) := by decide +kernel
theorem dX4_joined_96 : decode cX4_joined 96 = .ok (.iload_n 2, 1) := by decide +kernel
theorem dX4_joined_97 : decode cX4_joined 97 = .ok (.ifCond .eq 7, 3) := by decide +kernel
theorem dX4_joined_100 : decode cX4_joined 100 = .ok (.iconst 1, 1) := by decide +kernel
theorem dX4_joined_101 : decode cX4_joined 101 = .ok (.goto 4, 3) := by decide +kernel
theorem dX4_joined_104 : decode cX4_joined 104 = .ok (.iconst 0, 1) := by decide +kernel
theorem dX4_joined_105 : decode cX4_joined 105 = .ok (.invokestatic 28, 3) := by decide +kernel
theorem dX4_joined_108 : decode cX4_joined 108 = .ok (.ireturn, 1) := by decide +kernel
theorem dX4_joined_109 : decode cX4_joined 109 = .ok (.iload_n 1, 1) := by decide +kernel
theorem dX4_joined_110 : decode cX4_joined 110 = .ok (.ifCond .eq 11, 3) := by decide +kernel
theorem dX4_joined_113 : decode cX4_joined 113 = .ok (.iload_n 2, 1) := by decide +kernel
theorem dX4_joined_114 : decode cX4_joined 114 = .ok (.ifCond .eq 7, 3) := by decide +kernel
theorem dX4_joined_117 : decode cX4_joined 117 = .ok (.iconst 1, 1) := by decide +kernel
theorem dX4_joined_118 : decode cX4_joined 118 = .ok (.goto 4, 3) := by decide +kernel
theorem dX4_joined_121 : decode cX4_joined 121 = .ok (.iconst 0, 1) := by decide +kernel
theorem dX4_joined_122 : decode cX4_joined 122 = .ok (.invokestatic 28, 3) := by decide +kernel
theorem dX4_joined_125 : decode cX4_joined 125 = .ok (.ireturn, 1) := by decide +kernel
theorem dX4_joined_126 : decode cX4_joined 126 = .ok (.iload_n 1, 1) := by decide +kernel
theorem dX4_joined_127 : decode cX4_joined 127 = .ok (.iload_n 2, 1) := by decide +kernel
theorem dX4_joined_128 : decode cX4_joined 128 = .ok (.if_icmp .ge 7, 3) := by decide +kernel
theorem dX4_joined_131 : decode cX4_joined 131 = .ok (.iconst 1, 1) := by decide +kernel
theorem dX4_joined_132 : decode cX4_joined 132 = .ok (.goto 4, 3) := by decide +kernel
theorem dX4_joined_135 : decode cX4_joined 135 = .ok (.iconst 0, 1) := by decide +kernel
theorem dX4_joined_136 : decode cX4_joined 136 = .ok (.invokestatic 28, 3) := by decide +kernel
theorem dX4_joined_139 : decode cX4_joined 139 = .ok (.ireturn, 1) := by decide +kernel
theorem dX4_joined_140 : decode cX4_joined 140 = .ok (.iload_n 1, 1) := by decide +kernel
theorem dX4_joined_141 : decode cX4_joined 141 = .ok (.iload_n 2, 1) := by decide +kernel
theorem dX4_joined_142 : decode cX4_joined 142 = .ok (.if_icmp .ne 7, 3) := by decide +kernel
theorem dX4_joined_145 : decode cX4_joined 145 = .ok (.iconst 1, 1) := by decide +kernel
theorem dX4_joined_146 : decode cX4_joined 146 = .ok (.goto 4, 3) := by decide +kernel
theorem dX4_joined_149 : decode cX4_joined 149 = .ok (.iconst 0, 1) := by decide +kernel
theorem dX4_joined_150 : decode cX4_joined 150 = .ok (.invokestatic 28, 3) := by decide +kernel
theorem dX4_joined_153 : decode cX4_joined 153 = .ok (.ireturn, 1) := by decide +kernel
theorem dX4_joined_154 : decode cX4_joined 154 = .ok (.iload_n 1, 1) := by decide +kernel
theorem dX4_joined_155 : decode cX4_joined 155 = .ok (.iload_n 2, 1) := by decide +kernel
theorem dX4_joined_156 : decode cX4_joined 156 = .ok (.if_icmp .le 7, 3) := by decide +kernel
theorem dX4_joined_159 : decode cX4_joined 159 = .ok (.iconst 1, 1) := by decide +kernel
theorem dX4_joined_160 : decode cX4_joined 160 = .ok (.goto 4, 3) := by decide +kernel
theorem dX4_joined_163 : decode cX4_joined 163 = .ok (.iconst 0, 1) := by decide +kernel
theorem dX4_joined_164 : decode cX4_joined 164 = .ok (.invokestatic 28, 3) := by decide +kernel
theorem dX4_joined_167 : decode cX4_joined 167 = .ok (.ireturn, 1) := by decide +kernel
theorem dX4_joined_168 : decode cX4_joined 168 = .ok (.iload_n 1, 1) := by decide +kernel
theorem dX4_joined_169 : decode cX4_joined 169 = .ok (.iload_n 2, 1) := by decide +kernel
theorem dX4_joined_170 : decode cX4_joined 170 = .ok (.iadd, 1) := by decide +kernel
theorem dX4_joined_171 : decode cX4_joined 171 = .ok (.ireturn, 1) := by decide +kernel
theorem dX4_joined_172 : decode cX4_joined 172 = .ok (.iload_n 1, 1) := by decide +kernel
theorem dX4_joined_173 : decode cX4_joined 173 = .ok (.iload_n 2, 1) := by decide +kernel
theorem dX4_joined_174 : decode cX4_joined 174 = .ok (.isub, 1) := by decide +kernel
theorem dX4_joined_175 : decode cX4_joined 175 = .ok (.ireturn, 1) := by decide +kernel
theorem dX4_joined_176 : decode cX4_joined 176 = .ok (.iload_n 1, 1) := by decide +kernel
theorem dX4_joined_177 : decode cX4_joined 177 = .ok (.iload_n 2, 1) := by decide +kernel
theorem dX4_joined_178 : decode cX4_joined 178 = .ok (.imul, 1) := by decide +kernel
theorem dX4_joined_179 : decode cX4_joined 179 = .ok (.ireturn, 1) := by decide +kernel
theorem dX4_joined_180 : decode cX4_joined 180 = .ok (.iload_n 2, 1) := by decide +kernel
theorem dX4_joined_181 : decode cX4_joined 181 = .ok (.ifCond .ne 7, 3) := by decide +kernel
theorem dX4_joined_184 : decode cX4_joined 184 = .ok (.iconst 0, 1) := by decide +kernel
theorem dX4_joined_185 : decode cX4_joined 185 = .ok (.goto 6, 3) := by decide +kernel
theorem dX4_joined_188 : decode cX4_joined 188 = .ok (.iload_n 1, 1) := by decide +kernel
theorem dX4_joined_189 : decode cX4_joined 189 = .ok (.iload_n 2, 1) := by decide +kernel
theorem dX4_joined_190 : decode cX4_joined 190 = .ok (.idiv, 1) := by decide +kernel
theorem dX4_joined_191 : decode cX4_joined 191 = .ok (.ireturn, 1) := by decide +kernel
theorem dX4_joined_192 : decode cX4_joined 192 = .ok (.iload_n 2, 1) := by decide +kernel
theorem dX4_joined_193 : decode cX4_joined 193 = .ok (.ifCond .ne 7, 3) := by decide +kernel
theorem dX4_joined_196 : decode cX4_joined 196 = .ok (.iconst 0, 1) := by decide +kernel
theorem dX4_joined_197 : decode cX4_joined 197 = .ok (.goto 6, 3) := by decide +kernel
theorem dX4_joined_200 : decode cX4_joined 200 = .ok (.iload_n 1, 1) := by decide +kernel
theorem dX4_joined_201 : decode cX4_joined 201 = .ok (.iload_n 2, 1) := by decide +kernel
theorem dX4_joined_202 : decode cX4_joined 202 = .ok (.irem, 1) := by decide +kernel
theorem dX4_joined_203 : decode cX4_joined 203 = .ok (.ireturn, 1) := by decide +kernel
theorem dX4_joined_204 : decode cX4_joined 204 = .ok (.iconst 0, 1) := by decide +kernel
theorem dX4_joined_205 : decode cX4_joined 205 = .ok (.ireturn, 1) := by decide +kernel
def m_X4_joined_105 (k0 : Int32) (g : Mm) : Option (Int32 × Mm) := bdd (m_X4_truth k0 g) (fun ra1 ga2 => some (ra1, ga2))
set_option maxHeartbeats 2000000 in
theorem t_X4_joined_105 {r2 : Int32} {g2 : Mm} (X : gx_X p R s m args meth c D al cI cJ A RX4 cX4_joined 3 (some .int) d 0 0) (hd : 2 ≤ d) : ∀ (k0 : Int32) (g : Mm), m_X4_joined_105 k0 g = some (r2, g2) → gx_G p l e R s m args below meth c (gx_Q below args s D al cI cJ A (some (.int r2)) g2) D al cI cJ A 3 0 0 105 [] [.int (k0)] g := by
  intro k0 g h
  unfold m_X4_joined_105 at h
  obtain ⟨ra1, ga2, ca3, h⟩ := bdd_eq h
  refine gx_callSi X (c_X4_truth ca3) lc_X4_truth li_X4_truth lm_X4_28 rfl rfl (Nat.le_trans (by decide) hd) rfl (Nat.le_of_ble_eq_true rfl) dX4_joined_105 ?_
  obtain ⟨rfl, rfl⟩ := ret_eq h
  exact gx_iret X rfl dX4_joined_108
def m_X4_joined_122 (k0 : Int32) (g : Mm) : Option (Int32 × Mm) := bdd (m_X4_truth k0 g) (fun ra1 ga2 => some (ra1, ga2))
set_option maxHeartbeats 2000000 in
theorem t_X4_joined_122 {r2 : Int32} {g2 : Mm} (X : gx_X p R s m args meth c D al cI cJ A RX4 cX4_joined 3 (some .int) d 0 0) (hd : 2 ≤ d) : ∀ (k0 : Int32) (g : Mm), m_X4_joined_122 k0 g = some (r2, g2) → gx_G p l e R s m args below meth c (gx_Q below args s D al cI cJ A (some (.int r2)) g2) D al cI cJ A 3 0 0 122 [] [.int (k0)] g := by
  intro k0 g h
  unfold m_X4_joined_122 at h
  obtain ⟨ra1, ga2, ca3, h⟩ := bdd_eq h
  refine gx_callSi X (c_X4_truth ca3) lc_X4_truth li_X4_truth lm_X4_28 rfl rfl (Nat.le_trans (by decide) hd) rfl (Nat.le_of_ble_eq_true rfl) dX4_joined_122 ?_
  obtain ⟨rfl, rfl⟩ := ret_eq h
  exact gx_iret X rfl dX4_joined_125
def m_X4_joined_136 (k0 : Int32) (g : Mm) : Option (Int32 × Mm) := bdd (m_X4_truth k0 g) (fun ra1 ga2 => some (ra1, ga2))
set_option maxHeartbeats 2000000 in
theorem t_X4_joined_136 {r2 : Int32} {g2 : Mm} (X : gx_X p R s m args meth c D al cI cJ A RX4 cX4_joined 3 (some .int) d 0 0) (hd : 2 ≤ d) : ∀ (k0 : Int32) (g : Mm), m_X4_joined_136 k0 g = some (r2, g2) → gx_G p l e R s m args below meth c (gx_Q below args s D al cI cJ A (some (.int r2)) g2) D al cI cJ A 3 0 0 136 [] [.int (k0)] g := by
  intro k0 g h
  unfold m_X4_joined_136 at h
  obtain ⟨ra1, ga2, ca3, h⟩ := bdd_eq h
  refine gx_callSi X (c_X4_truth ca3) lc_X4_truth li_X4_truth lm_X4_28 rfl rfl (Nat.le_trans (by decide) hd) rfl (Nat.le_of_ble_eq_true rfl) dX4_joined_136 ?_
  obtain ⟨rfl, rfl⟩ := ret_eq h
  exact gx_iret X rfl dX4_joined_139
def m_X4_joined_150 (k0 : Int32) (g : Mm) : Option (Int32 × Mm) := bdd (m_X4_truth k0 g) (fun ra1 ga2 => some (ra1, ga2))
set_option maxHeartbeats 2000000 in
theorem t_X4_joined_150 {r2 : Int32} {g2 : Mm} (X : gx_X p R s m args meth c D al cI cJ A RX4 cX4_joined 3 (some .int) d 0 0) (hd : 2 ≤ d) : ∀ (k0 : Int32) (g : Mm), m_X4_joined_150 k0 g = some (r2, g2) → gx_G p l e R s m args below meth c (gx_Q below args s D al cI cJ A (some (.int r2)) g2) D al cI cJ A 3 0 0 150 [] [.int (k0)] g := by
  intro k0 g h
  unfold m_X4_joined_150 at h
  obtain ⟨ra1, ga2, ca3, h⟩ := bdd_eq h
  refine gx_callSi X (c_X4_truth ca3) lc_X4_truth li_X4_truth lm_X4_28 rfl rfl (Nat.le_trans (by decide) hd) rfl (Nat.le_of_ble_eq_true rfl) dX4_joined_150 ?_
  obtain ⟨rfl, rfl⟩ := ret_eq h
  exact gx_iret X rfl dX4_joined_153
def m_X4_joined_164 (k0 : Int32) (g : Mm) : Option (Int32 × Mm) := bdd (m_X4_truth k0 g) (fun ra1 ga2 => some (ra1, ga2))
set_option maxHeartbeats 2000000 in
theorem t_X4_joined_164 {r2 : Int32} {g2 : Mm} (X : gx_X p R s m args meth c D al cI cJ A RX4 cX4_joined 3 (some .int) d 0 0) (hd : 2 ≤ d) : ∀ (k0 : Int32) (g : Mm), m_X4_joined_164 k0 g = some (r2, g2) → gx_G p l e R s m args below meth c (gx_Q below args s D al cI cJ A (some (.int r2)) g2) D al cI cJ A 3 0 0 164 [] [.int (k0)] g := by
  intro k0 g h
  unfold m_X4_joined_164 at h
  obtain ⟨ra1, ga2, ca3, h⟩ := bdd_eq h
  refine gx_callSi X (c_X4_truth ca3) lc_X4_truth li_X4_truth lm_X4_28 rfl rfl (Nat.le_trans (by decide) hd) rfl (Nat.le_of_ble_eq_true rfl) dX4_joined_164 ?_
  obtain ⟨rfl, rfl⟩ := ret_eq h
  exact gx_iret X rfl dX4_joined_167
def m_X4_joined (a0 : Int32) (a1 : Int32) (a2 : Int32) (g : Mm) : Option (Int32 × Mm) := (if a0 = (37 : Int32) then (if a2 = (0 : Int32) then some ((0 : Int32), g) else gdd (decide (¬ a2 = 0)) (some ((rmI a1 a2), g))) else if a0 = (38 : Int32) then (if a1 = (0 : Int32) then m_X4_joined_122 (0 : Int32) g else (if a2 = (0 : Int32) then m_X4_joined_122 (0 : Int32) g else m_X4_joined_122 (1 : Int32) g)) else if a0 = (42 : Int32) then some ((a1 * a2), g) else if a0 = (43 : Int32) then some ((a1 + a2), g) else if a0 = (45 : Int32) then some ((a1 - a2), g) else if a0 = (47 : Int32) then (if a2 = (0 : Int32) then some ((0 : Int32), g) else gdd (decide (¬ a2 = 0)) (some ((a1 / a2), g))) else if a0 = (60 : Int32) then (if a2 ≤ a1 then m_X4_joined_136 (0 : Int32) g else m_X4_joined_136 (1 : Int32) g) else if a0 = (61 : Int32) then (if a1 = a2 then m_X4_joined_150 (1 : Int32) g else m_X4_joined_150 (0 : Int32) g) else if a0 = (62 : Int32) then (if a1 ≤ a2 then m_X4_joined_164 (0 : Int32) g else m_X4_joined_164 (1 : Int32) g) else if a0 = (124 : Int32) then (if a1 = (0 : Int32) then (if a2 = (0 : Int32) then m_X4_joined_105 (0 : Int32) g else m_X4_joined_105 (1 : Int32) g) else m_X4_joined_105 (1 : Int32) g) else some ((0 : Int32), g))
set_option maxHeartbeats 2000000 in
theorem c_X4_joined {r2 : Int32} {g g2 : Mm} {a0 : Int32} {a1 : Int32} {a2 : Int32} (h : m_X4_joined a0 a1 a2 g = some (r2, g2)) : gx_M 2 yX4_joined cX4_joined 3 (some .int) (fun al => [.int (a0), .int (a1), .int (a2)]) g (some (.int r2)) g2 := by
  have hd : 2 ≤ 2 := Nat.le_refl _
  refine gx_M.of (by decide +kernel) (fun _ => Nat.le_of_ble_eq_true rfl) ?_
  intro p l e R s m args below meth c D al cI cJ A X
  refine gx_eq (pc' := 0) (ls' := [(0, .int (a0)), (1, .int (a1)), (2, .int (a2))]) (st' := []) (g' := g) ⟨rfl, rfl, rfl, rfl⟩ ?_
  unfold m_X4_joined at h
  refine gx_iload_n X 0 rfl dX4_joined_0 ?_
  by_cases q1 : a0 = (37 : Int32)
  · replace h := (if_pos q1).symm.trans h
    refine gx_look (off := 191) 192 X dX4_joined_1 (by decide) (by rw [q1] <;> rfl) (by decide) ?_
    refine gx_iload_n X 2 rfl dX4_joined_192 ?_
    refine gx_if_ne X 200 dX4_joined_193 (by decide) (fun q2 => ?_) (fun q2 => ?_)
    · replace h := (if_neg q2).symm.trans h
      refine gx_iload_n X 1 rfl dX4_joined_200 ?_
      refine gx_iload_n X 2 rfl dX4_joined_201 ?_
      obtain ⟨q3, h⟩ := gdd_eq h
      refine gx_irem X dX4_joined_202 (of_decide_eq_true q3) ?_
      obtain ⟨rfl, rfl⟩ := ret_eq h
      exact gx_iret X rfl dX4_joined_203
    · replace h := (if_pos q2).symm.trans h
      refine gx_iconst X (v := (0 : Int32)) dX4_joined_196 (by decide) ?_
      refine gx_goto X 203 dX4_joined_197 (by decide) ?_
      obtain ⟨rfl, rfl⟩ := ret_eq h
      exact gx_iret X rfl dX4_joined_203
  · replace h := (if_neg q1).symm.trans h
    by_cases q4 : a0 = (38 : Int32)
    · replace h := (if_pos q4).symm.trans h
      refine gx_look (off := 108) 109 X dX4_joined_1 (by decide) ((lv_osw q1 (by decide)).trans (by rw [q4] <;> rfl)) (by decide) ?_
      refine gx_iload_n X 1 rfl dX4_joined_109 ?_
      refine gx_if_eq X 121 dX4_joined_110 (by decide) (fun q5 => ?_) (fun q5 => ?_)
      · replace h := (if_pos q5).symm.trans h
        refine gx_iconst X (v := (0 : Int32)) dX4_joined_121 (by decide) ?_
        exact gx_sub [] rfl (t_X4_joined_122 X hd (0 : Int32) g h)
      · replace h := (if_neg q5).symm.trans h
        refine gx_iload_n X 2 rfl dX4_joined_113 ?_
        refine gx_if_eq X 121 dX4_joined_114 (by decide) (fun q6 => ?_) (fun q6 => ?_)
        · replace h := (if_pos q6).symm.trans h
          refine gx_iconst X (v := (0 : Int32)) dX4_joined_121 (by decide) ?_
          exact gx_sub [] rfl (t_X4_joined_122 X hd (0 : Int32) g h)
        · replace h := (if_neg q6).symm.trans h
          refine gx_iconst X (v := (1 : Int32)) dX4_joined_117 (by decide) ?_
          refine gx_goto X 122 dX4_joined_118 (by decide) ?_
          exact gx_sub [] rfl (t_X4_joined_122 X hd (1 : Int32) g h)
    · replace h := (if_neg q4).symm.trans h
      by_cases q7 : a0 = (42 : Int32)
      · replace h := (if_pos q7).symm.trans h
        refine gx_look (off := 175) 176 X dX4_joined_1 (by decide) ((lv_osw q1 (by decide)).trans ((lv_osw q4 (by decide)).trans (by rw [q7] <;> rfl))) (by decide) ?_
        refine gx_iload_n X 1 rfl dX4_joined_176 ?_
        refine gx_iload_n X 2 rfl dX4_joined_177 ?_
        refine gx_imul X dX4_joined_178 ?_
        obtain ⟨rfl, rfl⟩ := ret_eq h
        exact gx_iret X rfl dX4_joined_179
      · replace h := (if_neg q7).symm.trans h
        by_cases q8 : a0 = (43 : Int32)
        · replace h := (if_pos q8).symm.trans h
          refine gx_look (off := 167) 168 X dX4_joined_1 (by decide) ((lv_osw q1 (by decide)).trans ((lv_osw q4 (by decide)).trans ((lv_osw q7 (by decide)).trans (by rw [q8] <;> rfl)))) (by decide) ?_
          refine gx_iload_n X 1 rfl dX4_joined_168 ?_
          refine gx_iload_n X 2 rfl dX4_joined_169 ?_
          refine gx_iadd X dX4_joined_170 ?_
          obtain ⟨rfl, rfl⟩ := ret_eq h
          exact gx_iret X rfl dX4_joined_171
        · replace h := (if_neg q8).symm.trans h
          by_cases q9 : a0 = (45 : Int32)
          · replace h := (if_pos q9).symm.trans h
            refine gx_look (off := 171) 172 X dX4_joined_1 (by decide) ((lv_osw q1 (by decide)).trans ((lv_osw q4 (by decide)).trans ((lv_osw q7 (by decide)).trans ((lv_osw q8 (by decide)).trans (by rw [q9] <;> rfl))))) (by decide) ?_
            refine gx_iload_n X 1 rfl dX4_joined_172 ?_
            refine gx_iload_n X 2 rfl dX4_joined_173 ?_
            refine gx_isub X dX4_joined_174 ?_
            obtain ⟨rfl, rfl⟩ := ret_eq h
            exact gx_iret X rfl dX4_joined_175
          · replace h := (if_neg q9).symm.trans h
            by_cases q10 : a0 = (47 : Int32)
            · replace h := (if_pos q10).symm.trans h
              refine gx_look (off := 179) 180 X dX4_joined_1 (by decide) ((lv_osw q1 (by decide)).trans ((lv_osw q4 (by decide)).trans ((lv_osw q7 (by decide)).trans ((lv_osw q8 (by decide)).trans ((lv_osw q9 (by decide)).trans (by rw [q10] <;> rfl)))))) (by decide) ?_
              refine gx_iload_n X 2 rfl dX4_joined_180 ?_
              refine gx_if_ne X 188 dX4_joined_181 (by decide) (fun q11 => ?_) (fun q11 => ?_)
              · replace h := (if_neg q11).symm.trans h
                refine gx_iload_n X 1 rfl dX4_joined_188 ?_
                refine gx_iload_n X 2 rfl dX4_joined_189 ?_
                obtain ⟨q12, h⟩ := gdd_eq h
                refine gx_idiv X dX4_joined_190 (of_decide_eq_true q12) ?_
                obtain ⟨rfl, rfl⟩ := ret_eq h
                exact gx_iret X rfl dX4_joined_191
              · replace h := (if_pos q11).symm.trans h
                refine gx_iconst X (v := (0 : Int32)) dX4_joined_184 (by decide) ?_
                refine gx_goto X 191 dX4_joined_185 (by decide) ?_
                obtain ⟨rfl, rfl⟩ := ret_eq h
                exact gx_iret X rfl dX4_joined_191
            · replace h := (if_neg q10).symm.trans h
              by_cases q13 : a0 = (60 : Int32)
              · replace h := (if_pos q13).symm.trans h
                refine gx_look (off := 125) 126 X dX4_joined_1 (by decide) ((lv_osw q1 (by decide)).trans ((lv_osw q4 (by decide)).trans ((lv_osw q7 (by decide)).trans ((lv_osw q8 (by decide)).trans ((lv_osw q9 (by decide)).trans ((lv_osw q10 (by decide)).trans (by rw [q13] <;> rfl))))))) (by decide) ?_
                refine gx_iload_n X 1 rfl dX4_joined_126 ?_
                refine gx_iload_n X 2 rfl dX4_joined_127 ?_
                refine gx_icmp_ge X 135 dX4_joined_128 (by decide) (fun q14 => ?_) (fun q14 => ?_)
                · replace h := (if_pos q14).symm.trans h
                  refine gx_iconst X (v := (0 : Int32)) dX4_joined_135 (by decide) ?_
                  exact gx_sub [] rfl (t_X4_joined_136 X hd (0 : Int32) g h)
                · replace h := (if_neg q14).symm.trans h
                  refine gx_iconst X (v := (1 : Int32)) dX4_joined_131 (by decide) ?_
                  refine gx_goto X 136 dX4_joined_132 (by decide) ?_
                  exact gx_sub [] rfl (t_X4_joined_136 X hd (1 : Int32) g h)
              · replace h := (if_neg q13).symm.trans h
                by_cases q15 : a0 = (61 : Int32)
                · replace h := (if_pos q15).symm.trans h
                  refine gx_look (off := 139) 140 X dX4_joined_1 (by decide) ((lv_osw q1 (by decide)).trans ((lv_osw q4 (by decide)).trans ((lv_osw q7 (by decide)).trans ((lv_osw q8 (by decide)).trans ((lv_osw q9 (by decide)).trans ((lv_osw q10 (by decide)).trans ((lv_osw q13 (by decide)).trans (by rw [q15] <;> rfl)))))))) (by decide) ?_
                  refine gx_iload_n X 1 rfl dX4_joined_140 ?_
                  refine gx_iload_n X 2 rfl dX4_joined_141 ?_
                  refine gx_icmp_ne X 149 dX4_joined_142 (by decide) (fun q16 => ?_) (fun q16 => ?_)
                  · replace h := (if_neg q16).symm.trans h
                    refine gx_iconst X (v := (0 : Int32)) dX4_joined_149 (by decide) ?_
                    exact gx_sub [] rfl (t_X4_joined_150 X hd (0 : Int32) g h)
                  · replace h := (if_pos q16).symm.trans h
                    refine gx_iconst X (v := (1 : Int32)) dX4_joined_145 (by decide) ?_
                    refine gx_goto X 150 dX4_joined_146 (by decide) ?_
                    exact gx_sub [] rfl (t_X4_joined_150 X hd (1 : Int32) g h)
                · replace h := (if_neg q15).symm.trans h
                  by_cases q17 : a0 = (62 : Int32)
                  · replace h := (if_pos q17).symm.trans h
                    refine gx_look (off := 153) 154 X dX4_joined_1 (by decide) ((lv_osw q1 (by decide)).trans ((lv_osw q4 (by decide)).trans ((lv_osw q7 (by decide)).trans ((lv_osw q8 (by decide)).trans ((lv_osw q9 (by decide)).trans ((lv_osw q10 (by decide)).trans ((lv_osw q13 (by decide)).trans ((lv_osw q15 (by decide)).trans (by rw [q17] <;> rfl))))))))) (by decide) ?_
                    refine gx_iload_n X 1 rfl dX4_joined_154 ?_
                    refine gx_iload_n X 2 rfl dX4_joined_155 ?_
                    refine gx_icmp_le X 163 dX4_joined_156 (by decide) (fun q18 => ?_) (fun q18 => ?_)
                    · replace h := (if_pos q18).symm.trans h
                      refine gx_iconst X (v := (0 : Int32)) dX4_joined_163 (by decide) ?_
                      exact gx_sub [] rfl (t_X4_joined_164 X hd (0 : Int32) g h)
                    · replace h := (if_neg q18).symm.trans h
                      refine gx_iconst X (v := (1 : Int32)) dX4_joined_159 (by decide) ?_
                      refine gx_goto X 164 dX4_joined_160 (by decide) ?_
                      exact gx_sub [] rfl (t_X4_joined_164 X hd (1 : Int32) g h)
                  · replace h := (if_neg q17).symm.trans h
                    by_cases q19 : a0 = (124 : Int32)
                    · replace h := (if_pos q19).symm.trans h
                      refine gx_look (off := 91) 92 X dX4_joined_1 (by decide) ((lv_osw q1 (by decide)).trans ((lv_osw q4 (by decide)).trans ((lv_osw q7 (by decide)).trans ((lv_osw q8 (by decide)).trans ((lv_osw q9 (by decide)).trans ((lv_osw q10 (by decide)).trans ((lv_osw q13 (by decide)).trans ((lv_osw q15 (by decide)).trans ((lv_osw q17 (by decide)).trans (by rw [q19] <;> rfl)))))))))) (by decide) ?_
                      refine gx_iload_n X 1 rfl dX4_joined_92 ?_
                      refine gx_if_ne X 100 dX4_joined_93 (by decide) (fun q20 => ?_) (fun q20 => ?_)
                      · replace h := (if_neg q20).symm.trans h
                        refine gx_iconst X (v := (1 : Int32)) dX4_joined_100 (by decide) ?_
                        refine gx_goto X 105 dX4_joined_101 (by decide) ?_
                        exact gx_sub [] rfl (t_X4_joined_105 X hd (1 : Int32) g h)
                      · replace h := (if_pos q20).symm.trans h
                        refine gx_iload_n X 2 rfl dX4_joined_96 ?_
                        refine gx_if_eq X 104 dX4_joined_97 (by decide) (fun q21 => ?_) (fun q21 => ?_)
                        · replace h := (if_pos q21).symm.trans h
                          refine gx_iconst X (v := (0 : Int32)) dX4_joined_104 (by decide) ?_
                          exact gx_sub [] rfl (t_X4_joined_105 X hd (0 : Int32) g h)
                        · replace h := (if_neg q21).symm.trans h
                          refine gx_iconst X (v := (1 : Int32)) dX4_joined_100 (by decide) ?_
                          refine gx_goto X 105 dX4_joined_101 (by decide) ?_
                          exact gx_sub [] rfl (t_X4_joined_105 X hd (1 : Int32) g h)
                    · replace h := (if_neg q19).symm.trans h
                      refine gx_look (off := 203) 204 X dX4_joined_1 (by decide) ((lv_osw q1 (by decide)).trans ((lv_osw q4 (by decide)).trans ((lv_osw q7 (by decide)).trans ((lv_osw q8 (by decide)).trans ((lv_osw q9 (by decide)).trans ((lv_osw q10 (by decide)).trans ((lv_osw q13 (by decide)).trans ((lv_osw q15 (by decide)).trans ((lv_osw q17 (by decide)).trans ((lv_osw q19 (by decide)).trans (rfl))))))))))) (by decide) ?_
                      refine gx_iconst X (v := (0 : Int32)) dX4_joined_204 (by decide) ?_
                      obtain ⟨rfl, rfl⟩ := ret_eq h
                      exact gx_iret X rfl dX4_joined_205
theorem dX4_name_0 : decode cX4_name 0 = .ok (.aload_n 0, 1) := by decide +kernel
theorem dX4_name_1 : decode cX4_name 1 = .ok (.getfield 21, 3) := by decide +kernel
theorem dX4_name_4 : decode cX4_name 4 = .ok (.iconst 0, 1) := by decide +kernel
theorem dX4_name_5 : decode cX4_name 5 = .ok (.iload_n 1, 1) := by decide +kernel
theorem dX4_name_6 : decode cX4_name 6 = .ok (.iastore, 1) := by decide +kernel
theorem dX4_name_7 : decode cX4_name 7 = .ok (.aload_n 0, 1) := by decide +kernel
theorem dX4_name_8 : decode cX4_name 8 = .ok (.getfield 21, 3) := by decide +kernel
theorem dX4_name_11 : decode cX4_name 11 = .ok (.iconst 1, 1) := by decide +kernel
theorem dX4_name_12 : decode cX4_name 12 = .ok (.iload_n 2, 1) := by decide +kernel
theorem dX4_name_13 : decode cX4_name 13 = .ok (.iastore, 1) := by decide +kernel
theorem dX4_name_14 : decode cX4_name 14 = .ok (.aload_n 0, 1) := by decide +kernel
theorem dX4_name_15 : decode cX4_name 15 = .ok (.getfield 21, 3) := by decide +kernel
theorem dX4_name_18 : decode cX4_name 18 = .ok (.iconst 2, 1) := by decide +kernel
theorem dX4_name_19 : decode cX4_name 19 = .ok (.iload_n 3, 1) := by decide +kernel
theorem dX4_name_20 : decode cX4_name 20 = .ok (.iastore, 1) := by decide +kernel
theorem dX4_name_21 : decode cX4_name 21 = .ok (.aload_n 0, 1) := by decide +kernel
theorem dX4_name_22 : decode cX4_name 22 = .ok (.getfield 21, 3) := by decide +kernel
theorem dX4_name_25 : decode cX4_name 25 = .ok (.iconst 3, 1) := by decide +kernel
theorem dX4_name_26 : decode cX4_name 26 = .ok (.iload 4, 2) := by decide +kernel
theorem dX4_name_28 : decode cX4_name 28 = .ok (.iastore, 1) := by decide +kernel
theorem dX4_name_29 : decode cX4_name 29 = .ok (.aload_n 0, 1) := by decide +kernel
theorem dX4_name_30 : decode cX4_name 30 = .ok (.getfield 21, 3) := by decide +kernel
theorem dX4_name_33 : decode cX4_name 33 = .ok (.iconst 4, 1) := by decide +kernel
theorem dX4_name_34 : decode cX4_name 34 = .ok (.iload 5, 2) := by decide +kernel
theorem dX4_name_36 : decode cX4_name 36 = .ok (.iastore, 1) := by decide +kernel
theorem dX4_name_37 : decode cX4_name 37 = .ok (.aload_n 0, 1) := by decide +kernel
theorem dX4_name_38 : decode cX4_name 38 = .ok (.getfield 21, 3) := by decide +kernel
theorem dX4_name_41 : decode cX4_name 41 = .ok (.iconst 5, 1) := by decide +kernel
theorem dX4_name_42 : decode cX4_name 42 = .ok (.iload 6, 2) := by decide +kernel
theorem dX4_name_44 : decode cX4_name 44 = .ok (.iastore, 1) := by decide +kernel
theorem dX4_name_45 : decode cX4_name 45 = .ok (.return_, 1) := by decide +kernel
def m_X4_name (t0 : Int32) (a1 : Int32) (a2 : Int32) (a3 : Int32) (a4 : Int32) (a5 : Int32) (a6 : Int32) (g : Mm) : Option (Int32 × Mm) := gdd (ixo (0 : Int32) 6) (gdd (ixo (1 : Int32) 6) (gdd (ixo (2 : Int32) 6) (gdd (ixo (3 : Int32) 6) (gdd (ixo (4 : Int32) 6) (gdd (ixo (5 : Int32) 6) (some ((0 : Int32), (wrI (wrI (wrI (wrI (wrI (wrI g (pgm t0 + 4) (0 : Int32).toNatClampNeg a1) (pgm t0 + 4) (1 : Int32).toNatClampNeg a2) (pgm t0 + 4) (2 : Int32).toNatClampNeg a3) (pgm t0 + 4) (3 : Int32).toNatClampNeg a4) (pgm t0 + 4) (4 : Int32).toNatClampNeg a5) (pgm t0 + 4) (5 : Int32).toNatClampNeg a6))))))))
set_option maxHeartbeats 2000000 in
theorem c_X4_name {r2 : Int32} {g g2 : Mm} {t0 : Int32} {a1 : Int32} {a2 : Int32} {a3 : Int32} {a4 : Int32} {a5 : Int32} {a6 : Int32} (h : m_X4_name t0 a1 a2 a3 a4 a5 a6 g = some (r2, g2)) : gx_M 1 yX4_name cX4_name 7 none (fun al => [.ref (al (pgm t0)), .int (a1), .int (a2), .int (a3), .int (a4), .int (a5), .int (a6)]) g none g2 := by
  have hd : 1 ≤ 1 := Nat.le_refl _
  refine gx_M.of (by decide +kernel) (fun _ => Nat.le_of_ble_eq_true rfl) ?_
  intro p l e R s m args below meth c D al cI cJ A X
  refine gx_eq (pc' := 0) (ls' := [(0, .ref (al (pgm t0))), (1, .int (a1)), (2, .int (a2)), (3, .int (a3)), (4, .int (a4)), (5, .int (a5)), (6, .int (a6))]) (st' := []) (g' := g) ⟨rfl, rfl, rfl, rfl⟩ ?_
  unfold m_X4_name at h
  refine gx_aload_n X 0 rfl dX4_name_0 ?_
  refine gx_getf X (pgm t0) lf_X4_21 (pg_lt _) (cl_pg _ _ _) (v := .ref (al (pgm t0 + 4))) rfl dX4_name_1 ?_
  refine gx_iconst X (v := (0 : Int32)) dX4_name_4 (by decide) ?_
  refine gx_iload_n X 1 rfl dX4_name_5 ?_
  obtain ⟨q1, h⟩ := gdd_eq h
  refine gx_iast X (pgm t0 + 4) 6 (pg_lt4 _) (fun r => cl_pg4 _ r _) q1 dX4_name_6 ?_
  refine gx_aload_n X 0 rfl dX4_name_7 ?_
  refine gx_getf X (pgm t0) lf_X4_21 (pg_lt _) (cl_pg _ _ _) (v := .ref (al (pgm t0 + 4))) rfl dX4_name_8 ?_
  refine gx_iconst X (v := (1 : Int32)) dX4_name_11 (by decide) ?_
  refine gx_iload_n X 2 rfl dX4_name_12 ?_
  obtain ⟨q2, h⟩ := gdd_eq h
  refine gx_iast X (pgm t0 + 4) 6 (pg_lt4 _) (fun r => cl_pg4 _ r _) q2 dX4_name_13 ?_
  refine gx_aload_n X 0 rfl dX4_name_14 ?_
  refine gx_getf X (pgm t0) lf_X4_21 (pg_lt _) (cl_pg _ _ _) (v := .ref (al (pgm t0 + 4))) rfl dX4_name_15 ?_
  refine gx_iconst X (v := (2 : Int32)) dX4_name_18 (by decide) ?_
  refine gx_iload_n X 3 rfl dX4_name_19 ?_
  obtain ⟨q3, h⟩ := gdd_eq h
  refine gx_iast X (pgm t0 + 4) 6 (pg_lt4 _) (fun r => cl_pg4 _ r _) q3 dX4_name_20 ?_
  refine gx_aload_n X 0 rfl dX4_name_21 ?_
  refine gx_getf X (pgm t0) lf_X4_21 (pg_lt _) (cl_pg _ _ _) (v := .ref (al (pgm t0 + 4))) rfl dX4_name_22 ?_
  refine gx_iconst X (v := (3 : Int32)) dX4_name_25 (by decide) ?_
  refine gx_iload X 4 rfl dX4_name_26 ?_
  obtain ⟨q4, h⟩ := gdd_eq h
  refine gx_iast X (pgm t0 + 4) 6 (pg_lt4 _) (fun r => cl_pg4 _ r _) q4 dX4_name_28 ?_
  refine gx_aload_n X 0 rfl dX4_name_29 ?_
  refine gx_getf X (pgm t0) lf_X4_21 (pg_lt _) (cl_pg _ _ _) (v := .ref (al (pgm t0 + 4))) rfl dX4_name_30 ?_
  refine gx_iconst X (v := (4 : Int32)) dX4_name_33 (by decide) ?_
  refine gx_iload X 5 rfl dX4_name_34 ?_
  obtain ⟨q5, h⟩ := gdd_eq h
  refine gx_iast X (pgm t0 + 4) 6 (pg_lt4 _) (fun r => cl_pg4 _ r _) q5 dX4_name_36 ?_
  refine gx_aload_n X 0 rfl dX4_name_37 ?_
  refine gx_getf X (pgm t0) lf_X4_21 (pg_lt _) (cl_pg _ _ _) (v := .ref (al (pgm t0 + 4))) rfl dX4_name_38 ?_
  refine gx_iconst X (v := (5 : Int32)) dX4_name_41 (by decide) ?_
  refine gx_iload X 6 rfl dX4_name_42 ?_
  obtain ⟨q6, h⟩ := gdd_eq h
  refine gx_iast X (pgm t0 + 4) 6 (pg_lt4 _) (fun r => cl_pg4 _ r _) q6 dX4_name_44 ?_
  obtain ⟨rfl, rfl⟩ := ret_eq h
  exact gx_vret X dX4_name_45
theorem dX4_work_0 : decode cX4_work 0 = .ok (.iconst 0, 1) := by decide +kernel
theorem dX4_work_1 : decode cX4_work 1 = .ok (.istore_n 1, 1) := by decide +kernel
theorem dX4_work_2 : decode cX4_work 2 = .ok (.iconst 0, 1) := by decide +kernel
theorem dX4_work_3 : decode cX4_work 3 = .ok (.istore_n 2, 1) := by decide +kernel
theorem dX4_work_4 : decode cX4_work 4 = .ok (.iconst 0, 1) := by decide +kernel
theorem dX4_work_5 : decode cX4_work 5 = .ok (.istore_n 3, 1) := by decide +kernel
theorem dX4_work_6 : decode cX4_work 6 = .ok (.iload_n 3, 1) := by decide +kernel
theorem dX4_work_7 : decode cX4_work 7 = .ok (.aload_n 0, 1) := by decide +kernel
theorem dX4_work_8 : decode cX4_work 8 = .ok (.getfield 24, 3) := by decide +kernel
theorem dX4_work_11 : decode cX4_work 11 = .ok (.if_icmp .ge 227, 3) := by decide +kernel
theorem dX4_work_14 : decode cX4_work 14 = .ok (.aload_n 0, 1) := by decide +kernel
theorem dX4_work_15 : decode cX4_work 15 = .ok (.getfield 11, 3) := by decide +kernel
theorem dX4_work_18 : decode cX4_work 18 = .ok (.iload_n 3, 1) := by decide +kernel
theorem dX4_work_19 : decode cX4_work 19 = .ok (.iaload, 1) := by decide +kernel
theorem dX4_work_20 : decode cX4_work 20 = .ok (.istore 4, 2) := by decide +kernel
theorem dX4_work_22 : decode cX4_work 22 = .ok (.iload_n 3, 1) := by decide +kernel
theorem dX4_work_23 : decode cX4_work 23 = .ok (.iload_n 2, 1) := by decide +kernel
theorem dX4_work_24 : decode cX4_work 24 = .ok (.if_icmp .ge 6, 3) := by decide +kernel
theorem dX4_work_27 : decode cX4_work 27 = .ok (.goto 205, 3) := by decide +kernel
theorem dX4_work_30 : decode cX4_work 30 = .ok (.iload 4, 2) := by decide +kernel
theorem dX4_work_32 : decode cX4_work 32 = .ok (.iconst 1, 1) := by decide +kernel
theorem dX4_work_33 : decode cX4_work 33 = .ok (.if_icmp .eq 9, 3) := by decide +kernel
theorem dX4_work_36 : decode cX4_work 36 = .ok (.iload 4, 2) := by decide +kernel
theorem dX4_work_38 : decode cX4_work 38 = .ok (.iconst 2, 1) := by decide +kernel
theorem dX4_work_39 : decode cX4_work 39 = .ok (.if_icmp .ne 41, 3) := by decide +kernel
theorem dX4_work_42 : decode cX4_work 42 = .ok (.aload_n 0, 1) := by decide +kernel
theorem dX4_work_43 : decode cX4_work 43 = .ok (.getfield 18, 3) := by decide +kernel
theorem dX4_work_46 : decode cX4_work 46 = .ok (.iload_n 1, 1) := by decide +kernel
theorem dX4_work_47 : decode cX4_work 47 = .ok (.iload 4, 2) := by decide +kernel
theorem dX4_work_49 : decode cX4_work 49 = .ok (.iconst 1, 1) := by decide +kernel
theorem dX4_work_50 : decode cX4_work 50 = .ok (.if_icmp .ne 12, 3) := by decide +kernel
theorem dX4_work_53 : decode cX4_work 53 = .ok (.aload_n 0, 1) := by decide +kernel
theorem dX4_work_54 : decode cX4_work 54 = .ok (.getfield 15, 3) := by decide +kernel
theorem dX4_work_57 : decode cX4_work 57 = .ok (.iload_n 3, 1) := by decide +kernel
theorem dX4_work_58 : decode cX4_work 58 = .ok (.iaload, 1) := by decide +kernel
theorem dX4_work_59 : decode cX4_work 59 = .ok (.goto 14, 3) := by decide +kernel
theorem dX4_work_62 : decode cX4_work 62 = .ok (.aload_n 0, 1) := by decide +kernel
theorem dX4_work_63 : decode cX4_work 63 = .ok (.getfield 21, 3) := by decide +kernel
theorem dX4_work_66 : decode cX4_work 66 = .ok (.aload_n 0, 1) := by decide +kernel
theorem dX4_work_67 : decode cX4_work 67 = .ok (.getfield 15, 3) := by decide +kernel
theorem dX4_work_70 : decode cX4_work 70 = .ok (.iload_n 3, 1) := by decide +kernel
theorem dX4_work_71 : decode cX4_work 71 = .ok (.iaload, 1) := by decide +kernel
theorem dX4_work_72 : decode cX4_work 72 = .ok (.iaload, 1) := by decide +kernel
theorem dX4_work_73 : decode cX4_work 73 = .ok (.iastore, 1) := by decide +kernel
theorem dX4_work_74 : decode cX4_work 74 = .ok (.iinc 1 1, 3) := by decide +kernel
theorem dX4_work_77 : decode cX4_work 77 = .ok (.goto 155, 3) := by decide +kernel
theorem dX4_work_80 : decode cX4_work 80 = .ok (.iload_n 1, 1) := by decide +kernel
theorem dX4_work_81 : decode cX4_work 81 = .ok (.iconst 1, 1) := by decide +kernel
theorem dX4_work_82 : decode cX4_work 82 = .ok (.if_icmp .ge 5, 3) := by decide +kernel
theorem dX4_work_85 : decode cX4_work 85 = .ok (.iconst 0, 1) := by decide +kernel
theorem dX4_work_86 : decode cX4_work 86 = .ok (.ireturn, 1) := by decide +kernel
theorem dX4_work_87 : decode cX4_work 87 = .ok (.iload 4, 2) := by decide +kernel
theorem dX4_work_89 : decode cX4_work 89 = .ok (.bipush 6, 2) := by decide +kernel
theorem dX4_work_91 : decode cX4_work 91 = .ok (.if_icmp .ne 12, 3) := by decide +kernel
theorem dX4_work_94 : decode cX4_work 94 = .ok (.aload_n 0, 1) := by decide +kernel
theorem dX4_work_95 : decode cX4_work 95 = .ok (.getfield 18, 3) := by decide +kernel
theorem dX4_work_98 : decode cX4_work 98 = .ok (.iload_n 1, 1) := by decide +kernel
theorem dX4_work_99 : decode cX4_work 99 = .ok (.iconst 1, 1) := by decide +kernel
theorem dX4_work_100 : decode cX4_work 100 = .ok (.isub, 1) := by decide +kernel
theorem dX4_work_101 : decode cX4_work 101 = .ok (.iaload, 1) := by decide +kernel
theorem dX4_work_102 : decode cX4_work 102 = .ok (.ireturn, 1) := by decide +kernel
theorem dX4_work_103 : decode cX4_work 103 = .ok (.iload 4, 2) := by decide +kernel
theorem dX4_work_105 : decode cX4_work 105 = .ok (.iconst 5, 1) := by decide +kernel
theorem dX4_work_106 : decode cX4_work 106 = .ok (.if_icmp .ne 29, 3) := by decide +kernel
theorem dX4_work_109 : decode cX4_work 109 = .ok (.iinc 1 (-1), 3) := by decide +kernel
theorem dX4_work_112 : decode cX4_work 112 = .ok (.aload_n 0, 1) := by decide +kernel
theorem dX4_work_113 : decode cX4_work 113 = .ok (.getfield 18, 3) := by decide +kernel
theorem dX4_work_116 : decode cX4_work 116 = .ok (.iload_n 1, 1) := by decide +kernel
theorem dX4_work_117 : decode cX4_work 117 = .ok (.iaload, 1) := by decide +kernel
theorem dX4_work_118 : decode cX4_work 118 = .ok (.ifCond .ne 12, 3) := by decide +kernel
theorem dX4_work_121 : decode cX4_work 121 = .ok (.aload_n 0, 1) := by decide +kernel
theorem dX4_work_122 : decode cX4_work 122 = .ok (.getfield 15, 3) := by decide +kernel
theorem dX4_work_125 : decode cX4_work 125 = .ok (.iload_n 3, 1) := by decide +kernel
theorem dX4_work_126 : decode cX4_work 126 = .ok (.iaload, 1) := by decide +kernel
theorem dX4_work_127 : decode cX4_work 127 = .ok (.goto 4, 3) := by decide +kernel
theorem dX4_work_130 : decode cX4_work 130 = .ok (.iload_n 2, 1) := by decide +kernel
theorem dX4_work_131 : decode cX4_work 131 = .ok (.istore_n 2, 1) := by decide +kernel
theorem dX4_work_132 : decode cX4_work 132 = .ok (.goto 100, 3) := by decide +kernel
theorem dX4_work_135 : decode cX4_work 135 = .ok (.iload 4, 2) := by decide +kernel
theorem dX4_work_137 : decode cX4_work 137 = .ok (.iconst 3, 1) := by decide +kernel
theorem dX4_work_138 : decode cX4_work 138 = .ok (.if_icmp .eq 9, 3) := by decide +kernel
theorem dX4_work_141 : decode cX4_work 141 = .ok (.iload 4, 2) := by decide +kernel
theorem dX4_work_143 : decode cX4_work 143 = .ok (.iconst 4, 1) := by decide +kernel
theorem dX4_work_144 : decode cX4_work 144 = .ok (.if_icmp .ne 51, 3) := by decide +kernel
theorem dX4_work_147 : decode cX4_work 147 = .ok (.aload_n 0, 1) := by decide +kernel
theorem dX4_work_148 : decode cX4_work 148 = .ok (.getfield 18, 3) := by decide +kernel
theorem dX4_work_151 : decode cX4_work 151 = .ok (.iload_n 1, 1) := by decide +kernel
theorem dX4_work_152 : decode cX4_work 152 = .ok (.iconst 1, 1) := by decide +kernel
theorem dX4_work_153 : decode cX4_work 153 = .ok (.isub, 1) := by decide +kernel
theorem dX4_work_154 : decode cX4_work 154 = .ok (.iload 4, 2) := by decide +kernel
theorem dX4_work_156 : decode cX4_work 156 = .ok (.iconst 3, 1) := by decide +kernel
theorem dX4_work_157 : decode cX4_work 157 = .ok (.if_icmp .ne 15, 3) := by decide +kernel
theorem dX4_work_160 : decode cX4_work 160 = .ok (.aload_n 0, 1) := by decide +kernel
theorem dX4_work_161 : decode cX4_work 161 = .ok (.getfield 18, 3) := by decide +kernel
theorem dX4_work_164 : decode cX4_work 164 = .ok (.iload_n 1, 1) := by decide +kernel
theorem dX4_work_165 : decode cX4_work 165 = .ok (.iconst 1, 1) := by decide +kernel
theorem dX4_work_166 : decode cX4_work 166 = .ok (.isub, 1) := by decide +kernel
theorem dX4_work_167 : decode cX4_work 167 = .ok (.iaload, 1) := by decide +kernel
theorem dX4_work_168 : decode cX4_work 168 = .ok (.ineg, 1) := by decide +kernel
theorem dX4_work_169 : decode cX4_work 169 = .ok (.goto 22, 3) := by decide +kernel
theorem dX4_work_172 : decode cX4_work 172 = .ok (.aload_n 0, 1) := by decide +kernel
theorem dX4_work_173 : decode cX4_work 173 = .ok (.getfield 18, 3) := by decide +kernel
theorem dX4_work_176 : decode cX4_work 176 = .ok (.iload_n 1, 1) := by decide +kernel
theorem dX4_work_177 : decode cX4_work 177 = .ok (.iconst 1, 1) := by decide +kernel
theorem dX4_work_178 : decode cX4_work 178 = .ok (.isub, 1) := by decide +kernel
theorem dX4_work_179 : decode cX4_work 179 = .ok (.iaload, 1) := by decide +kernel
theorem dX4_work_180 : decode cX4_work 180 = .ok (.ifCond .ne 7, 3) := by decide +kernel
theorem dX4_work_183 : decode cX4_work 183 = .ok (.iconst 1, 1) := by decide +kernel
theorem dX4_work_184 : decode cX4_work 184 = .ok (.goto 4, 3) := by decide +kernel
theorem dX4_work_187 : decode cX4_work 187 = .ok (.iconst 0, 1) := by decide +kernel
theorem dX4_work_188 : decode cX4_work 188 = .ok (.invokestatic 28, 3) := by decide +kernel
theorem dX4_work_191 : decode cX4_work 191 = .ok (.iastore, 1) := by decide +kernel
theorem dX4_work_192 : decode cX4_work 192 = .ok (.goto 40, 3) := by decide +kernel
theorem dX4_work_195 : decode cX4_work 195 = .ok (.iload_n 1, 1) := by decide +kernel
theorem dX4_work_196 : decode cX4_work 196 = .ok (.iconst 2, 1) := by decide +kernel
theorem dX4_work_197 : decode cX4_work 197 = .ok (.if_icmp .ge 5, 3) := by decide +kernel
theorem dX4_work_200 : decode cX4_work 200 = .ok (.iconst 0, 1) := by decide +kernel
theorem dX4_work_201 : decode cX4_work 201 = .ok (.ireturn, 1) := by decide +kernel
theorem dX4_work_202 : decode cX4_work 202 = .ok (.iinc 1 (-1), 3) := by decide +kernel
theorem dX4_work_205 : decode cX4_work 205 = .ok (.aload_n 0, 1) := by decide +kernel
theorem dX4_work_206 : decode cX4_work 206 = .ok (.getfield 18, 3) := by decide +kernel
theorem dX4_work_209 : decode cX4_work 209 = .ok (.iload_n 1, 1) := by decide +kernel
theorem dX4_work_210 : decode cX4_work 210 = .ok (.iconst 1, 1) := by decide +kernel
theorem dX4_work_211 : decode cX4_work 211 = .ok (.isub, 1) := by decide +kernel
theorem dX4_work_212 : decode cX4_work 212 = .ok (.iload 4, 2) := by decide +kernel
theorem dX4_work_214 : decode cX4_work 214 = .ok (.aload_n 0, 1) := by decide +kernel
theorem dX4_work_215 : decode cX4_work 215 = .ok (.getfield 18, 3) := by decide +kernel
theorem dX4_work_218 : decode cX4_work 218 = .ok (.iload_n 1, 1) := by decide +kernel
theorem dX4_work_219 : decode cX4_work 219 = .ok (.iconst 1, 1) := by decide +kernel
theorem dX4_work_220 : decode cX4_work 220 = .ok (.isub, 1) := by decide +kernel
theorem dX4_work_221 : decode cX4_work 221 = .ok (.iaload, 1) := by decide +kernel
theorem dX4_work_222 : decode cX4_work 222 = .ok (.aload_n 0, 1) := by decide +kernel
theorem dX4_work_223 : decode cX4_work 223 = .ok (.getfield 18, 3) := by decide +kernel
theorem dX4_work_226 : decode cX4_work 226 = .ok (.iload_n 1, 1) := by decide +kernel
theorem dX4_work_227 : decode cX4_work 227 = .ok (.iaload, 1) := by decide +kernel
theorem dX4_work_228 : decode cX4_work 228 = .ok (.invokestatic 32, 3) := by decide +kernel
theorem dX4_work_231 : decode cX4_work 231 = .ok (.iastore, 1) := by decide +kernel
theorem dX4_work_232 : decode cX4_work 232 = .ok (.iinc 3 1, 3) := by decide +kernel
theorem dX4_work_235 : decode cX4_work 235 = .ok (.goto (-229), 3) := by decide +kernel
theorem dX4_work_238 : decode cX4_work 238 = .ok (.iconst 0, 1) := by decide +kernel
theorem dX4_work_239 : decode cX4_work 239 = .ok (.ireturn, 1) := by decide +kernel
def m_X4_work_42 (K6 : Int32 → Int32 → Int32 → Int32 → Mm → Option (Int32 × Mm)) (x0 : Int32) (x1 : Int32) (x2 : Int32) (x3 : Int32) (x4 : Int32) (g : Mm) : Option (Int32 × Mm) := (if x4 = (1 : Int32) then gdd (ixo x3 121) (gdd (ixo x1 121) (K6 x0 (x1 + (1 : Int32)) x2 (x3 + (1 : Int32)) (wrI g (pgm x0 + 3) x1.toNatClampNeg (rdI g (pgm x0 + 2) x3.toNatClampNeg)))) else gdd (ixo x3 121) (gdd (ixo (rdI g (pgm x0 + 2) x3.toNatClampNeg) 6) (gdd (ixo x1 121) (K6 x0 (x1 + (1 : Int32)) x2 (x3 + (1 : Int32)) (wrI g (pgm x0 + 3) x1.toNatClampNeg (rdI g (pgm x0 + 4) (rdI g (pgm x0 + 2) x3.toNatClampNeg).toNatClampNeg))))))
set_option maxHeartbeats 2000000 in
theorem t_X4_work_42 {r2 : Int32} {g2 : Mm} (X : gx_X p R s m args meth c D al cI cJ A RX4 cX4_work 5 (some .int) d 0 0) (hd : 3 ≤ d) {K6 : Int32 → Int32 → Int32 → Int32 → Mm → Option (Int32 × Mm)} (hK6 : ∀ (u0 : Int32) (u1 : Int32) (u2 : Int32) (u3 : Int32) (g : Mm), K6 u0 u1 u2 u3 g = some (r2, g2) → gx_G p l e R s m args below meth c (gx_Q below args s D al cI cJ A (some (.int r2)) g2) D al cI cJ A 5 0 0 6 [(0, .ref (al (pgm u0))), (1, .int (u1)), (2, .int (u2)), (3, .int (u3))] [] g) : ∀ (x0 : Int32) (x1 : Int32) (x2 : Int32) (x3 : Int32) (x4 : Int32) (g : Mm), m_X4_work_42 K6 x0 x1 x2 x3 x4 g = some (r2, g2) → gx_G p l e R s m args below meth c (gx_Q below args s D al cI cJ A (some (.int r2)) g2) D al cI cJ A 5 0 0 42 [(0, .ref (al (pgm x0))), (1, .int (x1)), (2, .int (x2)), (3, .int (x3)), (4, .int (x4))] [] g := by
  intro x0 x1 x2 x3 x4 g h
  unfold m_X4_work_42 at h
  refine gx_aload_n X 0 rfl dX4_work_42 ?_
  refine gx_getf X (pgm x0) lf_X4_18 (pg_lt _) (cl_pg _ _ _) (v := .ref (al (pgm x0 + 3))) rfl dX4_work_43 ?_
  refine gx_iload_n X 1 rfl dX4_work_46 ?_
  refine gx_iload X 4 rfl dX4_work_47 ?_
  refine gx_iconst X (v := (1 : Int32)) dX4_work_49 (by decide) ?_
  refine gx_icmp_ne X 62 dX4_work_50 (by decide) (fun q1 => ?_) (fun q1 => ?_)
  · replace h := (if_neg q1).symm.trans h
    refine gx_aload_n X 0 rfl dX4_work_62 ?_
    refine gx_getf X (pgm x0) lf_X4_21 (pg_lt _) (cl_pg _ _ _) (v := .ref (al (pgm x0 + 4))) rfl dX4_work_63 ?_
    refine gx_aload_n X 0 rfl dX4_work_66 ?_
    refine gx_getf X (pgm x0) lf_X4_15 (pg_lt _) (cl_pg _ _ _) (v := .ref (al (pgm x0 + 2))) rfl dX4_work_67 ?_
    refine gx_iload_n X 3 rfl dX4_work_70 ?_
    obtain ⟨q2, h⟩ := gdd_eq h
    refine gx_iald X (pgm x0 + 2) 121 (pg_lt2 _) (cl_pg2 _ _ _) q2 dX4_work_71 ?_
    obtain ⟨q3, h⟩ := gdd_eq h
    refine gx_iald X (pgm x0 + 4) 6 (pg_lt4 _) (cl_pg4 _ _ _) q3 dX4_work_72 ?_
    obtain ⟨q4, h⟩ := gdd_eq h
    refine gx_iast X (pgm x0 + 3) 121 (pg_lt3 _) (fun r => cl_pg3 _ r _) q4 dX4_work_73 ?_
    refine gx_iinc X [(1, .int ((x1 + (1 : Int32)))), (0, .ref (al (pgm x0))), (2, .int (x2)), (3, .int (x3)), (4, .int (x4))] 1 dX4_work_74 rfl rfl (by decide) rfl ?_
    refine gx_goto X 232 dX4_work_77 (by decide) ?_
    refine gx_iinc X [(3, .int ((x3 + (1 : Int32)))), (1, .int ((x1 + (1 : Int32)))), (0, .ref (al (pgm x0))), (2, .int (x2)), (4, .int (x4))] 3 dX4_work_232 rfl rfl (by decide) rfl ?_
    refine gx_goto X 6 dX4_work_235 (by decide) ?_
    exact gx_sub [2, 1, 3, 0] rfl (hK6 x0 (x1 + (1 : Int32)) x2 (x3 + (1 : Int32)) (wrI g (pgm x0 + 3) x1.toNatClampNeg (rdI g (pgm x0 + 4) (rdI g (pgm x0 + 2) x3.toNatClampNeg).toNatClampNeg)) h)
  · replace h := (if_pos q1).symm.trans h
    refine gx_aload_n X 0 rfl dX4_work_53 ?_
    refine gx_getf X (pgm x0) lf_X4_15 (pg_lt _) (cl_pg _ _ _) (v := .ref (al (pgm x0 + 2))) rfl dX4_work_54 ?_
    refine gx_iload_n X 3 rfl dX4_work_57 ?_
    obtain ⟨q5, h⟩ := gdd_eq h
    refine gx_iald X (pgm x0 + 2) 121 (pg_lt2 _) (cl_pg2 _ _ _) q5 dX4_work_58 ?_
    refine gx_goto X 73 dX4_work_59 (by decide) ?_
    obtain ⟨q6, h⟩ := gdd_eq h
    refine gx_iast X (pgm x0 + 3) 121 (pg_lt3 _) (fun r => cl_pg3 _ r _) q6 dX4_work_73 ?_
    refine gx_iinc X [(1, .int ((x1 + (1 : Int32)))), (0, .ref (al (pgm x0))), (2, .int (x2)), (3, .int (x3)), (4, .int (x4))] 1 dX4_work_74 rfl rfl (by decide) rfl ?_
    refine gx_goto X 232 dX4_work_77 (by decide) ?_
    refine gx_iinc X [(3, .int ((x3 + (1 : Int32)))), (1, .int ((x1 + (1 : Int32)))), (0, .ref (al (pgm x0))), (2, .int (x2)), (4, .int (x4))] 3 dX4_work_232 rfl rfl (by decide) rfl ?_
    refine gx_goto X 6 dX4_work_235 (by decide) ?_
    exact gx_sub [2, 1, 3, 0] rfl (hK6 x0 (x1 + (1 : Int32)) x2 (x3 + (1 : Int32)) (wrI g (pgm x0 + 3) x1.toNatClampNeg (rdI g (pgm x0 + 2) x3.toNatClampNeg)) h)
def m_X4_work_188 (K6 : Int32 → Int32 → Int32 → Int32 → Mm → Option (Int32 × Mm)) (x0 : Int32) (x1 : Int32) (x2 : Int32) (x3 : Int32) (k0 : Int32) (k1 : Int32) (k2 : Int32) (g : Mm) : Option (Int32 × Mm) := bdd (m_X4_truth k0 g) (fun ra1 ga2 => gdd (ixo k1 121) (K6 x0 x1 x2 (x3 + (1 : Int32)) (wrI ga2 (pgm k2 + 3) k1.toNatClampNeg ra1)))
set_option maxHeartbeats 2000000 in
theorem t_X4_work_188 {r2 : Int32} {g2 : Mm} (X : gx_X p R s m args meth c D al cI cJ A RX4 cX4_work 5 (some .int) d 0 0) (hd : 3 ≤ d) {K6 : Int32 → Int32 → Int32 → Int32 → Mm → Option (Int32 × Mm)} (hK6 : ∀ (u0 : Int32) (u1 : Int32) (u2 : Int32) (u3 : Int32) (g : Mm), K6 u0 u1 u2 u3 g = some (r2, g2) → gx_G p l e R s m args below meth c (gx_Q below args s D al cI cJ A (some (.int r2)) g2) D al cI cJ A 5 0 0 6 [(0, .ref (al (pgm u0))), (1, .int (u1)), (2, .int (u2)), (3, .int (u3))] [] g) : ∀ (x0 : Int32) (x1 : Int32) (x2 : Int32) (x3 : Int32) (k0 : Int32) (k1 : Int32) (k2 : Int32) (g : Mm), m_X4_work_188 K6 x0 x1 x2 x3 k0 k1 k2 g = some (r2, g2) → gx_G p l e R s m args below meth c (gx_Q below args s D al cI cJ A (some (.int r2)) g2) D al cI cJ A 5 0 0 188 [(0, .ref (al (pgm x0))), (1, .int (x1)), (2, .int (x2)), (3, .int (x3))] [.int (k0), .int (k1), .ref (al (pgm k2 + 3))] g := by
  intro x0 x1 x2 x3 k0 k1 k2 g h
  unfold m_X4_work_188 at h
  obtain ⟨ra1, ga2, ca3, h⟩ := bdd_eq h
  refine gx_callSi X (c_X4_truth ca3) lc_X4_truth li_X4_truth lm_X4_28 rfl rfl (Nat.le_trans (by decide) hd) rfl (Nat.le_of_ble_eq_true rfl) dX4_work_188 ?_
  obtain ⟨q4, h⟩ := gdd_eq h
  refine gx_iast X (pgm k2 + 3) 121 (pg_lt3 _) (fun r => cl_pg3 _ r _) q4 dX4_work_191 ?_
  refine gx_goto X 232 dX4_work_192 (by decide) ?_
  refine gx_iinc X [(3, .int ((x3 + (1 : Int32)))), (0, .ref (al (pgm x0))), (1, .int (x1)), (2, .int (x2))] 3 dX4_work_232 rfl rfl (by decide) rfl ?_
  refine gx_goto X 6 dX4_work_235 (by decide) ?_
  exact gx_sub [1, 2, 3, 0] rfl (hK6 x0 x1 x2 (x3 + (1 : Int32)) (wrI ga2 (pgm k2 + 3) k1.toNatClampNeg ra1) h)
def m_X4_work_147 (K6 : Int32 → Int32 → Int32 → Int32 → Mm → Option (Int32 × Mm)) (x0 : Int32) (x1 : Int32) (x2 : Int32) (x3 : Int32) (x4 : Int32) (g : Mm) : Option (Int32 × Mm) := (if x4 = (3 : Int32) then gdd (ixo (x1 - (1 : Int32)) 121) (gdd (ixo (x1 - (1 : Int32)) 121) (K6 x0 x1 x2 (x3 + (1 : Int32)) (wrI g (pgm x0 + 3) (x1 - (1 : Int32)).toNatClampNeg (-(rdI g (pgm x0 + 3) (x1 - (1 : Int32)).toNatClampNeg))))) else gdd (ixo (x1 - (1 : Int32)) 121) ((if (rdI g (pgm x0 + 3) (x1 - (1 : Int32)).toNatClampNeg) = (0 : Int32) then m_X4_work_188 (K6) x0 x1 x2 x3 (1 : Int32) (x1 - (1 : Int32)) x0 g else m_X4_work_188 (K6) x0 x1 x2 x3 (0 : Int32) (x1 - (1 : Int32)) x0 g)))
set_option maxHeartbeats 2000000 in
theorem t_X4_work_147 {r2 : Int32} {g2 : Mm} (X : gx_X p R s m args meth c D al cI cJ A RX4 cX4_work 5 (some .int) d 0 0) (hd : 3 ≤ d) {K6 : Int32 → Int32 → Int32 → Int32 → Mm → Option (Int32 × Mm)} (hK6 : ∀ (u0 : Int32) (u1 : Int32) (u2 : Int32) (u3 : Int32) (g : Mm), K6 u0 u1 u2 u3 g = some (r2, g2) → gx_G p l e R s m args below meth c (gx_Q below args s D al cI cJ A (some (.int r2)) g2) D al cI cJ A 5 0 0 6 [(0, .ref (al (pgm u0))), (1, .int (u1)), (2, .int (u2)), (3, .int (u3))] [] g) : ∀ (x0 : Int32) (x1 : Int32) (x2 : Int32) (x3 : Int32) (x4 : Int32) (g : Mm), m_X4_work_147 K6 x0 x1 x2 x3 x4 g = some (r2, g2) → gx_G p l e R s m args below meth c (gx_Q below args s D al cI cJ A (some (.int r2)) g2) D al cI cJ A 5 0 0 147 [(0, .ref (al (pgm x0))), (1, .int (x1)), (2, .int (x2)), (3, .int (x3)), (4, .int (x4))] [] g := by
  intro x0 x1 x2 x3 x4 g h
  unfold m_X4_work_147 at h
  refine gx_aload_n X 0 rfl dX4_work_147 ?_
  refine gx_getf X (pgm x0) lf_X4_18 (pg_lt _) (cl_pg _ _ _) (v := .ref (al (pgm x0 + 3))) rfl dX4_work_148 ?_
  refine gx_iload_n X 1 rfl dX4_work_151 ?_
  refine gx_iconst X (v := (1 : Int32)) dX4_work_152 (by decide) ?_
  refine gx_isub X dX4_work_153 ?_
  refine gx_iload X 4 rfl dX4_work_154 ?_
  refine gx_iconst X (v := (3 : Int32)) dX4_work_156 (by decide) ?_
  refine gx_icmp_ne X 172 dX4_work_157 (by decide) (fun q1 => ?_) (fun q1 => ?_)
  · replace h := (if_neg q1).symm.trans h
    refine gx_aload_n X 0 rfl dX4_work_172 ?_
    refine gx_getf X (pgm x0) lf_X4_18 (pg_lt _) (cl_pg _ _ _) (v := .ref (al (pgm x0 + 3))) rfl dX4_work_173 ?_
    refine gx_iload_n X 1 rfl dX4_work_176 ?_
    refine gx_iconst X (v := (1 : Int32)) dX4_work_177 (by decide) ?_
    refine gx_isub X dX4_work_178 ?_
    obtain ⟨q2, h⟩ := gdd_eq h
    refine gx_iald X (pgm x0 + 3) 121 (pg_lt3 _) (cl_pg3 _ _ _) q2 dX4_work_179 ?_
    refine gx_if_ne X 187 dX4_work_180 (by decide) (fun q3 => ?_) (fun q3 => ?_)
    · replace h := (if_neg q3).symm.trans h
      refine gx_iconst X (v := (0 : Int32)) dX4_work_187 (by decide) ?_
      exact gx_sub [0, 1, 2, 3] rfl (t_X4_work_188 X hd (fun u0 u1 u2 u3 g h => hK6 u0 u1 u2 u3 g h) x0 x1 x2 x3 (0 : Int32) (x1 - (1 : Int32)) x0 g h)
    · replace h := (if_pos q3).symm.trans h
      refine gx_iconst X (v := (1 : Int32)) dX4_work_183 (by decide) ?_
      refine gx_goto X 188 dX4_work_184 (by decide) ?_
      exact gx_sub [0, 1, 2, 3] rfl (t_X4_work_188 X hd (fun u0 u1 u2 u3 g h => hK6 u0 u1 u2 u3 g h) x0 x1 x2 x3 (1 : Int32) (x1 - (1 : Int32)) x0 g h)
  · replace h := (if_pos q1).symm.trans h
    refine gx_aload_n X 0 rfl dX4_work_160 ?_
    refine gx_getf X (pgm x0) lf_X4_18 (pg_lt _) (cl_pg _ _ _) (v := .ref (al (pgm x0 + 3))) rfl dX4_work_161 ?_
    refine gx_iload_n X 1 rfl dX4_work_164 ?_
    refine gx_iconst X (v := (1 : Int32)) dX4_work_165 (by decide) ?_
    refine gx_isub X dX4_work_166 ?_
    obtain ⟨q4, h⟩ := gdd_eq h
    refine gx_iald X (pgm x0 + 3) 121 (pg_lt3 _) (cl_pg3 _ _ _) q4 dX4_work_167 ?_
    refine gx_ineg X dX4_work_168 ?_
    refine gx_goto X 191 dX4_work_169 (by decide) ?_
    obtain ⟨q5, h⟩ := gdd_eq h
    refine gx_iast X (pgm x0 + 3) 121 (pg_lt3 _) (fun r => cl_pg3 _ r _) q5 dX4_work_191 ?_
    refine gx_goto X 232 dX4_work_192 (by decide) ?_
    refine gx_iinc X [(3, .int ((x3 + (1 : Int32)))), (0, .ref (al (pgm x0))), (1, .int (x1)), (2, .int (x2)), (4, .int (x4))] 3 dX4_work_232 rfl rfl (by decide) rfl ?_
    refine gx_goto X 6 dX4_work_235 (by decide) ?_
    exact gx_sub [1, 2, 3, 0] rfl (hK6 x0 x1 x2 (x3 + (1 : Int32)) (wrI g (pgm x0 + 3) (x1 - (1 : Int32)).toNatClampNeg (-(rdI g (pgm x0 + 3) (x1 - (1 : Int32)).toNatClampNeg))) h)
def m_X4_work_6 : Nat → Int32 → Int32 → Int32 → Int32 → Mm → Option (Int32 × Mm)
  | 0, _, _, _, _, _ => none
  | n + 1, x0, x1, x2, x3, g => (if (rdI g (pgm x0) 4) ≤ x3 then some ((0 : Int32), g) else gdd (ixo x3 121) ((if x2 ≤ x3 then (if (rdI g (pgm x0 + 1) x3.toNatClampNeg) = (1 : Int32) then m_X4_work_42 (m_X4_work_6 n) x0 x1 x2 x3 (rdI g (pgm x0 + 1) x3.toNatClampNeg) g else (if (rdI g (pgm x0 + 1) x3.toNatClampNeg) = (2 : Int32) then m_X4_work_42 (m_X4_work_6 n) x0 x1 x2 x3 (rdI g (pgm x0 + 1) x3.toNatClampNeg) g else (if (1 : Int32) ≤ x1 then (if (rdI g (pgm x0 + 1) x3.toNatClampNeg) = (6 : Int32) then gdd (ixo (x1 - (1 : Int32)) 121) (some ((rdI g (pgm x0 + 3) (x1 - (1 : Int32)).toNatClampNeg), g)) else (if (rdI g (pgm x0 + 1) x3.toNatClampNeg) = (5 : Int32) then gdd (ixo (x1 + (-1 : Int32)) 121) ((if (rdI g (pgm x0 + 3) (x1 + (-1 : Int32)).toNatClampNeg) = (0 : Int32) then gdd (ixo x3 121) (m_X4_work_6 n x0 (x1 + (-1 : Int32)) (rdI g (pgm x0 + 2) x3.toNatClampNeg) (x3 + (1 : Int32)) g) else m_X4_work_6 n x0 (x1 + (-1 : Int32)) x2 (x3 + (1 : Int32)) g)) else (if (rdI g (pgm x0 + 1) x3.toNatClampNeg) = (3 : Int32) then m_X4_work_147 (m_X4_work_6 n) x0 x1 x2 x3 (rdI g (pgm x0 + 1) x3.toNatClampNeg) g else (if (rdI g (pgm x0 + 1) x3.toNatClampNeg) = (4 : Int32) then m_X4_work_147 (m_X4_work_6 n) x0 x1 x2 x3 (rdI g (pgm x0 + 1) x3.toNatClampNeg) g else (if (2 : Int32) ≤ x1 then gdd (ixo ((x1 + (-1 : Int32)) - (1 : Int32)) 121) (gdd (ixo (x1 + (-1 : Int32)) 121) (bdd (m_X4_joined (rdI g (pgm x0 + 1) x3.toNatClampNeg) (rdI g (pgm x0 + 3) ((x1 + (-1 : Int32)) - (1 : Int32)).toNatClampNeg) (rdI g (pgm x0 + 3) (x1 + (-1 : Int32)).toNatClampNeg) g) (fun ra14 ga15 => gdd (ixo ((x1 + (-1 : Int32)) - (1 : Int32)) 121) (m_X4_work_6 n x0 (x1 + (-1 : Int32)) x2 (x3 + (1 : Int32)) (wrI ga15 (pgm x0 + 3) ((x1 + (-1 : Int32)) - (1 : Int32)).toNatClampNeg ra14))))) else some ((0 : Int32), g)))))) else some ((0 : Int32), g)))) else m_X4_work_6 n x0 x1 x2 (x3 + (1 : Int32)) g)))
set_option maxHeartbeats 2000000 in
theorem t_X4_work_6 {r2 : Int32} {g2 : Mm} (X : gx_X p R s m args meth c D al cI cJ A RX4 cX4_work 5 (some .int) d 0 0) (hd : 3 ≤ d) : ∀ (n : Nat) (x0 : Int32) (x1 : Int32) (x2 : Int32) (x3 : Int32) (g : Mm), m_X4_work_6 n x0 x1 x2 x3 g = some (r2, g2) → gx_G p l e R s m args below meth c (gx_Q below args s D al cI cJ A (some (.int r2)) g2) D al cI cJ A 5 0 0 6 [(0, .ref (al (pgm x0))), (1, .int (x1)), (2, .int (x2)), (3, .int (x3))] [] g := by
  intro n
  induction n with
  | zero => intro x0 x1 x2 x3 g h; cases h
  | succ n ih =>
    intro x0 x1 x2 x3 g h
    rw [m_X4_work_6] at h
    refine gx_iload_n X 3 rfl dX4_work_6 ?_
    refine gx_aload_n X 0 rfl dX4_work_7 ?_
    refine gx_getf X (pgm x0) lf_X4_24 (pg_lt _) (cl_pg _ _ _) (v := .int ((rdI g (pgm x0) 4))) rfl dX4_work_8 ?_
    refine gx_icmp_ge X 238 dX4_work_11 (by decide) (fun q1 => ?_) (fun q1 => ?_)
    · replace h := (if_pos q1).symm.trans h
      refine gx_iconst X (v := (0 : Int32)) dX4_work_238 (by decide) ?_
      obtain ⟨rfl, rfl⟩ := ret_eq h
      exact gx_iret X rfl dX4_work_239
    · replace h := (if_neg q1).symm.trans h
      refine gx_aload_n X 0 rfl dX4_work_14 ?_
      refine gx_getf X (pgm x0) lf_X4_11 (pg_lt _) (cl_pg _ _ _) (v := .ref (al (pgm x0 + 1))) rfl dX4_work_15 ?_
      refine gx_iload_n X 3 rfl dX4_work_18 ?_
      obtain ⟨q2, h⟩ := gdd_eq h
      refine gx_iald X (pgm x0 + 1) 121 (pg_lt1 _) (cl_pg1 _ _ _) q2 dX4_work_19 ?_
      refine gx_istore X [(4, .int ((rdI g (pgm x0 + 1) x3.toNatClampNeg))), (0, .ref (al (pgm x0))), (1, .int (x1)), (2, .int (x2)), (3, .int (x3))] dX4_work_20 (by decide) rfl ?_
      refine gx_iload_n X 4 rfl dX4_work_22 ?_
      refine gx_iload_n X 3 rfl dX4_work_23 ?_
      refine gx_icmp_ge X 30 dX4_work_24 (by decide) (fun q3 => ?_) (fun q3 => ?_)
      · replace h := (if_pos q3).symm.trans h
        refine gx_iload X 0 rfl dX4_work_30 ?_
        refine gx_iconst X (v := (1 : Int32)) dX4_work_32 (by decide) ?_
        refine gx_icmp_eq X 42 dX4_work_33 (by decide) (fun q4 => ?_) (fun q4 => ?_)
        · replace h := (if_pos q4).symm.trans h
          exact gx_sub [1, 2, 3, 4, 0] rfl (t_X4_work_42 X hd (fun u0 u1 u2 u3 g h => ih u0 u1 u2 u3 g h) x0 x1 x2 x3 (rdI g (pgm x0 + 1) x3.toNatClampNeg) g h)
        · replace h := (if_neg q4).symm.trans h
          refine gx_iload X 0 rfl dX4_work_36 ?_
          refine gx_iconst X (v := (2 : Int32)) dX4_work_38 (by decide) ?_
          refine gx_icmp_ne X 80 dX4_work_39 (by decide) (fun q5 => ?_) (fun q5 => ?_)
          · replace h := (if_neg q5).symm.trans h
            refine gx_iload_n X 2 rfl dX4_work_80 ?_
            refine gx_iconst X (v := (1 : Int32)) dX4_work_81 (by decide) ?_
            refine gx_icmp_ge X 87 dX4_work_82 (by decide) (fun q6 => ?_) (fun q6 => ?_)
            · replace h := (if_pos q6).symm.trans h
              refine gx_iload X 0 rfl dX4_work_87 ?_
              refine gx_bipush X (v := (6 : Int32)) dX4_work_89 (by decide) ?_
              refine gx_icmp_ne X 103 dX4_work_91 (by decide) (fun q7 => ?_) (fun q7 => ?_)
              · replace h := (if_neg q7).symm.trans h
                refine gx_iload X 0 rfl dX4_work_103 ?_
                refine gx_iconst X (v := (5 : Int32)) dX4_work_105 (by decide) ?_
                refine gx_icmp_ne X 135 dX4_work_106 (by decide) (fun q8 => ?_) (fun q8 => ?_)
                · replace h := (if_neg q8).symm.trans h
                  refine gx_iload X 0 rfl dX4_work_135 ?_
                  refine gx_iconst X (v := (3 : Int32)) dX4_work_137 (by decide) ?_
                  refine gx_icmp_eq X 147 dX4_work_138 (by decide) (fun q9 => ?_) (fun q9 => ?_)
                  · replace h := (if_pos q9).symm.trans h
                    exact gx_sub [1, 2, 3, 4, 0] rfl (t_X4_work_147 X hd (fun u0 u1 u2 u3 g h => ih u0 u1 u2 u3 g h) x0 x1 x2 x3 (rdI g (pgm x0 + 1) x3.toNatClampNeg) g h)
                  · replace h := (if_neg q9).symm.trans h
                    refine gx_iload X 0 rfl dX4_work_141 ?_
                    refine gx_iconst X (v := (4 : Int32)) dX4_work_143 (by decide) ?_
                    refine gx_icmp_ne X 195 dX4_work_144 (by decide) (fun q10 => ?_) (fun q10 => ?_)
                    · replace h := (if_neg q10).symm.trans h
                      refine gx_iload_n X 2 rfl dX4_work_195 ?_
                      refine gx_iconst X (v := (2 : Int32)) dX4_work_196 (by decide) ?_
                      refine gx_icmp_ge X 202 dX4_work_197 (by decide) (fun q11 => ?_) (fun q11 => ?_)
                      · replace h := (if_pos q11).symm.trans h
                        refine gx_iinc X [(1, .int ((x1 + (-1 : Int32)))), (4, .int ((rdI g (pgm x0 + 1) x3.toNatClampNeg))), (0, .ref (al (pgm x0))), (2, .int (x2)), (3, .int (x3))] 2 dX4_work_202 rfl rfl (by decide) rfl ?_
                        refine gx_aload_n X 2 rfl dX4_work_205 ?_
                        refine gx_getf X (pgm x0) lf_X4_18 (pg_lt _) (cl_pg _ _ _) (v := .ref (al (pgm x0 + 3))) rfl dX4_work_206 ?_
                        refine gx_iload_n X 0 rfl dX4_work_209 ?_
                        refine gx_iconst X (v := (1 : Int32)) dX4_work_210 (by decide) ?_
                        refine gx_isub X dX4_work_211 ?_
                        refine gx_iload X 1 rfl dX4_work_212 ?_
                        refine gx_aload_n X 2 rfl dX4_work_214 ?_
                        refine gx_getf X (pgm x0) lf_X4_18 (pg_lt _) (cl_pg _ _ _) (v := .ref (al (pgm x0 + 3))) rfl dX4_work_215 ?_
                        refine gx_iload_n X 0 rfl dX4_work_218 ?_
                        refine gx_iconst X (v := (1 : Int32)) dX4_work_219 (by decide) ?_
                        refine gx_isub X dX4_work_220 ?_
                        obtain ⟨q12, h⟩ := gdd_eq h
                        refine gx_iald X (pgm x0 + 3) 121 (pg_lt3 _) (cl_pg3 _ _ _) q12 dX4_work_221 ?_
                        refine gx_aload_n X 2 rfl dX4_work_222 ?_
                        refine gx_getf X (pgm x0) lf_X4_18 (pg_lt _) (cl_pg _ _ _) (v := .ref (al (pgm x0 + 3))) rfl dX4_work_223 ?_
                        refine gx_iload_n X 0 rfl dX4_work_226 ?_
                        obtain ⟨q13, h⟩ := gdd_eq h
                        refine gx_iald X (pgm x0 + 3) 121 (pg_lt3 _) (cl_pg3 _ _ _) q13 dX4_work_227 ?_
                        obtain ⟨ra14, ga15, ca16, h⟩ := bdd_eq h
                        refine gx_callSi X (c_X4_joined ca16) lc_X4_joined li_X4_joined lm_X4_32 rfl rfl (Nat.le_trans (by decide) hd) rfl (Nat.le_of_ble_eq_true rfl) dX4_work_228 ?_
                        obtain ⟨q17, h⟩ := gdd_eq h
                        refine gx_iast X (pgm x0 + 3) 121 (pg_lt3 _) (fun r => cl_pg3 _ r _) q17 dX4_work_231 ?_
                        refine gx_iinc X [(3, .int ((x3 + (1 : Int32)))), (1, .int ((x1 + (-1 : Int32)))), (4, .int ((rdI g (pgm x0 + 1) x3.toNatClampNeg))), (0, .ref (al (pgm x0))), (2, .int (x2))] 4 dX4_work_232 rfl rfl (by decide) rfl ?_
                        refine gx_goto X 6 dX4_work_235 (by decide) ?_
                        exact gx_sub [3, 1, 4, 0] rfl (ih x0 (x1 + (-1 : Int32)) x2 (x3 + (1 : Int32)) (wrI ga15 (pgm x0 + 3) ((x1 + (-1 : Int32)) - (1 : Int32)).toNatClampNeg ra14) h)
                      · replace h := (if_neg q11).symm.trans h
                        refine gx_iconst X (v := (0 : Int32)) dX4_work_200 (by decide) ?_
                        obtain ⟨rfl, rfl⟩ := ret_eq h
                        exact gx_iret X rfl dX4_work_201
                    · replace h := (if_pos q10).symm.trans h
                      exact gx_sub [1, 2, 3, 4, 0] rfl (t_X4_work_147 X hd (fun u0 u1 u2 u3 g h => ih u0 u1 u2 u3 g h) x0 x1 x2 x3 (rdI g (pgm x0 + 1) x3.toNatClampNeg) g h)
                · replace h := (if_pos q8).symm.trans h
                  refine gx_iinc X [(1, .int ((x1 + (-1 : Int32)))), (4, .int ((rdI g (pgm x0 + 1) x3.toNatClampNeg))), (0, .ref (al (pgm x0))), (2, .int (x2)), (3, .int (x3))] 2 dX4_work_109 rfl rfl (by decide) rfl ?_
                  refine gx_aload_n X 2 rfl dX4_work_112 ?_
                  refine gx_getf X (pgm x0) lf_X4_18 (pg_lt _) (cl_pg _ _ _) (v := .ref (al (pgm x0 + 3))) rfl dX4_work_113 ?_
                  refine gx_iload_n X 0 rfl dX4_work_116 ?_
                  obtain ⟨q18, h⟩ := gdd_eq h
                  refine gx_iald X (pgm x0 + 3) 121 (pg_lt3 _) (cl_pg3 _ _ _) q18 dX4_work_117 ?_
                  refine gx_if_ne X 130 dX4_work_118 (by decide) (fun q19 => ?_) (fun q19 => ?_)
                  · replace h := (if_neg q19).symm.trans h
                    refine gx_iload_n X 3 rfl dX4_work_130 ?_
                    refine gx_istore_n X [(2, .int (x2)), (1, .int ((x1 + (-1 : Int32)))), (4, .int ((rdI g (pgm x0 + 1) x3.toNatClampNeg))), (0, .ref (al (pgm x0))), (3, .int (x3))] dX4_work_131 (by decide) rfl ?_
                    refine gx_goto X 232 dX4_work_132 (by decide) ?_
                    refine gx_iinc X [(3, .int ((x3 + (1 : Int32)))), (2, .int (x2)), (1, .int ((x1 + (-1 : Int32)))), (4, .int ((rdI g (pgm x0 + 1) x3.toNatClampNeg))), (0, .ref (al (pgm x0)))] 4 dX4_work_232 rfl rfl (by decide) rfl ?_
                    refine gx_goto X 6 dX4_work_235 (by decide) ?_
                    exact gx_sub [4, 2, 1, 0] rfl (ih x0 (x1 + (-1 : Int32)) x2 (x3 + (1 : Int32)) g h)
                  · replace h := (if_pos q19).symm.trans h
                    refine gx_aload_n X 2 rfl dX4_work_121 ?_
                    refine gx_getf X (pgm x0) lf_X4_15 (pg_lt _) (cl_pg _ _ _) (v := .ref (al (pgm x0 + 2))) rfl dX4_work_122 ?_
                    refine gx_iload_n X 4 rfl dX4_work_125 ?_
                    obtain ⟨q20, h⟩ := gdd_eq h
                    refine gx_iald X (pgm x0 + 2) 121 (pg_lt2 _) (cl_pg2 _ _ _) q20 dX4_work_126 ?_
                    refine gx_goto X 131 dX4_work_127 (by decide) ?_
                    refine gx_istore_n X [(2, .int ((rdI g (pgm x0 + 2) x3.toNatClampNeg))), (1, .int ((x1 + (-1 : Int32)))), (4, .int ((rdI g (pgm x0 + 1) x3.toNatClampNeg))), (0, .ref (al (pgm x0))), (3, .int (x3))] dX4_work_131 (by decide) rfl ?_
                    refine gx_goto X 232 dX4_work_132 (by decide) ?_
                    refine gx_iinc X [(3, .int ((x3 + (1 : Int32)))), (2, .int ((rdI g (pgm x0 + 2) x3.toNatClampNeg))), (1, .int ((x1 + (-1 : Int32)))), (4, .int ((rdI g (pgm x0 + 1) x3.toNatClampNeg))), (0, .ref (al (pgm x0)))] 4 dX4_work_232 rfl rfl (by decide) rfl ?_
                    refine gx_goto X 6 dX4_work_235 (by decide) ?_
                    exact gx_sub [4, 2, 1, 0] rfl (ih x0 (x1 + (-1 : Int32)) (rdI g (pgm x0 + 2) x3.toNatClampNeg) (x3 + (1 : Int32)) g h)
              · replace h := (if_pos q7).symm.trans h
                refine gx_aload_n X 1 rfl dX4_work_94 ?_
                refine gx_getf X (pgm x0) lf_X4_18 (pg_lt _) (cl_pg _ _ _) (v := .ref (al (pgm x0 + 3))) rfl dX4_work_95 ?_
                refine gx_iload_n X 2 rfl dX4_work_98 ?_
                refine gx_iconst X (v := (1 : Int32)) dX4_work_99 (by decide) ?_
                refine gx_isub X dX4_work_100 ?_
                obtain ⟨q21, h⟩ := gdd_eq h
                refine gx_iald X (pgm x0 + 3) 121 (pg_lt3 _) (cl_pg3 _ _ _) q21 dX4_work_101 ?_
                obtain ⟨rfl, rfl⟩ := ret_eq h
                exact gx_iret X rfl dX4_work_102
            · replace h := (if_neg q6).symm.trans h
              refine gx_iconst X (v := (0 : Int32)) dX4_work_85 (by decide) ?_
              obtain ⟨rfl, rfl⟩ := ret_eq h
              exact gx_iret X rfl dX4_work_86
          · replace h := (if_pos q5).symm.trans h
            exact gx_sub [1, 2, 3, 4, 0] rfl (t_X4_work_42 X hd (fun u0 u1 u2 u3 g h => ih u0 u1 u2 u3 g h) x0 x1 x2 x3 (rdI g (pgm x0 + 1) x3.toNatClampNeg) g h)
      · replace h := (if_neg q3).symm.trans h
        refine gx_goto X 232 dX4_work_27 (by decide) ?_
        refine gx_iinc X [(3, .int ((x3 + (1 : Int32)))), (4, .int ((rdI g (pgm x0 + 1) x3.toNatClampNeg))), (0, .ref (al (pgm x0))), (1, .int (x1)), (2, .int (x2))] 4 dX4_work_232 rfl rfl (by decide) rfl ?_
        refine gx_goto X 6 dX4_work_235 (by decide) ?_
        exact gx_sub [2, 3, 4, 0] rfl (ih x0 x1 x2 (x3 + (1 : Int32)) g h)
def m_X4_work (t0 : Int32) (g : Mm) : Option (Int32 × Mm) := m_X4_work_6 fuL t0 (0 : Int32) (0 : Int32) (0 : Int32) g
set_option maxHeartbeats 2000000 in
theorem c_X4_work {r2 : Int32} {g g2 : Mm} {t0 : Int32} (h : m_X4_work t0 g = some (r2, g2)) : gx_M 3 yX4_work cX4_work 5 (some .int) (fun al => [.ref (al (pgm t0))]) g (some (.int r2)) g2 := by
  have hd : 3 ≤ 3 := Nat.le_refl _
  refine gx_M.of (by decide +kernel) (fun _ => Nat.le_of_ble_eq_true rfl) ?_
  intro p l e R s m args below meth c D al cI cJ A X
  refine gx_eq (pc' := 0) (ls' := [(0, .ref (al (pgm t0)))]) (st' := []) (g' := g) ⟨rfl, rfl, rfl, rfl⟩ ?_
  unfold m_X4_work at h
  refine gx_iconst X (v := (0 : Int32)) dX4_work_0 (by decide) ?_
  refine gx_istore_n X [(1, .int ((0 : Int32))), (0, .ref (al (pgm t0)))] dX4_work_1 (by decide) rfl ?_
  refine gx_iconst X (v := (0 : Int32)) dX4_work_2 (by decide) ?_
  refine gx_istore_n X [(2, .int ((0 : Int32))), (1, .int ((0 : Int32))), (0, .ref (al (pgm t0)))] dX4_work_3 (by decide) rfl ?_
  refine gx_iconst X (v := (0 : Int32)) dX4_work_4 (by decide) ?_
  refine gx_istore_n X [(3, .int ((0 : Int32))), (2, .int ((0 : Int32))), (1, .int ((0 : Int32))), (0, .ref (al (pgm t0)))] dX4_work_5 (by decide) rfl ?_
  exact gx_sub [3, 2, 1, 0] rfl (t_X4_work_6 X hd fuL t0 (0 : Int32) (0 : Int32) (0 : Int32) g h)
end DC
