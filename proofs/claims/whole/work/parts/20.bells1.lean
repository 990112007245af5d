section DC
variable {p : Program} {l : Launch} {e : Env} {R : Room} {s : State} {m : MethodId} {args : Array Value} {below : List Frame} {meth : Method} {c : Code} {D : va_G} {al : Nat → Nat} {cI cJ : ClassId} {A : Nat → Prop} {d : Nat}
theorem dX9_shift_0 : decode cX9_shift 0 = .ok (.aload_n 0, 1) := by decide +kernel
theorem dX9_shift_1 : decode cX9_shift 1 = .ok (.getfield 63, 3) := by decide +kernel
theorem dX9_shift_4 : decode cX9_shift 4 = .ok (.iload_n 1, 1) := by decide +kernel
theorem dX9_shift_5 : decode cX9_shift 5 = .ok (.invokevirtual 107, 3) := by decide +kernel
theorem dX9_shift_8 : decode cX9_shift 8 = .ok (.ifCond .eq 14, 3) := by decide +kernel
theorem dX9_shift_11 : decode cX9_shift 11 = .ok (.aload_n 0, 1) := by decide +kernel
theorem dX9_shift_12 : decode cX9_shift 12 = .ok (.getfield 63, 3) := by decide +kernel
theorem dX9_shift_15 : decode cX9_shift 15 = .ok (.iload_n 3, 1) := by decide +kernel
theorem dX9_shift_16 : decode cX9_shift 16 = .ok (.invokevirtual 107, 3) := by decide +kernel
theorem dX9_shift_19 : decode cX9_shift 19 = .ok (.ifCond .ne 5, 3) := by decide +kernel
theorem dX9_shift_22 : decode cX9_shift 22 = .ok (.iconst (-1), 1) := by decide +kernel
theorem dX9_shift_23 : decode cX9_shift 23 = .ok (.ireturn, 1) := by decide +kernel
theorem dX9_shift_24 : decode cX9_shift 24 = .ok (.aload_n 0, 1) := by decide +kernel
theorem dX9_shift_25 : decode cX9_shift 25 = .ok (.getfield 63, 3) := by decide +kernel
theorem dX9_shift_28 : decode cX9_shift 28 = .ok (.iload_n 1, 1) := by decide +kernel
theorem dX9_shift_29 : decode cX9_shift 29 = .ok (.invokevirtual 113, 3) := by decide +kernel
theorem dX9_shift_32 : decode cX9_shift 32 = .ok (.ifCond .ne 14, 3) := by decide +kernel
theorem dX9_shift_35 : decode cX9_shift 35 = .ok (.aload_n 0, 1) := by decide +kernel
theorem dX9_shift_36 : decode cX9_shift 36 = .ok (.getfield 63, 3) := by decide +kernel
theorem dX9_shift_39 : decode cX9_shift 39 = .ok (.iload_n 3, 1) := by decide +kernel
theorem dX9_shift_40 : decode cX9_shift 40 = .ok (.invokevirtual 113, 3) := by decide +kernel
theorem dX9_shift_43 : decode cX9_shift 43 = .ok (.ifCond .eq 6, 3) := by decide +kernel
theorem dX9_shift_46 : decode cX9_shift 46 = .ok (.bipush (-11), 2) := by decide +kernel
theorem dX9_shift_48 : decode cX9_shift 48 = .ok (.ireturn, 1) := by decide +kernel
theorem dX9_shift_49 : decode cX9_shift 49 = .ok (.aload_n 0, 1) := by decide +kernel
theorem dX9_shift_50 : decode cX9_shift 50 = .ok (.getfield 63, 3) := by decide +kernel
theorem dX9_shift_53 : decode cX9_shift 53 = .ok (.iload_n 1, 1) := by decide +kernel
theorem dX9_shift_54 : decode cX9_shift 54 = .ok (.invokevirtual 323, 3) := by decide +kernel
theorem dX9_shift_57 : decode cX9_shift 57 = .ok (.ifCond .eq 15, 3) := by decide +kernel
theorem dX9_shift_60 : decode cX9_shift 60 = .ok (.aload_n 0, 1) := by decide +kernel
theorem dX9_shift_61 : decode cX9_shift 61 = .ok (.getfield 63, 3) := by decide +kernel
theorem dX9_shift_64 : decode cX9_shift 64 = .ok (.iload_n 1, 1) := by decide +kernel
theorem dX9_shift_65 : decode cX9_shift 65 = .ok (.iload_n 3, 1) := by decide +kernel
theorem dX9_shift_66 : decode cX9_shift 66 = .ok (.invokevirtual 326, 3) := by decide +kernel
theorem dX9_shift_69 : decode cX9_shift 69 = .ok (.ifCond .ne 6, 3) := by decide +kernel
theorem dX9_shift_72 : decode cX9_shift 72 = .ok (.bipush (-12), 2) := by decide +kernel
theorem dX9_shift_74 : decode cX9_shift 74 = .ok (.ireturn, 1) := by decide +kernel
theorem dX9_shift_75 : decode cX9_shift 75 = .ok (.aload_n 0, 1) := by decide +kernel
theorem dX9_shift_76 : decode cX9_shift 76 = .ok (.getfield 63, 3) := by decide +kernel
theorem dX9_shift_79 : decode cX9_shift 79 = .ok (.iload_n 1, 1) := by decide +kernel
theorem dX9_shift_80 : decode cX9_shift 80 = .ok (.iload_n 2, 1) := by decide +kernel
theorem dX9_shift_81 : decode cX9_shift 81 = .ok (.iload 5, 2) := by decide +kernel
theorem dX9_shift_83 : decode cX9_shift 83 = .ok (.invokevirtual 329, 3) := by decide +kernel
theorem dX9_shift_86 : decode cX9_shift 86 = .ok (.ifCond .eq 18, 3) := by decide +kernel
theorem dX9_shift_89 : decode cX9_shift 89 = .ok (.aload_n 0, 1) := by decide +kernel
theorem dX9_shift_90 : decode cX9_shift 90 = .ok (.getfield 63, 3) := by decide +kernel
theorem dX9_shift_93 : decode cX9_shift 93 = .ok (.iload_n 3, 1) := by decide +kernel
theorem dX9_shift_94 : decode cX9_shift 94 = .ok (.iload 4, 2) := by decide +kernel
theorem dX9_shift_96 : decode cX9_shift 96 = .ok (.iload 5, 2) := by decide +kernel
theorem dX9_shift_98 : decode cX9_shift 98 = .ok (.invokevirtual 329, 3) := by decide +kernel
theorem dX9_shift_101 : decode cX9_shift 101 = .ok (.ifCond .ne 6, 3) := by decide +kernel
theorem dX9_shift_104 : decode cX9_shift 104 = .ok (.bipush (-13), 2) := by decide +kernel
theorem dX9_shift_106 : decode cX9_shift 106 = .ok (.ireturn, 1) := by decide +kernel
theorem dX9_shift_107 : decode cX9_shift 107 = .ok (.aload_n 0, 1) := by decide +kernel
theorem dX9_shift_108 : decode cX9_shift 108 = .ok (.getfield 63, 3) := by decide +kernel
theorem dX9_shift_111 : decode cX9_shift 111 = .ok (.iload_n 1, 1) := by decide +kernel
theorem dX9_shift_112 : decode cX9_shift 112 = .ok (.iload_n 2, 1) := by decide +kernel
theorem dX9_shift_113 : decode cX9_shift 113 = .ok (.iload_n 3, 1) := by decide +kernel
theorem dX9_shift_114 : decode cX9_shift 114 = .ok (.iload 4, 2) := by decide +kernel
theorem dX9_shift_116 : decode cX9_shift 116 = .ok (.iload 5, 2) := by decide +kernel
theorem dX9_shift_118 : decode cX9_shift 118 = .ok (.invokevirtual 333, 3) := by decide +kernel
theorem dX9_shift_121 : decode cX9_shift 121 = .ok (.iload 5, 2) := by decide +kernel
theorem dX9_shift_123 : decode cX9_shift 123 = .ok (.ireturn, 1) := by decide +kernel
def m_X9_shift (a1 : Int32) (a2 : Int32) (a3 : Int32) (a4 : Int32) (a5 : Int32) (g : Mm) : Option (Int32 × Mm) := bdd (m_X6_hasShelf a1 g) (fun ra1 ga2 => (if ra1 = (0 : Int32) then some ((-1 : Int32), ga2) else bdd (m_X6_hasShelf a3 ga2) (fun ra5 ga6 => (if ra5 = (0 : Int32) then some ((-1 : Int32), ga6) else bdd (m_X6_isBare a1 ga6) (fun ra9 ga10 => (if ra9 = (0 : Int32) then bdd (m_X6_isBare a3 ga10) (fun ra13 ga14 => (if ra13 = (0 : Int32) then bdd (m_X6_holdsARow a1 ga14) (fun ra17 ga18 => (if ra17 = (0 : Int32) then some ((-12 : Int32), ga18) else bdd (m_X6_sameSort a1 a3 ga18) (fun ra21 ga22 => (if ra21 = (0 : Int32) then some ((-12 : Int32), ga22) else bdd (m_X6_hasPart a1 a2 a5 ga22) (fun ra25 ga26 => (if ra25 = (0 : Int32) then some ((-13 : Int32), ga26) else bdd (m_X6_hasPart a3 a4 a5 ga26) (fun ra29 ga30 => (if ra29 = (0 : Int32) then some ((-13 : Int32), ga30) else bdd (m_X6_copy a1 a2 a3 a4 a5 ga30) (fun ra33 ga34 => some (a5, ga34)))))))))) else some ((-11 : Int32), ga14))) else some ((-11 : Int32), ga10)))))))
set_option maxHeartbeats 2000000 in
theorem c_X9_shift {r2 : Int32} {g g2 : Mm} {a1 : Int32} {a2 : Int32} {a3 : Int32} {a4 : Int32} {a5 : Int32} (h : m_X9_shift a1 a2 a3 a4 a5 g = some (r2, g2)) : gx_M 2 yX9_shift cX9_shift 6 (some .int) (fun al => [.ref (al (0)), .int (a1), .int (a2), .int (a3), .int (a4), .int (a5)]) g (some (.int r2)) g2 := by
  have hd : 2 ≤ 2 := Nat.le_refl _
  refine gx_M.of (by decide +kernel) (fun _ => Nat.le_of_ble_eq_true rfl) ?_
  intro p l e R s m args below meth c D al cI cJ A X
  refine gx_eq (pc' := 0) (ls' := [(0, .ref (al (0))), (1, .int (a1)), (2, .int (a2)), (3, .int (a3)), (4, .int (a4)), (5, .int (a5))]) (st' := []) (g' := g) ⟨rfl, rfl, rfl, rfl⟩ ?_
  unfold m_X9_shift at h
  refine gx_aload_n X 0 rfl dX9_shift_0 ?_
  refine gx_getf X (0) lf_X9_63 (by decide) (cl_0 _ _) (v := .ref (al (35))) rfl dX9_shift_1 ?_
  refine gx_iload_n X 1 rfl dX9_shift_4 ?_
  obtain ⟨ra1, ga2, ca3, h⟩ := bdd_eq h
  refine gx_callNi X (35) (c_X6_hasShelf ca3) lc_X6_hasShelf li_X6_hasShelf lm_X9_107 (by decide) (cl_35 _ _) rfl rfl rfl (Nat.le_trans (by decide) hd) rfl (Nat.le_of_ble_eq_true rfl) dX9_shift_5 ?_
  refine gx_if_eq X 22 dX9_shift_8 (by decide) (fun q4 => ?_) (fun q4 => ?_)
  · replace h := (if_pos q4).symm.trans h
    refine gx_iconst X (v := (-1 : Int32)) dX9_shift_22 (by decide) ?_
    obtain ⟨rfl, rfl⟩ := ret_eq h
    exact gx_iret X rfl dX9_shift_23
  · replace h := (if_neg q4).symm.trans h
    refine gx_aload_n X 0 rfl dX9_shift_11 ?_
    refine gx_getf X (0) lf_X9_63 (by decide) (cl_0 _ _) (v := .ref (al (35))) rfl dX9_shift_12 ?_
    refine gx_iload_n X 3 rfl dX9_shift_15 ?_
    obtain ⟨ra5, ga6, ca7, h⟩ := bdd_eq h
    refine gx_callNi X (35) (c_X6_hasShelf ca7) lc_X6_hasShelf li_X6_hasShelf lm_X9_107 (by decide) (cl_35 _ _) rfl rfl rfl (Nat.le_trans (by decide) hd) rfl (Nat.le_of_ble_eq_true rfl) dX9_shift_16 ?_
    refine gx_if_ne X 24 dX9_shift_19 (by decide) (fun q8 => ?_) (fun q8 => ?_)
    · replace h := (if_neg q8).symm.trans h
      refine gx_aload_n X 0 rfl dX9_shift_24 ?_
      refine gx_getf X (0) lf_X9_63 (by decide) (cl_0 _ _) (v := .ref (al (35))) rfl dX9_shift_25 ?_
      refine gx_iload_n X 1 rfl dX9_shift_28 ?_
      obtain ⟨ra9, ga10, ca11, h⟩ := bdd_eq h
      refine gx_callNi X (35) (c_X6_isBare ca11) lc_X6_isBare li_X6_isBare lm_X9_113 (by decide) (cl_35 _ _) rfl rfl rfl (Nat.le_trans (by decide) hd) rfl (Nat.le_of_ble_eq_true rfl) dX9_shift_29 ?_
      refine gx_if_ne X 46 dX9_shift_32 (by decide) (fun q12 => ?_) (fun q12 => ?_)
      · replace h := (if_neg q12).symm.trans h
        refine gx_bipush X (v := (-11 : Int32)) dX9_shift_46 (by decide) ?_
        obtain ⟨rfl, rfl⟩ := ret_eq h
        exact gx_iret X rfl dX9_shift_48
      · replace h := (if_pos q12).symm.trans h
        refine gx_aload_n X 0 rfl dX9_shift_35 ?_
        refine gx_getf X (0) lf_X9_63 (by decide) (cl_0 _ _) (v := .ref (al (35))) rfl dX9_shift_36 ?_
        refine gx_iload_n X 3 rfl dX9_shift_39 ?_
        obtain ⟨ra13, ga14, ca15, h⟩ := bdd_eq h
        refine gx_callNi X (35) (c_X6_isBare ca15) lc_X6_isBare li_X6_isBare lm_X9_113 (by decide) (cl_35 _ _) rfl rfl rfl (Nat.le_trans (by decide) hd) rfl (Nat.le_of_ble_eq_true rfl) dX9_shift_40 ?_
        refine gx_if_eq X 49 dX9_shift_43 (by decide) (fun q16 => ?_) (fun q16 => ?_)
        · replace h := (if_pos q16).symm.trans h
          refine gx_aload_n X 0 rfl dX9_shift_49 ?_
          refine gx_getf X (0) lf_X9_63 (by decide) (cl_0 _ _) (v := .ref (al (35))) rfl dX9_shift_50 ?_
          refine gx_iload_n X 1 rfl dX9_shift_53 ?_
          obtain ⟨ra17, ga18, ca19, h⟩ := bdd_eq h
          refine gx_callNi X (35) (c_X6_holdsARow ca19) lc_X6_holdsARow li_X6_holdsARow lm_X9_323 (by decide) (cl_35 _ _) rfl rfl rfl (Nat.le_trans (by decide) hd) rfl (Nat.le_of_ble_eq_true rfl) dX9_shift_54 ?_
          refine gx_if_eq X 72 dX9_shift_57 (by decide) (fun q20 => ?_) (fun q20 => ?_)
          · replace h := (if_pos q20).symm.trans h
            refine gx_bipush X (v := (-12 : Int32)) dX9_shift_72 (by decide) ?_
            obtain ⟨rfl, rfl⟩ := ret_eq h
            exact gx_iret X rfl dX9_shift_74
          · replace h := (if_neg q20).symm.trans h
            refine gx_aload_n X 0 rfl dX9_shift_60 ?_
            refine gx_getf X (0) lf_X9_63 (by decide) (cl_0 _ _) (v := .ref (al (35))) rfl dX9_shift_61 ?_
            refine gx_iload_n X 1 rfl dX9_shift_64 ?_
            refine gx_iload_n X 3 rfl dX9_shift_65 ?_
            obtain ⟨ra21, ga22, ca23, h⟩ := bdd_eq h
            refine gx_callNi X (35) (c_X6_sameSort ca23) lc_X6_sameSort li_X6_sameSort lm_X9_326 (by decide) (cl_35 _ _) rfl rfl rfl (Nat.le_trans (by decide) hd) rfl (Nat.le_of_ble_eq_true rfl) dX9_shift_66 ?_
            refine gx_if_ne X 75 dX9_shift_69 (by decide) (fun q24 => ?_) (fun q24 => ?_)
            · replace h := (if_neg q24).symm.trans h
              refine gx_aload_n X 0 rfl dX9_shift_75 ?_
              refine gx_getf X (0) lf_X9_63 (by decide) (cl_0 _ _) (v := .ref (al (35))) rfl dX9_shift_76 ?_
              refine gx_iload_n X 1 rfl dX9_shift_79 ?_
              refine gx_iload_n X 2 rfl dX9_shift_80 ?_
              refine gx_iload X 5 rfl dX9_shift_81 ?_
              obtain ⟨ra25, ga26, ca27, h⟩ := bdd_eq h
              refine gx_callNi X (35) (c_X6_hasPart ca27) lc_X6_hasPart li_X6_hasPart lm_X9_329 (by decide) (cl_35 _ _) rfl rfl rfl (Nat.le_trans (by decide) hd) rfl (Nat.le_of_ble_eq_true rfl) dX9_shift_83 ?_
              refine gx_if_eq X 104 dX9_shift_86 (by decide) (fun q28 => ?_) (fun q28 => ?_)
              · replace h := (if_pos q28).symm.trans h
                refine gx_bipush X (v := (-13 : Int32)) dX9_shift_104 (by decide) ?_
                obtain ⟨rfl, rfl⟩ := ret_eq h
                exact gx_iret X rfl dX9_shift_106
              · replace h := (if_neg q28).symm.trans h
                refine gx_aload_n X 0 rfl dX9_shift_89 ?_
                refine gx_getf X (0) lf_X9_63 (by decide) (cl_0 _ _) (v := .ref (al (35))) rfl dX9_shift_90 ?_
                refine gx_iload_n X 3 rfl dX9_shift_93 ?_
                refine gx_iload X 4 rfl dX9_shift_94 ?_
                refine gx_iload X 5 rfl dX9_shift_96 ?_
                obtain ⟨ra29, ga30, ca31, h⟩ := bdd_eq h
                refine gx_callNi X (35) (c_X6_hasPart ca31) lc_X6_hasPart li_X6_hasPart lm_X9_329 (by decide) (cl_35 _ _) rfl rfl rfl (Nat.le_trans (by decide) hd) rfl (Nat.le_of_ble_eq_true rfl) dX9_shift_98 ?_
                refine gx_if_ne X 107 dX9_shift_101 (by decide) (fun q32 => ?_) (fun q32 => ?_)
                · replace h := (if_neg q32).symm.trans h
                  refine gx_aload_n X 0 rfl dX9_shift_107 ?_
                  refine gx_getf X (0) lf_X9_63 (by decide) (cl_0 _ _) (v := .ref (al (35))) rfl dX9_shift_108 ?_
                  refine gx_iload_n X 1 rfl dX9_shift_111 ?_
                  refine gx_iload_n X 2 rfl dX9_shift_112 ?_
                  refine gx_iload_n X 3 rfl dX9_shift_113 ?_
                  refine gx_iload X 4 rfl dX9_shift_114 ?_
                  refine gx_iload X 5 rfl dX9_shift_116 ?_
                  obtain ⟨ra33, ga34, ca35, h⟩ := bdd_eq h
                  refine gx_callNv X (35) (c_X6_copy ca35) lc_X6_copy li_X6_copy lm_X9_333 (by decide) (cl_35 _ _) rfl rfl rfl (Nat.le_trans (by decide) hd) rfl (Nat.le_of_ble_eq_true rfl) dX9_shift_118 ?_
                  refine gx_iload X 5 rfl dX9_shift_121 ?_
                  obtain ⟨rfl, rfl⟩ := ret_eq h
                  exact gx_iret X rfl dX9_shift_123
                · replace h := (if_pos q32).symm.trans h
                  refine gx_bipush X (v := (-13 : Int32)) dX9_shift_104 (by decide) ?_
                  obtain ⟨rfl, rfl⟩ := ret_eq h
                  exact gx_iret X rfl dX9_shift_106
            · replace h := (if_pos q24).symm.trans h
              refine gx_bipush X (v := (-12 : Int32)) dX9_shift_72 (by decide) ?_
              obtain ⟨rfl, rfl⟩ := ret_eq h
              exact gx_iret X rfl dX9_shift_74
        · replace h := (if_neg q16).symm.trans h
          refine gx_bipush X (v := (-11 : Int32)) dX9_shift_46 (by decide) ?_
          obtain ⟨rfl, rfl⟩ := ret_eq h
          exact gx_iret X rfl dX9_shift_48
    · replace h := (if_pos q8).symm.trans h
      refine gx_iconst X (v := (-1 : Int32)) dX9_shift_22 (by decide) ?_
      obtain ⟨rfl, rfl⟩ := ret_eq h
      exact gx_iret X rfl dX9_shift_23
theorem dX9_strike_0 : decode cX9_strike 0 = .ok (.aload_n 0, 1) := by decide +kernel
theorem dX9_strike_1 : decode cX9_strike 1 = .ok (.getfield 10, 3) := by decide +kernel
theorem dX9_strike_4 : decode cX9_strike 4 = .ok (.iload_n 1, 1) := by decide +kernel
theorem dX9_strike_5 : decode cX9_strike 5 = .ok (.invokevirtual 88, 3) := by decide +kernel
theorem dX9_strike_8 : decode cX9_strike 8 = .ok (.ifCond .eq 19, 3) := by decide +kernel
theorem dX9_strike_11 : decode cX9_strike 11 = .ok (.aload_n 0, 1) := by decide +kernel
theorem dX9_strike_12 : decode cX9_strike 12 = .ok (.getfield 10, 3) := by decide +kernel
theorem dX9_strike_15 : decode cX9_strike 15 = .ok (.iload_n 1, 1) := by decide +kernel
theorem dX9_strike_16 : decode cX9_strike 16 = .ok (.bipush 10, 2) := by decide +kernel
theorem dX9_strike_18 : decode cX9_strike 18 = .ok (.irem, 1) := by decide +kernel
theorem dX9_strike_19 : decode cX9_strike 19 = .ok (.iload_n 2, 1) := by decide +kernel
theorem dX9_strike_20 : decode cX9_strike 20 = .ok (.i2l, 1) := by decide +kernel
theorem dX9_strike_21 : decode cX9_strike 21 = .ok (.invokevirtual 92, 3) := by decide +kernel
theorem dX9_strike_24 : decode cX9_strike 24 = .ok (.ifCond .ne 5, 3) := by decide +kernel
theorem dX9_strike_27 : decode cX9_strike 27 = .ok (.iconst (-1), 1) := by decide +kernel
theorem dX9_strike_28 : decode cX9_strike 28 = .ok (.ireturn, 1) := by decide +kernel
theorem dX9_strike_29 : decode cX9_strike 29 = .ok (.aload_n 0, 1) := by decide +kernel
theorem dX9_strike_30 : decode cX9_strike 30 = .ok (.getfield 10, 3) := by decide +kernel
theorem dX9_strike_33 : decode cX9_strike 33 = .ok (.iload_n 1, 1) := by decide +kernel
theorem dX9_strike_34 : decode cX9_strike 34 = .ok (.bipush 10, 2) := by decide +kernel
theorem dX9_strike_36 : decode cX9_strike 36 = .ok (.idiv, 1) := by decide +kernel
theorem dX9_strike_37 : decode cX9_strike 37 = .ok (.iload_n 1, 1) := by decide +kernel
theorem dX9_strike_38 : decode cX9_strike 38 = .ok (.bipush 10, 2) := by decide +kernel
theorem dX9_strike_40 : decode cX9_strike 40 = .ok (.irem, 1) := by decide +kernel
theorem dX9_strike_41 : decode cX9_strike 41 = .ok (.invokevirtual 96, 3) := by decide +kernel
theorem dX9_strike_44 : decode cX9_strike 44 = .ok (.istore_n 3, 1) := by decide +kernel
theorem dX9_strike_45 : decode cX9_strike 45 = .ok (.iload_n 2, 1) := by decide +kernel
theorem dX9_strike_46 : decode cX9_strike 46 = .ok (.iload_n 3, 1) := by decide +kernel
theorem dX9_strike_47 : decode cX9_strike 47 = .ok (.if_icmp .eq 29, 3) := by decide +kernel
theorem dX9_strike_50 : decode cX9_strike 50 = .ok (.aload_n 0, 1) := by decide +kernel
theorem dX9_strike_51 : decode cX9_strike 51 = .ok (.getfield 10, 3) := by decide +kernel
theorem dX9_strike_54 : decode cX9_strike 54 = .ok (.iload_n 1, 1) := by decide +kernel
theorem dX9_strike_55 : decode cX9_strike 55 = .ok (.bipush 10, 2) := by decide +kernel
theorem dX9_strike_57 : decode cX9_strike 57 = .ok (.idiv, 1) := by decide +kernel
theorem dX9_strike_58 : decode cX9_strike 58 = .ok (.iload_n 1, 1) := by decide +kernel
theorem dX9_strike_59 : decode cX9_strike 59 = .ok (.bipush 10, 2) := by decide +kernel
theorem dX9_strike_61 : decode cX9_strike 61 = .ok (.irem, 1) := by decide +kernel
theorem dX9_strike_62 : decode cX9_strike 62 = .ok (.iload_n 2, 1) := by decide +kernel
theorem dX9_strike_63 : decode cX9_strike 63 = .ok (.invokevirtual 100, 3) := by decide +kernel
theorem dX9_strike_66 : decode cX9_strike 66 = .ok (.aload_n 0, 1) := by decide +kernel
theorem dX9_strike_67 : decode cX9_strike 67 = .ok (.getfield 19, 3) := by decide +kernel
theorem dX9_strike_70 : decode cX9_strike 70 = .ok (.iload_n 1, 1) := by decide +kernel
theorem dX9_strike_71 : decode cX9_strike 71 = .ok (.iload_n 3, 1) := by decide +kernel
theorem dX9_strike_72 : decode cX9_strike 72 = .ok (.iload_n 2, 1) := by decide +kernel
theorem dX9_strike_73 : decode cX9_strike 73 = .ok (.invokevirtual 104, 3) := by decide +kernel
theorem dX9_strike_76 : decode cX9_strike 76 = .ok (.iload_n 3, 1) := by decide +kernel
theorem dX9_strike_77 : decode cX9_strike 77 = .ok (.ireturn, 1) := by decide +kernel
def m_X9_strike (a1 : Int32) (a2 : Int32) (g : Mm) : Option (Int32 × Mm) := bdd (m_X8_hasCell a1 g) (fun ra1 ga2 => (if ra1 = (0 : Int32) then some ((-1 : Int32), ga2) else bdd (m_X8_mayStrike (rmI a1 (10 : Int32)) (a2.toInt64) ga2) (fun ra5 ga6 => (if ra5 = (0 : Int32) then some ((-1 : Int32), ga6) else bdd (m_X8_struck (a1 / (10 : Int32)) (rmI a1 (10 : Int32)) ga6) (fun ra9 ga10 => (if a2 = ra9 then some (ra9, ga10) else bdd (m_X8_write (a1 / (10 : Int32)) (rmI a1 (10 : Int32)) a2 ga10) (fun ra13 ga14 => bdd (m_X1_note a1 ra9 a2 ga14) (fun ra16 ga17 => some (ra9, ga17)))))))))
set_option maxHeartbeats 2000000 in
theorem c_X9_strike {r2 : Int32} {g g2 : Mm} {a1 : Int32} {a2 : Int32} (h : m_X9_strike a1 a2 g = some (r2, g2)) : gx_M 3 yX9_strike cX9_strike 4 (some .int) (fun al => [.ref (al (0)), .int (a1), .int (a2)]) g (some (.int r2)) g2 := by
  have hd : 3 ≤ 3 := Nat.le_refl _
  refine gx_M.of (by decide +kernel) (fun _ => Nat.le_of_ble_eq_true rfl) ?_
  intro p l e R s m args below meth c D al cI cJ A X
  refine gx_eq (pc' := 0) (ls' := [(0, .ref (al (0))), (1, .int (a1)), (2, .int (a2))]) (st' := []) (g' := g) ⟨rfl, rfl, rfl, rfl⟩ ?_
  unfold m_X9_strike at h
  refine gx_aload_n X 0 rfl dX9_strike_0 ?_
  refine gx_getf X (0) lf_X9_10 (by decide) (cl_0 _ _) (v := .ref (al (1))) rfl dX9_strike_1 ?_
  refine gx_iload_n X 1 rfl dX9_strike_4 ?_
  obtain ⟨ra1, ga2, ca3, h⟩ := bdd_eq h
  refine gx_callNi X (1) (c_X8_hasCell ca3) lc_X8_hasCell li_X8_hasCell lm_X9_88 (by decide) (cl_1 _ _) rfl rfl rfl (Nat.le_trans (by decide) hd) rfl (Nat.le_of_ble_eq_true rfl) dX9_strike_5 ?_
  refine gx_if_eq X 27 dX9_strike_8 (by decide) (fun q4 => ?_) (fun q4 => ?_)
  · replace h := (if_pos q4).symm.trans h
    refine gx_iconst X (v := (-1 : Int32)) dX9_strike_27 (by decide) ?_
    obtain ⟨rfl, rfl⟩ := ret_eq h
    exact gx_iret X rfl dX9_strike_28
  · replace h := (if_neg q4).symm.trans h
    refine gx_aload_n X 0 rfl dX9_strike_11 ?_
    refine gx_getf X (0) lf_X9_10 (by decide) (cl_0 _ _) (v := .ref (al (1))) rfl dX9_strike_12 ?_
    refine gx_iload_n X 1 rfl dX9_strike_15 ?_
    refine gx_bipush X (v := (10 : Int32)) dX9_strike_16 (by decide) ?_
    refine gx_irem X dX9_strike_18 (by decide) ?_
    refine gx_iload_n X 2 rfl dX9_strike_19 ?_
    refine gx_i2l X dX9_strike_20 ?_
    obtain ⟨ra5, ga6, ca7, h⟩ := bdd_eq h
    refine gx_callNi X (1) (c_X8_mayStrike ca7) lc_X8_mayStrike li_X8_mayStrike lm_X9_92 (by decide) (cl_1 _ _) rfl rfl rfl (Nat.le_trans (by decide) hd) rfl (Nat.le_of_ble_eq_true rfl) dX9_strike_21 ?_
    refine gx_if_ne X 29 dX9_strike_24 (by decide) (fun q8 => ?_) (fun q8 => ?_)
    · replace h := (if_neg q8).symm.trans h
      refine gx_aload_n X 0 rfl dX9_strike_29 ?_
      refine gx_getf X (0) lf_X9_10 (by decide) (cl_0 _ _) (v := .ref (al (1))) rfl dX9_strike_30 ?_
      refine gx_iload_n X 1 rfl dX9_strike_33 ?_
      refine gx_bipush X (v := (10 : Int32)) dX9_strike_34 (by decide) ?_
      refine gx_idiv X dX9_strike_36 (by decide) ?_
      refine gx_iload_n X 1 rfl dX9_strike_37 ?_
      refine gx_bipush X (v := (10 : Int32)) dX9_strike_38 (by decide) ?_
      refine gx_irem X dX9_strike_40 (by decide) ?_
      obtain ⟨ra9, ga10, ca11, h⟩ := bdd_eq h
      refine gx_callNi X (1) (c_X8_struck ca11) lc_X8_struck li_X8_struck lm_X9_96 (by decide) (cl_1 _ _) rfl rfl rfl (Nat.le_trans (by decide) hd) rfl (Nat.le_of_ble_eq_true rfl) dX9_strike_41 ?_
      refine gx_istore_n X [(3, .int (ra9)), (0, .ref (al (0))), (1, .int (a1)), (2, .int (a2))] dX9_strike_44 (by decide) rfl ?_
      refine gx_iload_n X 3 rfl dX9_strike_45 ?_
      refine gx_iload_n X 0 rfl dX9_strike_46 ?_
      refine gx_icmp_eq X 76 dX9_strike_47 (by decide) (fun q12 => ?_) (fun q12 => ?_)
      · replace h := (if_pos q12).symm.trans h
        refine gx_iload_n X 0 rfl dX9_strike_76 ?_
        obtain ⟨rfl, rfl⟩ := ret_eq h
        exact gx_iret X rfl dX9_strike_77
      · replace h := (if_neg q12).symm.trans h
        refine gx_aload_n X 1 rfl dX9_strike_50 ?_
        refine gx_getf X (0) lf_X9_10 (by decide) (cl_0 _ _) (v := .ref (al (1))) rfl dX9_strike_51 ?_
        refine gx_iload_n X 2 rfl dX9_strike_54 ?_
        refine gx_bipush X (v := (10 : Int32)) dX9_strike_55 (by decide) ?_
        refine gx_idiv X dX9_strike_57 (by decide) ?_
        refine gx_iload_n X 2 rfl dX9_strike_58 ?_
        refine gx_bipush X (v := (10 : Int32)) dX9_strike_59 (by decide) ?_
        refine gx_irem X dX9_strike_61 (by decide) ?_
        refine gx_iload_n X 3 rfl dX9_strike_62 ?_
        obtain ⟨ra13, ga14, ca15, h⟩ := bdd_eq h
        refine gx_callNv X (1) (c_X8_write ca15) lc_X8_write li_X8_write lm_X9_100 (by decide) (cl_1 _ _) rfl rfl rfl (Nat.le_trans (by decide) hd) rfl (Nat.le_of_ble_eq_true rfl) dX9_strike_63 ?_
        refine gx_aload_n X 1 rfl dX9_strike_66 ?_
        refine gx_getf X (0) lf_X9_19 (by decide) (cl_0 _ _) (v := .ref (al (7))) rfl dX9_strike_67 ?_
        refine gx_iload_n X 2 rfl dX9_strike_70 ?_
        refine gx_iload_n X 0 rfl dX9_strike_71 ?_
        refine gx_iload_n X 3 rfl dX9_strike_72 ?_
        obtain ⟨ra16, ga17, ca18, h⟩ := bdd_eq h
        refine gx_callNv X (7) (c_X1_note ca18) lc_X1_note li_X1_note lm_X9_104 (by decide) (cl_7 _ _) rfl rfl rfl (Nat.le_trans (by decide) hd) rfl (Nat.le_of_ble_eq_true rfl) dX9_strike_73 ?_
        refine gx_iload_n X 0 rfl dX9_strike_76 ?_
        obtain ⟨rfl, rfl⟩ := ret_eq h
        exact gx_iret X rfl dX9_strike_77
    · replace h := (if_pos q8).symm.trans h
      refine gx_iconst X (v := (-1 : Int32)) dX9_strike_27 (by decide) ?_
      obtain ⟨rfl, rfl⟩ := ret_eq h
      exact gx_iret X rfl dX9_strike_28
theorem dX9_strikes_0 : decode cX9_strikes 0 = .ok (.aload_n 0, 1) := by decide +kernel
theorem dX9_strikes_1 : decode cX9_strikes 1 = .ok (.getfield 63, 3) := by decide +kernel
theorem dX9_strikes_4 : decode cX9_strikes 4 = .ok (.iload_n 1, 1) := by decide +kernel
theorem dX9_strikes_5 : decode cX9_strikes 5 = .ok (.invokevirtual 107, 3) := by decide +kernel
theorem dX9_strikes_8 : decode cX9_strikes 8 = .ok (.ifCond .eq 32, 3) := by decide +kernel
theorem dX9_strikes_11 : decode cX9_strikes 11 = .ok (.aload_n 0, 1) := by decide +kernel
theorem dX9_strikes_12 : decode cX9_strikes 12 = .ok (.getfield 10, 3) := by decide +kernel
theorem dX9_strikes_15 : decode cX9_strikes 15 = .ok (.iload_n 3, 1) := by decide +kernel
theorem dX9_strikes_16 : decode cX9_strikes 16 = .ok (.invokevirtual 110, 3) := by decide +kernel
theorem dX9_strikes_19 : decode cX9_strikes 19 = .ok (.ifCond .eq 21, 3) := by decide +kernel
theorem dX9_strikes_22 : decode cX9_strikes 22 = .ok (.iload 4, 2) := by decide +kernel
theorem dX9_strikes_24 : decode cX9_strikes 24 = .ok (.iconst 1, 1) := by decide +kernel
theorem dX9_strikes_25 : decode cX9_strikes 25 = .ok (.if_icmp .lt 15, 3) := by decide +kernel
theorem dX9_strikes_28 : decode cX9_strikes 28 = .ok (.iload 4, 2) := by decide +kernel
theorem dX9_strikes_30 : decode cX9_strikes 30 = .ok (.aload_n 0, 1) := by decide +kernel
theorem dX9_strikes_31 : decode cX9_strikes 31 = .ok (.getfield 10, 3) := by decide +kernel
theorem dX9_strikes_34 : decode cX9_strikes 34 = .ok (.getfield 75, 3) := by decide +kernel
theorem dX9_strikes_37 : decode cX9_strikes 37 = .ok (.if_icmp .le 5, 3) := by decide +kernel
theorem dX9_strikes_40 : decode cX9_strikes 40 = .ok (.iconst (-1), 1) := by decide +kernel
theorem dX9_strikes_41 : decode cX9_strikes 41 = .ok (.ireturn, 1) := by decide +kernel
theorem dX9_strikes_42 : decode cX9_strikes 42 = .ok (.aload_n 0, 1) := by decide +kernel
theorem dX9_strikes_43 : decode cX9_strikes 43 = .ok (.getfield 63, 3) := by decide +kernel
theorem dX9_strikes_46 : decode cX9_strikes 46 = .ok (.iload_n 1, 1) := by decide +kernel
theorem dX9_strikes_47 : decode cX9_strikes 47 = .ok (.invokevirtual 113, 3) := by decide +kernel
theorem dX9_strikes_50 : decode cX9_strikes 50 = .ok (.ifCond .ne 17, 3) := by decide +kernel
theorem dX9_strikes_53 : decode cX9_strikes 53 = .ok (.aload_n 0, 1) := by decide +kernel
theorem dX9_strikes_54 : decode cX9_strikes 54 = .ok (.getfield 63, 3) := by decide +kernel
theorem dX9_strikes_57 : decode cX9_strikes 57 = .ok (.iload_n 1, 1) := by decide +kernel
theorem dX9_strikes_58 : decode cX9_strikes 58 = .ok (.invokevirtual 116, 3) := by decide +kernel
theorem dX9_strikes_61 : decode cX9_strikes 61 = .ok (.ifCond .ne 6, 3) := by decide +kernel
theorem dX9_strikes_64 : decode cX9_strikes 64 = .ok (.bipush (-12), 2) := by decide +kernel
theorem dX9_strikes_66 : decode cX9_strikes 66 = .ok (.ireturn, 1) := by decide +kernel
theorem dX9_strikes_67 : decode cX9_strikes 67 = .ok (.iconst 0, 1) := by decide +kernel
theorem dX9_strikes_68 : decode cX9_strikes 68 = .ok (.istore 5, 2) := by decide +kernel
theorem dX9_strikes_70 : decode cX9_strikes 70 = .ok (.iload 5, 2) := by decide +kernel
theorem dX9_strikes_72 : decode cX9_strikes 72 = .ok (.iload 4, 2) := by decide +kernel
theorem dX9_strikes_74 : decode cX9_strikes 74 = .ok (.if_icmp .ge 70, 3) := by decide +kernel
theorem dX9_strikes_77 : decode cX9_strikes 77 = .ok (.aload_n 0, 1) := by decide +kernel
theorem dX9_strikes_78 : decode cX9_strikes 78 = .ok (.getfield 63, 3) := by decide +kernel
theorem dX9_strikes_81 : decode cX9_strikes 81 = .ok (.iload_n 1, 1) := by decide +kernel
theorem dX9_strikes_82 : decode cX9_strikes 82 = .ok (.iload_n 2, 1) := by decide +kernel
theorem dX9_strikes_83 : decode cX9_strikes 83 = .ok (.iload 5, 2) := by decide +kernel
theorem dX9_strikes_85 : decode cX9_strikes 85 = .ok (.iadd, 1) := by decide +kernel
theorem dX9_strikes_86 : decode cX9_strikes 86 = .ok (.invokevirtual 119, 3) := by decide +kernel
theorem dX9_strikes_89 : decode cX9_strikes 89 = .ok (.ifCond .eq 55, 3) := by decide +kernel
theorem dX9_strikes_92 : decode cX9_strikes 92 = .ok (.aload_n 0, 1) := by decide +kernel
theorem dX9_strikes_93 : decode cX9_strikes 93 = .ok (.getfield 10, 3) := by decide +kernel
theorem dX9_strikes_96 : decode cX9_strikes 96 = .ok (.iload_n 3, 1) := by decide +kernel
theorem dX9_strikes_97 : decode cX9_strikes 97 = .ok (.aload_n 0, 1) := by decide +kernel
theorem dX9_strikes_98 : decode cX9_strikes 98 = .ok (.getfield 63, 3) := by decide +kernel
theorem dX9_strikes_101 : decode cX9_strikes 101 = .ok (.iload_n 1, 1) := by decide +kernel
theorem dX9_strikes_102 : decode cX9_strikes 102 = .ok (.iload_n 2, 1) := by decide +kernel
theorem dX9_strikes_103 : decode cX9_strikes 103 = .ok (.iload 5, 2) := by decide +kernel
theorem dX9_strikes_105 : decode cX9_strikes 105 = .ok (.iadd, 1) := by decide +kernel
theorem dX9_strikes_106 : decode cX9_strikes 106 = .ok (.invokevirtual 123, 3) := by decide +kernel
theorem dX9_strikes_109 : decode cX9_strikes 109 = .ok (.invokevirtual 92, 3) := by decide +kernel
theorem dX9_strikes_112 : decode cX9_strikes 112 = .ok (.ifCond .eq 32, 3) := by decide +kernel
theorem dX9_strikes_115 : decode cX9_strikes 115 = .ok (.aload_n 0, 1) := by decide +kernel
theorem dX9_strikes_116 : decode cX9_strikes 116 = .ok (.getfield 10, 3) := by decide +kernel
theorem dX9_strikes_119 : decode cX9_strikes 119 = .ok (.iload 5, 2) := by decide +kernel
theorem dX9_strikes_121 : decode cX9_strikes 121 = .ok (.iload_n 3, 1) := by decide +kernel
theorem dX9_strikes_122 : decode cX9_strikes 122 = .ok (.aload_n 0, 1) := by decide +kernel
theorem dX9_strikes_123 : decode cX9_strikes 123 = .ok (.getfield 63, 3) := by decide +kernel
theorem dX9_strikes_126 : decode cX9_strikes 126 = .ok (.iload_n 1, 1) := by decide +kernel
theorem dX9_strikes_127 : decode cX9_strikes 127 = .ok (.iload_n 2, 1) := by decide +kernel
theorem dX9_strikes_128 : decode cX9_strikes 128 = .ok (.iload 5, 2) := by decide +kernel
theorem dX9_strikes_130 : decode cX9_strikes 130 = .ok (.iadd, 1) := by decide +kernel
theorem dX9_strikes_131 : decode cX9_strikes 131 = .ok (.invokevirtual 123, 3) := by decide +kernel
theorem dX9_strikes_134 : decode cX9_strikes 134 = .ok (.l2i, 1) := by decide +kernel
theorem dX9_strikes_135 : decode cX9_strikes 135 = .ok (.invokevirtual 100, 3) := by decide +kernel
theorem dX9_strikes_138 : decode cX9_strikes 138 = .ok (.iinc 5 1, 3) := by decide +kernel
theorem dX9_strikes_141 : decode cX9_strikes 141 = .ok (.goto (-71), 3) := by decide +kernel
theorem dX9_strikes_144 : decode cX9_strikes 144 = .ok (.iload 5, 2) := by decide +kernel
theorem dX9_strikes_146 : decode cX9_strikes 146 = .ok (.ifCond .le 10, 3) := by decide +kernel
theorem dX9_strikes_149 : decode cX9_strikes 149 = .ok (.aload_n 0, 1) := by decide +kernel
theorem dX9_strikes_150 : decode cX9_strikes 150 = .ok (.getfield 19, 3) := by decide +kernel
theorem dX9_strikes_153 : decode cX9_strikes 153 = .ok (.invokevirtual 82, 3) := by decide +kernel
theorem dX9_strikes_156 : decode cX9_strikes 156 = .ok (.iload 5, 2) := by decide +kernel
theorem dX9_strikes_158 : decode cX9_strikes 158 = .ok (.ireturn, 1) := by decide +kernel
def m_X9_strikes_144 (x5 : Int32) (g : Mm) : Option (Int32 × Mm) := (if x5 ≤ (0 : Int32) then some (x5, g) else bdd (m_X1_forgetAll  g) (fun ra2 ga3 => some (x5, ga3)))
set_option maxHeartbeats 2000000 in
theorem t_X9_strikes_144 {r2 : Int32} {g2 : Mm} (X : gx_X p R s m args meth c D al cI cJ A RX9 cX9_strikes 6 (some .int) d 0 0) (hd : 2 ≤ d) : ∀ (x5 : Int32) (g : Mm), m_X9_strikes_144 x5 g = some (r2, g2) → gx_G p l e R s m args below meth c (gx_Q below args s D al cI cJ A (some (.int r2)) g2) D al cI cJ A 6 0 0 144 [(0, .ref (al (0))), (5, .int (x5))] [] g := by
  intro x5 g h
  unfold m_X9_strikes_144 at h
  refine gx_iload X 1 rfl dX9_strikes_144 ?_
  refine gx_if_le X 156 dX9_strikes_146 (by decide) (fun q1 => ?_) (fun q1 => ?_)
  · replace h := (if_pos q1).symm.trans h
    refine gx_iload X 1 rfl dX9_strikes_156 ?_
    obtain ⟨rfl, rfl⟩ := ret_eq h
    exact gx_iret X rfl dX9_strikes_158
  · replace h := (if_neg q1).symm.trans h
    refine gx_aload_n X 0 rfl dX9_strikes_149 ?_
    refine gx_getf X (0) lf_X9_19 (by decide) (cl_0 _ _) (v := .ref (al (7))) rfl dX9_strikes_150 ?_
    obtain ⟨ra2, ga3, ca4, h⟩ := bdd_eq h
    refine gx_callNv X (7) (c_X1_forgetAll ca4) lc_X1_forgetAll li_X1_forgetAll lm_X9_82 (by decide) (cl_7 _ _) rfl rfl rfl (Nat.le_trans (by decide) hd) rfl (Nat.le_of_ble_eq_true rfl) dX9_strikes_153 ?_
    refine gx_iload X 1 rfl dX9_strikes_156 ?_
    obtain ⟨rfl, rfl⟩ := ret_eq h
    exact gx_iret X rfl dX9_strikes_158
def m_X9_strikes_70 : Nat → Int32 → Int32 → Int32 → Int32 → Int32 → Mm → Option (Int32 × Mm)
  | 0, _, _, _, _, _, _ => none
  | n + 1, x1, x2, x3, x4, x5, g => (if x4 ≤ x5 then m_X9_strikes_144 x5 g else bdd (m_X6_hasPlace x1 (x2 + x5) g) (fun ra2 ga3 => (if ra2 = (0 : Int32) then m_X9_strikes_144 x5 ga3 else bdd (m_X6_at x1 (x2 + x5) ga3) (fun ra6 ga7 => bdd (m_X8_mayStrike x3 ra6 ga7) (fun ra9 ga10 => (if ra9 = (0 : Int32) then m_X9_strikes_144 x5 ga10 else bdd (m_X6_at x1 (x2 + x5) ga10) (fun ra13 ga14 => bdd (m_X8_write x5 x3 (ra13.toInt32) ga14) (fun ra16 ga17 => m_X9_strikes_70 n x1 x2 x3 x4 (x5 + (1 : Int32)) ga17))))))))
set_option maxHeartbeats 2000000 in
theorem t_X9_strikes_70 {r2 : Int32} {g2 : Mm} (X : gx_X p R s m args meth c D al cI cJ A RX9 cX9_strikes 6 (some .int) d 0 0) (hd : 2 ≤ d) : ∀ (n : Nat) (x1 : Int32) (x2 : Int32) (x3 : Int32) (x4 : Int32) (x5 : Int32) (g : Mm), m_X9_strikes_70 n x1 x2 x3 x4 x5 g = some (r2, g2) → gx_G p l e R s m args below meth c (gx_Q below args s D al cI cJ A (some (.int r2)) g2) D al cI cJ A 6 0 0 70 [(0, .ref (al (0))), (1, .int (x1)), (2, .int (x2)), (3, .int (x3)), (4, .int (x4)), (5, .int (x5))] [] g := by
  intro n
  induction n with
  | zero => intro x1 x2 x3 x4 x5 g h; cases h
  | succ n ih =>
    intro x1 x2 x3 x4 x5 g h
    rw [m_X9_strikes_70] at h
    refine gx_iload X 5 rfl dX9_strikes_70 ?_
    refine gx_iload X 4 rfl dX9_strikes_72 ?_
    refine gx_icmp_ge X 144 dX9_strikes_74 (by decide) (fun q1 => ?_) (fun q1 => ?_)
    · replace h := (if_pos q1).symm.trans h
      exact gx_sub [0, 5] rfl (t_X9_strikes_144 X hd x5 g h)
    · replace h := (if_neg q1).symm.trans h
      refine gx_aload_n X 0 rfl dX9_strikes_77 ?_
      refine gx_getf X (0) lf_X9_63 (by decide) (cl_0 _ _) (v := .ref (al (35))) rfl dX9_strikes_78 ?_
      refine gx_iload_n X 1 rfl dX9_strikes_81 ?_
      refine gx_iload_n X 2 rfl dX9_strikes_82 ?_
      refine gx_iload X 5 rfl dX9_strikes_83 ?_
      refine gx_iadd X dX9_strikes_85 ?_
      obtain ⟨ra2, ga3, ca4, h⟩ := bdd_eq h
      refine gx_callNi X (35) (c_X6_hasPlace ca4) lc_X6_hasPlace li_X6_hasPlace lm_X9_119 (by decide) (cl_35 _ _) rfl rfl rfl (Nat.le_trans (by decide) hd) rfl (Nat.le_of_ble_eq_true rfl) dX9_strikes_86 ?_
      refine gx_if_eq X 144 dX9_strikes_89 (by decide) (fun q5 => ?_) (fun q5 => ?_)
      · replace h := (if_pos q5).symm.trans h
        exact gx_sub [0, 5] rfl (t_X9_strikes_144 X hd x5 ga3 h)
      · replace h := (if_neg q5).symm.trans h
        refine gx_aload_n X 0 rfl dX9_strikes_92 ?_
        refine gx_getf X (0) lf_X9_10 (by decide) (cl_0 _ _) (v := .ref (al (1))) rfl dX9_strikes_93 ?_
        refine gx_iload_n X 3 rfl dX9_strikes_96 ?_
        refine gx_aload_n X 0 rfl dX9_strikes_97 ?_
        refine gx_getf X (0) lf_X9_63 (by decide) (cl_0 _ _) (v := .ref (al (35))) rfl dX9_strikes_98 ?_
        refine gx_iload_n X 1 rfl dX9_strikes_101 ?_
        refine gx_iload_n X 2 rfl dX9_strikes_102 ?_
        refine gx_iload X 5 rfl dX9_strikes_103 ?_
        refine gx_iadd X dX9_strikes_105 ?_
        obtain ⟨ra6, ga7, ca8, h⟩ := bdd_eq h
        refine gx_callNl X (35) (c_X6_at ca8) lc_X6_at li_X6_at lm_X9_123 (by decide) (cl_35 _ _) rfl rfl rfl (Nat.le_trans (by decide) hd) rfl (Nat.le_of_ble_eq_true rfl) dX9_strikes_106 ?_
        obtain ⟨ra9, ga10, ca11, h⟩ := bdd_eq h
        refine gx_callNi X (1) (c_X8_mayStrike ca11) lc_X8_mayStrike li_X8_mayStrike lm_X9_92 (by decide) (cl_1 _ _) rfl rfl rfl (Nat.le_trans (by decide) hd) rfl (Nat.le_of_ble_eq_true rfl) dX9_strikes_109 ?_
        refine gx_if_eq X 144 dX9_strikes_112 (by decide) (fun q12 => ?_) (fun q12 => ?_)
        · replace h := (if_pos q12).symm.trans h
          exact gx_sub [0, 5] rfl (t_X9_strikes_144 X hd x5 ga10 h)
        · replace h := (if_neg q12).symm.trans h
          refine gx_aload_n X 0 rfl dX9_strikes_115 ?_
          refine gx_getf X (0) lf_X9_10 (by decide) (cl_0 _ _) (v := .ref (al (1))) rfl dX9_strikes_116 ?_
          refine gx_iload X 5 rfl dX9_strikes_119 ?_
          refine gx_iload_n X 3 rfl dX9_strikes_121 ?_
          refine gx_aload_n X 0 rfl dX9_strikes_122 ?_
          refine gx_getf X (0) lf_X9_63 (by decide) (cl_0 _ _) (v := .ref (al (35))) rfl dX9_strikes_123 ?_
          refine gx_iload_n X 1 rfl dX9_strikes_126 ?_
          refine gx_iload_n X 2 rfl dX9_strikes_127 ?_
          refine gx_iload X 5 rfl dX9_strikes_128 ?_
          refine gx_iadd X dX9_strikes_130 ?_
          obtain ⟨ra13, ga14, ca15, h⟩ := bdd_eq h
          refine gx_callNl X (35) (c_X6_at ca15) lc_X6_at li_X6_at lm_X9_123 (by decide) (cl_35 _ _) rfl rfl rfl (Nat.le_trans (by decide) hd) rfl (Nat.le_of_ble_eq_true rfl) dX9_strikes_131 ?_
          refine gx_l2i X dX9_strikes_134 ?_
          obtain ⟨ra16, ga17, ca18, h⟩ := bdd_eq h
          refine gx_callNv X (1) (c_X8_write ca18) lc_X8_write li_X8_write lm_X9_100 (by decide) (cl_1 _ _) rfl rfl rfl (Nat.le_trans (by decide) hd) rfl (Nat.le_of_ble_eq_true rfl) dX9_strikes_135 ?_
          refine gx_iinc X [(5, .int ((x5 + (1 : Int32)))), (0, .ref (al (0))), (1, .int (x1)), (2, .int (x2)), (3, .int (x3)), (4, .int (x4))] 5 dX9_strikes_138 rfl rfl (by decide) rfl ?_
          refine gx_goto X 70 dX9_strikes_141 (by decide) ?_
          exact gx_sub [1, 2, 3, 4, 5, 0] rfl (ih x1 x2 x3 x4 (x5 + (1 : Int32)) ga17 h)
def m_X9_strikes (a1 : Int32) (a2 : Int32) (a3 : Int32) (a4 : Int32) (g : Mm) : Option (Int32 × Mm) := bdd (m_X6_hasShelf a1 g) (fun ra1 ga2 => (if ra1 = (0 : Int32) then some ((-1 : Int32), ga2) else bdd (m_X8_hasBell a3 ga2) (fun ra5 ga6 => (if ra5 = (0 : Int32) then some ((-1 : Int32), ga6) else (if a4 < (1 : Int32) then some ((-1 : Int32), ga6) else (if a4 ≤ (rdI ga6 1 1) then bdd (m_X6_isBare a1 ga6) (fun ra11 ga12 => (if ra11 = (0 : Int32) then bdd (m_X6_holdsBytes a1 ga12) (fun ra15 ga16 => (if ra15 = (0 : Int32) then some ((-12 : Int32), ga16) else m_X9_strikes_70 fuL a1 a2 a3 a4 (0 : Int32) ga16)) else m_X9_strikes_70 fuL a1 a2 a3 a4 (0 : Int32) ga12)) else some ((-1 : Int32), ga6)))))))
set_option maxHeartbeats 2000000 in
theorem c_X9_strikes {r2 : Int32} {g g2 : Mm} {a1 : Int32} {a2 : Int32} {a3 : Int32} {a4 : Int32} (h : m_X9_strikes a1 a2 a3 a4 g = some (r2, g2)) : gx_M 2 yX9_strikes cX9_strikes 6 (some .int) (fun al => [.ref (al (0)), .int (a1), .int (a2), .int (a3), .int (a4)]) g (some (.int r2)) g2 := by
  have hd : 2 ≤ 2 := Nat.le_refl _
  refine gx_M.of (by decide +kernel) (fun _ => Nat.le_of_ble_eq_true rfl) ?_
  intro p l e R s m args below meth c D al cI cJ A X
  refine gx_eq (pc' := 0) (ls' := [(0, .ref (al (0))), (1, .int (a1)), (2, .int (a2)), (3, .int (a3)), (4, .int (a4))]) (st' := []) (g' := g) ⟨rfl, rfl, rfl, rfl⟩ ?_
  unfold m_X9_strikes at h
  refine gx_aload_n X 0 rfl dX9_strikes_0 ?_
  refine gx_getf X (0) lf_X9_63 (by decide) (cl_0 _ _) (v := .ref (al (35))) rfl dX9_strikes_1 ?_
  refine gx_iload_n X 1 rfl dX9_strikes_4 ?_
  obtain ⟨ra1, ga2, ca3, h⟩ := bdd_eq h
  refine gx_callNi X (35) (c_X6_hasShelf ca3) lc_X6_hasShelf li_X6_hasShelf lm_X9_107 (by decide) (cl_35 _ _) rfl rfl rfl (Nat.le_trans (by decide) hd) rfl (Nat.le_of_ble_eq_true rfl) dX9_strikes_5 ?_
  refine gx_if_eq X 40 dX9_strikes_8 (by decide) (fun q4 => ?_) (fun q4 => ?_)
  · replace h := (if_pos q4).symm.trans h
    refine gx_iconst X (v := (-1 : Int32)) dX9_strikes_40 (by decide) ?_
    obtain ⟨rfl, rfl⟩ := ret_eq h
    exact gx_iret X rfl dX9_strikes_41
  · replace h := (if_neg q4).symm.trans h
    refine gx_aload_n X 0 rfl dX9_strikes_11 ?_
    refine gx_getf X (0) lf_X9_10 (by decide) (cl_0 _ _) (v := .ref (al (1))) rfl dX9_strikes_12 ?_
    refine gx_iload_n X 3 rfl dX9_strikes_15 ?_
    obtain ⟨ra5, ga6, ca7, h⟩ := bdd_eq h
    refine gx_callNi X (1) (c_X8_hasBell ca7) lc_X8_hasBell li_X8_hasBell lm_X9_110 (by decide) (cl_1 _ _) rfl rfl rfl (Nat.le_trans (by decide) hd) rfl (Nat.le_of_ble_eq_true rfl) dX9_strikes_16 ?_
    refine gx_if_eq X 40 dX9_strikes_19 (by decide) (fun q8 => ?_) (fun q8 => ?_)
    · replace h := (if_pos q8).symm.trans h
      refine gx_iconst X (v := (-1 : Int32)) dX9_strikes_40 (by decide) ?_
      obtain ⟨rfl, rfl⟩ := ret_eq h
      exact gx_iret X rfl dX9_strikes_41
    · replace h := (if_neg q8).symm.trans h
      refine gx_iload X 4 rfl dX9_strikes_22 ?_
      refine gx_iconst X (v := (1 : Int32)) dX9_strikes_24 (by decide) ?_
      refine gx_icmp_lt X 40 dX9_strikes_25 (by decide) (fun q9 => ?_) (fun q9 => ?_)
      · replace h := (if_pos q9).symm.trans h
        refine gx_iconst X (v := (-1 : Int32)) dX9_strikes_40 (by decide) ?_
        obtain ⟨rfl, rfl⟩ := ret_eq h
        exact gx_iret X rfl dX9_strikes_41
      · replace h := (if_neg q9).symm.trans h
        refine gx_iload X 4 rfl dX9_strikes_28 ?_
        refine gx_aload_n X 0 rfl dX9_strikes_30 ?_
        refine gx_getf X (0) lf_X9_10 (by decide) (cl_0 _ _) (v := .ref (al (1))) rfl dX9_strikes_31 ?_
        refine gx_getn X (1) lf_X9_75 (by decide) (cl_1 _ _) (v := .int ((rdI ga6 1 1))) rfl dX9_strikes_34 ?_
        refine gx_icmp_le X 42 dX9_strikes_37 (by decide) (fun q10 => ?_) (fun q10 => ?_)
        · replace h := (if_pos q10).symm.trans h
          refine gx_aload_n X 0 rfl dX9_strikes_42 ?_
          refine gx_getf X (0) lf_X9_63 (by decide) (cl_0 _ _) (v := .ref (al (35))) rfl dX9_strikes_43 ?_
          refine gx_iload_n X 1 rfl dX9_strikes_46 ?_
          obtain ⟨ra11, ga12, ca13, h⟩ := bdd_eq h
          refine gx_callNi X (35) (c_X6_isBare ca13) lc_X6_isBare li_X6_isBare lm_X9_113 (by decide) (cl_35 _ _) rfl rfl rfl (Nat.le_trans (by decide) hd) rfl (Nat.le_of_ble_eq_true rfl) dX9_strikes_47 ?_
          refine gx_if_ne X 67 dX9_strikes_50 (by decide) (fun q14 => ?_) (fun q14 => ?_)
          · replace h := (if_neg q14).symm.trans h
            refine gx_iconst X (v := (0 : Int32)) dX9_strikes_67 (by decide) ?_
            refine gx_istore X [(5, .int ((0 : Int32))), (0, .ref (al (0))), (1, .int (a1)), (2, .int (a2)), (3, .int (a3)), (4, .int (a4))] dX9_strikes_68 (by decide) rfl ?_
            exact gx_sub [1, 2, 3, 4, 5, 0] rfl (t_X9_strikes_70 X hd fuL a1 a2 a3 a4 (0 : Int32) ga12 h)
          · replace h := (if_pos q14).symm.trans h
            refine gx_aload_n X 0 rfl dX9_strikes_53 ?_
            refine gx_getf X (0) lf_X9_63 (by decide) (cl_0 _ _) (v := .ref (al (35))) rfl dX9_strikes_54 ?_
            refine gx_iload_n X 1 rfl dX9_strikes_57 ?_
            obtain ⟨ra15, ga16, ca17, h⟩ := bdd_eq h
            refine gx_callNi X (35) (c_X6_holdsBytes ca17) lc_X6_holdsBytes li_X6_holdsBytes lm_X9_116 (by decide) (cl_35 _ _) rfl rfl rfl (Nat.le_trans (by decide) hd) rfl (Nat.le_of_ble_eq_true rfl) dX9_strikes_58 ?_
            refine gx_if_ne X 67 dX9_strikes_61 (by decide) (fun q18 => ?_) (fun q18 => ?_)
            · replace h := (if_neg q18).symm.trans h
              refine gx_iconst X (v := (0 : Int32)) dX9_strikes_67 (by decide) ?_
              refine gx_istore X [(5, .int ((0 : Int32))), (0, .ref (al (0))), (1, .int (a1)), (2, .int (a2)), (3, .int (a3)), (4, .int (a4))] dX9_strikes_68 (by decide) rfl ?_
              exact gx_sub [1, 2, 3, 4, 5, 0] rfl (t_X9_strikes_70 X hd fuL a1 a2 a3 a4 (0 : Int32) ga16 h)
            · replace h := (if_pos q18).symm.trans h
              refine gx_bipush X (v := (-12 : Int32)) dX9_strikes_64 (by decide) ?_
              obtain ⟨rfl, rfl⟩ := ret_eq h
              exact gx_iret X rfl dX9_strikes_66
        · replace h := (if_neg q10).symm.trans h
          refine gx_iconst X (v := (-1 : Int32)) dX9_strikes_40 (by decide) ?_
          obtain ⟨rfl, rfl⟩ := ret_eq h
          exact gx_iret X rfl dX9_strikes_41
theorem dX9_strokes_0 : decode cX9_strokes 0 = .ok (.aload_n 0, 1) := by decide +kernel
theorem dX9_strokes_1 : decode cX9_strokes 1 = .ok (.getfield 10, 3) := by decide +kernel
theorem dX9_strokes_4 : decode cX9_strokes 4 = .ok (.iload_n 1, 1) := by decide +kernel
theorem dX9_strokes_5 : decode cX9_strokes 5 = .ok (.invokevirtual 209, 3) := by decide +kernel
theorem dX9_strokes_8 : decode cX9_strokes 8 = .ok (.ifCond .eq 12, 3) := by decide +kernel
theorem dX9_strokes_11 : decode cX9_strokes 11 = .ok (.aload_n 0, 1) := by decide +kernel
theorem dX9_strokes_12 : decode cX9_strokes 12 = .ok (.getfield 10, 3) := by decide +kernel
theorem dX9_strokes_15 : decode cX9_strokes 15 = .ok (.iload_n 1, 1) := by decide +kernel
theorem dX9_strokes_16 : decode cX9_strokes 16 = .ok (.invokevirtual 212, 3) := by decide +kernel
theorem dX9_strokes_19 : decode cX9_strokes 19 = .ok (.ireturn, 1) := by decide +kernel
theorem dX9_strokes_20 : decode cX9_strokes 20 = .ok (.iload_n 1, 1) := by decide +kernel
theorem dX9_strokes_21 : decode cX9_strokes 21 = .ok (.tableswitch 99 100 104 #[35, 45, 60, 68, 76], 35) := by decide +kernel
theorem dX9_strokes_56 : decode cX9_strokes 56 = .ok (.iconst 2, 1) := by decide +kernel
theorem dX9_strokes_57 : decode cX9_strokes 57 = .ok (.aload_n 0, 1) := by decide +kernel
theorem dX9_strokes_58 : decode cX9_strokes 58 = .ok (.getfield 10, 3) := by decide +kernel
theorem dX9_strokes_61 : decode cX9_strokes 61 = .ok (.invokevirtual 166, 3) := by decide +kernel
theorem dX9_strokes_64 : decode cX9_strokes 64 = .ok (.imul, 1) := by decide +kernel
theorem dX9_strokes_65 : decode cX9_strokes 65 = .ok (.ireturn, 1) := by decide +kernel
theorem dX9_strokes_66 : decode cX9_strokes 66 = .ok (.aload_n 0, 1) := by decide +kernel
theorem dX9_strokes_67 : decode cX9_strokes 67 = .ok (.getfield 10, 3) := by decide +kernel
theorem dX9_strokes_70 : decode cX9_strokes 70 = .ok (.aload_n 0, 1) := by decide +kernel
theorem dX9_strokes_71 : decode cX9_strokes 71 = .ok (.getfield 10, 3) := by decide +kernel
theorem dX9_strokes_74 : decode cX9_strokes 74 = .ok (.invokevirtual 215, 3) := by decide +kernel
theorem dX9_strokes_77 : decode cX9_strokes 77 = .ok (.invokevirtual 212, 3) := by decide +kernel
theorem dX9_strokes_80 : decode cX9_strokes 80 = .ok (.ireturn, 1) := by decide +kernel
theorem dX9_strokes_81 : decode cX9_strokes 81 = .ok (.aload_n 0, 1) := by decide +kernel
theorem dX9_strokes_82 : decode cX9_strokes 82 = .ok (.getfield 10, 3) := by decide +kernel
theorem dX9_strokes_85 : decode cX9_strokes 85 = .ok (.invokevirtual 215, 3) := by decide +kernel
theorem dX9_strokes_88 : decode cX9_strokes 88 = .ok (.ireturn, 1) := by decide +kernel
theorem dX9_strokes_89 : decode cX9_strokes 89 = .ok (.aload_n 0, 1) := by decide +kernel
theorem dX9_strokes_90 : decode cX9_strokes 90 = .ok (.getfield 10, 3) := by decide +kernel
theorem dX9_strokes_93 : decode cX9_strokes 93 = .ok (.invokevirtual 218, 3) := by decide +kernel
theorem dX9_strokes_96 : decode cX9_strokes 96 = .ok (.ireturn, 1) := by decide +kernel
theorem dX9_strokes_97 : decode cX9_strokes 97 = .ok (.aload_n 0, 1) := by decide +kernel
theorem dX9_strokes_98 : decode cX9_strokes 98 = .ok (.getfield 10, 3) := by decide +kernel
theorem dX9_strokes_101 : decode cX9_strokes 101 = .ok (.getfield 67, 3) := by decide +kernel
theorem dX9_strokes_104 : decode cX9_strokes 104 = .ok (.ifCond .ne 8, 3) := by decide +kernel
theorem dX9_strokes_107 : decode cX9_strokes 107 = .ok (.bipush (-5), 2) := by decide +kernel
theorem dX9_strokes_109 : decode cX9_strokes 109 = .ok (.goto 10, 3) := by decide +kernel
theorem dX9_strokes_112 : decode cX9_strokes 112 = .ok (.aload_n 0, 1) := by decide +kernel
theorem dX9_strokes_113 : decode cX9_strokes 113 = .ok (.getfield 10, 3) := by decide +kernel
theorem dX9_strokes_116 : decode cX9_strokes 116 = .ok (.invokevirtual 221, 3) := by decide +kernel
theorem dX9_strokes_119 : decode cX9_strokes 119 = .ok (.ireturn, 1) := by decide +kernel
theorem dX9_strokes_120 : decode cX9_strokes 120 = .ok (.iconst (-1), 1) := by decide +kernel
theorem dX9_strokes_121 : decode cX9_strokes 121 = .ok (.ireturn, 1) := by decide +kernel
def m_X9_strokes (a1 : Int32) (g : Mm) : Option (Int32 × Mm) := bdd (m_X8_hasHour a1 g) (fun ra1 ga2 => (if ra1 = (0 : Int32) then (if a1 = (100 : Int32) then bdd (m_X8_totalOfAll  ga2) (fun ra6 ga7 => some (((2 : Int32) * ra6), ga7)) else if a1 = (101 : Int32) then bdd (m_X8_worstHour  ga2) (fun ra10 ga11 => bdd (m_X8_totalOfHour ra10 ga11) (fun ra13 ga14 => some (ra13, ga14))) else if a1 = (102 : Int32) then bdd (m_X8_worstHour  ga2) (fun ra17 ga18 => some (ra17, ga18)) else if a1 = (103 : Int32) then bdd (m_X8_costOfADay  ga2) (fun ra21 ga22 => some (ra21, ga22)) else if a1 = (104 : Int32) then (if (rdI ga2 1 0) = (0 : Int32) then some ((-5 : Int32), ga2) else bdd (m_X8_dearestBell  ga2) (fun ra26 ga27 => some (ra26, ga27))) else some ((-1 : Int32), ga2)) else bdd (m_X8_totalOfHour a1 ga2) (fun ra29 ga30 => some (ra29, ga30))))
set_option maxHeartbeats 2000000 in
theorem c_X9_strokes {r2 : Int32} {g g2 : Mm} {a1 : Int32} (h : m_X9_strokes a1 g = some (r2, g2)) : gx_M 5 yX9_strokes cX9_strokes 2 (some .int) (fun al => [.ref (al (0)), .int (a1)]) g (some (.int r2)) g2 := by
  have hd : 5 ≤ 5 := Nat.le_refl _
  refine gx_M.of (by decide +kernel) (fun _ => Nat.le_of_ble_eq_true rfl) ?_
  intro p l e R s m args below meth c D al cI cJ A X
  refine gx_eq (pc' := 0) (ls' := [(0, .ref (al (0))), (1, .int (a1))]) (st' := []) (g' := g) ⟨rfl, rfl, rfl, rfl⟩ ?_
  unfold m_X9_strokes at h
  refine gx_aload_n X 0 rfl dX9_strokes_0 ?_
  refine gx_getf X (0) lf_X9_10 (by decide) (cl_0 _ _) (v := .ref (al (1))) rfl dX9_strokes_1 ?_
  refine gx_iload_n X 1 rfl dX9_strokes_4 ?_
  obtain ⟨ra1, ga2, ca3, h⟩ := bdd_eq h
  refine gx_callNi X (1) (c_X8_hasHour ca3) lc_X8_hasHour li_X8_hasHour lm_X9_209 (by decide) (cl_1 _ _) rfl rfl rfl (Nat.le_trans (by decide) hd) rfl (Nat.le_of_ble_eq_true rfl) dX9_strokes_5 ?_
  refine gx_if_eq X 20 dX9_strokes_8 (by decide) (fun q4 => ?_) (fun q4 => ?_)
  · replace h := (if_pos q4).symm.trans h
    refine gx_iload_n X 1 rfl dX9_strokes_20 ?_
    by_cases q5 : a1 = (100 : Int32)
    · replace h := (if_pos q5).symm.trans h
      have eq5 : (a1).toInt = 100 := by rw [q5] <;> decide
      refine gx_tab 56 X dX9_strokes_21 (by rw [eq5] <;> decide) (by rw [eq5] <;> decide) (by rw [eq5] <;> rfl) (by decide) ?_
      refine gx_iconst X (v := (2 : Int32)) dX9_strokes_56 (by decide) ?_
      refine gx_aload_n X 0 rfl dX9_strokes_57 ?_
      refine gx_getf X (0) lf_X9_10 (by decide) (cl_0 _ _) (v := .ref (al (1))) rfl dX9_strokes_58 ?_
      obtain ⟨ra6, ga7, ca8, h⟩ := bdd_eq h
      refine gx_callNi X (1) (c_X8_totalOfAll ca8) lc_X8_totalOfAll li_X8_totalOfAll lm_X9_166 (by decide) (cl_1 _ _) rfl rfl rfl (Nat.le_trans (by decide) hd) rfl (Nat.le_of_ble_eq_true rfl) dX9_strokes_61 ?_
      refine gx_imul X dX9_strokes_64 ?_
      obtain ⟨rfl, rfl⟩ := ret_eq h
      exact gx_iret X rfl dX9_strokes_65
    · replace h := (if_neg q5).symm.trans h
      by_cases q9 : a1 = (101 : Int32)
      · replace h := (if_pos q9).symm.trans h
        have eq9 : (a1).toInt = 101 := by rw [q9] <;> decide
        refine gx_tab 66 X dX9_strokes_21 (by rw [eq9] <;> decide) (by rw [eq9] <;> decide) (by rw [eq9] <;> rfl) (by decide) ?_
        refine gx_aload_n X 0 rfl dX9_strokes_66 ?_
        refine gx_getf X (0) lf_X9_10 (by decide) (cl_0 _ _) (v := .ref (al (1))) rfl dX9_strokes_67 ?_
        refine gx_aload_n X 0 rfl dX9_strokes_70 ?_
        refine gx_getf X (0) lf_X9_10 (by decide) (cl_0 _ _) (v := .ref (al (1))) rfl dX9_strokes_71 ?_
        obtain ⟨ra10, ga11, ca12, h⟩ := bdd_eq h
        refine gx_callNi X (1) (c_X8_worstHour ca12) lc_X8_worstHour li_X8_worstHour lm_X9_215 (by decide) (cl_1 _ _) rfl rfl rfl (Nat.le_trans (by decide) hd) rfl (Nat.le_of_ble_eq_true rfl) dX9_strokes_74 ?_
        obtain ⟨ra13, ga14, ca15, h⟩ := bdd_eq h
        refine gx_callNi X (1) (c_X8_totalOfHour ca15) lc_X8_totalOfHour li_X8_totalOfHour lm_X9_212 (by decide) (cl_1 _ _) rfl rfl rfl (Nat.le_trans (by decide) hd) rfl (Nat.le_of_ble_eq_true rfl) dX9_strokes_77 ?_
        obtain ⟨rfl, rfl⟩ := ret_eq h
        exact gx_iret X rfl dX9_strokes_80
      · replace h := (if_neg q9).symm.trans h
        by_cases q16 : a1 = (102 : Int32)
        · replace h := (if_pos q16).symm.trans h
          have eq16 : (a1).toInt = 102 := by rw [q16] <;> decide
          refine gx_tab 81 X dX9_strokes_21 (by rw [eq16] <;> decide) (by rw [eq16] <;> decide) (by rw [eq16] <;> rfl) (by decide) ?_
          refine gx_aload_n X 0 rfl dX9_strokes_81 ?_
          refine gx_getf X (0) lf_X9_10 (by decide) (cl_0 _ _) (v := .ref (al (1))) rfl dX9_strokes_82 ?_
          obtain ⟨ra17, ga18, ca19, h⟩ := bdd_eq h
          refine gx_callNi X (1) (c_X8_worstHour ca19) lc_X8_worstHour li_X8_worstHour lm_X9_215 (by decide) (cl_1 _ _) rfl rfl rfl (Nat.le_trans (by decide) hd) rfl (Nat.le_of_ble_eq_true rfl) dX9_strokes_85 ?_
          obtain ⟨rfl, rfl⟩ := ret_eq h
          exact gx_iret X rfl dX9_strokes_88
        · replace h := (if_neg q16).symm.trans h
          by_cases q20 : a1 = (103 : Int32)
          · replace h := (if_pos q20).symm.trans h
            have eq20 : (a1).toInt = 103 := by rw [q20] <;> decide
            refine gx_tab 89 X dX9_strokes_21 (by rw [eq20] <;> decide) (by rw [eq20] <;> decide) (by rw [eq20] <;> rfl) (by decide) ?_
            refine gx_aload_n X 0 rfl dX9_strokes_89 ?_
            refine gx_getf X (0) lf_X9_10 (by decide) (cl_0 _ _) (v := .ref (al (1))) rfl dX9_strokes_90 ?_
            obtain ⟨ra21, ga22, ca23, h⟩ := bdd_eq h
            refine gx_callNi X (1) (c_X8_costOfADay ca23) lc_X8_costOfADay li_X8_costOfADay lm_X9_218 (by decide) (cl_1 _ _) rfl rfl rfl (Nat.le_trans (by decide) hd) rfl (Nat.le_of_ble_eq_true rfl) dX9_strokes_93 ?_
            obtain ⟨rfl, rfl⟩ := ret_eq h
            exact gx_iret X rfl dX9_strokes_96
          · replace h := (if_neg q20).symm.trans h
            by_cases q24 : a1 = (104 : Int32)
            · replace h := (if_pos q24).symm.trans h
              have eq24 : (a1).toInt = 104 := by rw [q24] <;> decide
              refine gx_tab 97 X dX9_strokes_21 (by rw [eq24] <;> decide) (by rw [eq24] <;> decide) (by rw [eq24] <;> rfl) (by decide) ?_
              refine gx_aload_n X 0 rfl dX9_strokes_97 ?_
              refine gx_getf X (0) lf_X9_10 (by decide) (cl_0 _ _) (v := .ref (al (1))) rfl dX9_strokes_98 ?_
              refine gx_getn X (1) lf_X9_67 (by decide) (cl_1 _ _) (v := .int ((rdI ga2 1 0))) rfl dX9_strokes_101 ?_
              refine gx_if_ne X 112 dX9_strokes_104 (by decide) (fun q25 => ?_) (fun q25 => ?_)
              · replace h := (if_neg q25).symm.trans h
                refine gx_aload_n X 0 rfl dX9_strokes_112 ?_
                refine gx_getf X (0) lf_X9_10 (by decide) (cl_0 _ _) (v := .ref (al (1))) rfl dX9_strokes_113 ?_
                obtain ⟨ra26, ga27, ca28, h⟩ := bdd_eq h
                refine gx_callNi X (1) (c_X8_dearestBell ca28) lc_X8_dearestBell li_X8_dearestBell lm_X9_221 (by decide) (cl_1 _ _) rfl rfl rfl (Nat.le_trans (by decide) hd) rfl (Nat.le_of_ble_eq_true rfl) dX9_strokes_116 ?_
                obtain ⟨rfl, rfl⟩ := ret_eq h
                exact gx_iret X rfl dX9_strokes_119
              · replace h := (if_pos q25).symm.trans h
                refine gx_bipush X (v := (-5 : Int32)) dX9_strokes_107 (by decide) ?_
                refine gx_goto X 119 dX9_strokes_109 (by decide) ?_
                obtain ⟨rfl, rfl⟩ := ret_eq h
                exact gx_iret X rfl dX9_strokes_119
            · replace h := (if_neg q24).symm.trans h
              have eq5 := lv_neT (a := 100) q5 (by decide)
              have eq9 := lv_neT (a := 101) q9 (by decide)
              have eq16 := lv_neT (a := 102) q16 (by decide)
              have eq20 := lv_neT (a := 103) q20 (by decide)
              have eq24 := lv_neT (a := 104) q24 (by decide)
              refine gx_tabO 120 X dX9_strokes_21 (by omega) (by decide) ?_
              refine gx_iconst X (v := (-1 : Int32)) dX9_strokes_120 (by decide) ?_
              obtain ⟨rfl, rfl⟩ := ret_eq h
              exact gx_iret X rfl dX9_strokes_121
  · replace h := (if_neg q4).symm.trans h
    refine gx_aload_n X 0 rfl dX9_strokes_11 ?_
    refine gx_getf X (0) lf_X9_10 (by decide) (cl_0 _ _) (v := .ref (al (1))) rfl dX9_strokes_12 ?_
    refine gx_iload_n X 1 rfl dX9_strokes_15 ?_
    obtain ⟨ra29, ga30, ca31, h⟩ := bdd_eq h
    refine gx_callNi X (1) (c_X8_totalOfHour ca31) lc_X8_totalOfHour li_X8_totalOfHour lm_X9_212 (by decide) (cl_1 _ _) rfl rfl rfl (Nat.le_trans (by decide) hd) rfl (Nat.le_of_ble_eq_true rfl) dX9_strokes_16 ?_
    obtain ⟨rfl, rfl⟩ := ret_eq h
    exact gx_iret X rfl dX9_strokes_19
theorem dX9_sum_0 : decode cX9_sum 0 = .ok (.iload_n 2, 1) := by decide +kernel
theorem dX9_sum_1 : decode cX9_sum 1 = .ok (.bipush 10, 2) := by decide +kernel
theorem dX9_sum_3 : decode cX9_sum 3 = .ok (.idiv, 1) := by decide +kernel
theorem dX9_sum_4 : decode cX9_sum 4 = .ok (.istore_n 3, 1) := by decide +kernel
theorem dX9_sum_5 : decode cX9_sum 5 = .ok (.iload_n 2, 1) := by decide +kernel
theorem dX9_sum_6 : decode cX9_sum 6 = .ok (.bipush 10, 2) := by decide +kernel
theorem dX9_sum_8 : decode cX9_sum 8 = .ok (.irem, 1) := by decide +kernel
theorem dX9_sum_9 : decode cX9_sum 9 = .ok (.istore 4, 2) := by decide +kernel
theorem dX9_sum_11 : decode cX9_sum 11 = .ok (.aload_n 0, 1) := by decide +kernel
theorem dX9_sum_12 : decode cX9_sum 12 = .ok (.getfield 10, 3) := by decide +kernel
theorem dX9_sum_15 : decode cX9_sum 15 = .ok (.iload_n 1, 1) := by decide +kernel
theorem dX9_sum_16 : decode cX9_sum 16 = .ok (.invokevirtual 110, 3) := by decide +kernel
theorem dX9_sum_19 : decode cX9_sum 19 = .ok (.ifCond .eq 30, 3) := by decide +kernel
theorem dX9_sum_22 : decode cX9_sum 22 = .ok (.iload_n 2, 1) := by decide +kernel
theorem dX9_sum_23 : decode cX9_sum 23 = .ok (.ifCond .lt 26, 3) := by decide +kernel
theorem dX9_sum_26 : decode cX9_sum 26 = .ok (.aload_n 0, 1) := by decide +kernel
theorem dX9_sum_27 : decode cX9_sum 27 = .ok (.getfield 10, 3) := by decide +kernel
theorem dX9_sum_30 : decode cX9_sum 30 = .ok (.iload_n 3, 1) := by decide +kernel
theorem dX9_sum_31 : decode cX9_sum 31 = .ok (.invokevirtual 110, 3) := by decide +kernel
theorem dX9_sum_34 : decode cX9_sum 34 = .ok (.ifCond .eq 15, 3) := by decide +kernel
theorem dX9_sum_37 : decode cX9_sum 37 = .ok (.aload_n 0, 1) := by decide +kernel
theorem dX9_sum_38 : decode cX9_sum 38 = .ok (.getfield 10, 3) := by decide +kernel
theorem dX9_sum_41 : decode cX9_sum 41 = .ok (.iload 4, 2) := by decide +kernel
theorem dX9_sum_43 : decode cX9_sum 43 = .ok (.invokevirtual 110, 3) := by decide +kernel
theorem dX9_sum_46 : decode cX9_sum 46 = .ok (.ifCond .ne 5, 3) := by decide +kernel
theorem dX9_sum_49 : decode cX9_sum 49 = .ok (.iconst (-1), 1) := by decide +kernel
theorem dX9_sum_50 : decode cX9_sum 50 = .ok (.ireturn, 1) := by decide +kernel
theorem dX9_sum_51 : decode cX9_sum 51 = .ok (.iload_n 3, 1) := by decide +kernel
theorem dX9_sum_52 : decode cX9_sum 52 = .ok (.iload 4, 2) := by decide +kernel
theorem dX9_sum_54 : decode cX9_sum 54 = .ok (.if_icmp .eq 14, 3) := by decide +kernel
theorem dX9_sum_57 : decode cX9_sum 57 = .ok (.iload_n 3, 1) := by decide +kernel
theorem dX9_sum_58 : decode cX9_sum 58 = .ok (.iload_n 1, 1) := by decide +kernel
theorem dX9_sum_59 : decode cX9_sum 59 = .ok (.if_icmp .eq 9, 3) := by decide +kernel
theorem dX9_sum_62 : decode cX9_sum 62 = .ok (.iload 4, 2) := by decide +kernel
theorem dX9_sum_64 : decode cX9_sum 64 = .ok (.iload_n 1, 1) := by decide +kernel
theorem dX9_sum_65 : decode cX9_sum 65 = .ok (.if_icmp .ne 5, 3) := by decide +kernel
theorem dX9_sum_68 : decode cX9_sum 68 = .ok (.iconst (-1), 1) := by decide +kernel
theorem dX9_sum_69 : decode cX9_sum 69 = .ok (.ireturn, 1) := by decide +kernel
theorem dX9_sum_70 : decode cX9_sum 70 = .ok (.iconst 0, 1) := by decide +kernel
theorem dX9_sum_71 : decode cX9_sum 71 = .ok (.istore 5, 2) := by decide +kernel
theorem dX9_sum_73 : decode cX9_sum 73 = .ok (.iload 5, 2) := by decide +kernel
theorem dX9_sum_75 : decode cX9_sum 75 = .ok (.aload_n 0, 1) := by decide +kernel
theorem dX9_sum_76 : decode cX9_sum 76 = .ok (.getfield 10, 3) := by decide +kernel
theorem dX9_sum_79 : decode cX9_sum 79 = .ok (.getfield 75, 3) := by decide +kernel
theorem dX9_sum_82 : decode cX9_sum 82 = .ok (.if_icmp .ge 57, 3) := by decide +kernel
theorem dX9_sum_85 : decode cX9_sum 85 = .ok (.aload_n 0, 1) := by decide +kernel
theorem dX9_sum_86 : decode cX9_sum 86 = .ok (.getfield 10, 3) := by decide +kernel
theorem dX9_sum_89 : decode cX9_sum 89 = .ok (.iload 5, 2) := by decide +kernel
theorem dX9_sum_91 : decode cX9_sum 91 = .ok (.iload_n 3, 1) := by decide +kernel
theorem dX9_sum_92 : decode cX9_sum 92 = .ok (.invokevirtual 96, 3) := by decide +kernel
theorem dX9_sum_95 : decode cX9_sum 95 = .ok (.aload_n 0, 1) := by decide +kernel
theorem dX9_sum_96 : decode cX9_sum 96 = .ok (.getfield 10, 3) := by decide +kernel
theorem dX9_sum_99 : decode cX9_sum 99 = .ok (.iload 5, 2) := by decide +kernel
theorem dX9_sum_101 : decode cX9_sum 101 = .ok (.iload 4, 2) := by decide +kernel
theorem dX9_sum_103 : decode cX9_sum 103 = .ok (.invokevirtual 96, 3) := by decide +kernel
theorem dX9_sum_106 : decode cX9_sum 106 = .ok (.iadd, 1) := by decide +kernel
theorem dX9_sum_107 : decode cX9_sum 107 = .ok (.istore 6, 2) := by decide +kernel
theorem dX9_sum_109 : decode cX9_sum 109 = .ok (.aload_n 0, 1) := by decide +kernel
theorem dX9_sum_110 : decode cX9_sum 110 = .ok (.getfield 10, 3) := by decide +kernel
theorem dX9_sum_113 : decode cX9_sum 113 = .ok (.iload 5, 2) := by decide +kernel
theorem dX9_sum_115 : decode cX9_sum 115 = .ok (.iload_n 1, 1) := by decide +kernel
theorem dX9_sum_116 : decode cX9_sum 116 = .ok (.iload 6, 2) := by decide +kernel
theorem dX9_sum_118 : decode cX9_sum 118 = .ok (.aload_n 0, 1) := by decide +kernel
theorem dX9_sum_119 : decode cX9_sum 119 = .ok (.getfield 10, 3) := by decide +kernel
theorem dX9_sum_122 : decode cX9_sum 122 = .ok (.getfield 131, 3) := by decide +kernel
theorem dX9_sum_125 : decode cX9_sum 125 = .ok (.iload_n 1, 1) := by decide +kernel
theorem dX9_sum_126 : decode cX9_sum 126 = .ok (.iaload, 1) := by decide +kernel
theorem dX9_sum_127 : decode cX9_sum 127 = .ok (.iconst 1, 1) := by decide +kernel
theorem dX9_sum_128 : decode cX9_sum 128 = .ok (.iadd, 1) := by decide +kernel
theorem dX9_sum_129 : decode cX9_sum 129 = .ok (.irem, 1) := by decide +kernel
theorem dX9_sum_130 : decode cX9_sum 130 = .ok (.invokevirtual 100, 3) := by decide +kernel
theorem dX9_sum_133 : decode cX9_sum 133 = .ok (.iinc 5 1, 3) := by decide +kernel
theorem dX9_sum_136 : decode cX9_sum 136 = .ok (.goto (-63), 3) := by decide +kernel
theorem dX9_sum_139 : decode cX9_sum 139 = .ok (.aload_n 0, 1) := by decide +kernel
theorem dX9_sum_140 : decode cX9_sum 140 = .ok (.getfield 19, 3) := by decide +kernel
theorem dX9_sum_143 : decode cX9_sum 143 = .ok (.invokevirtual 82, 3) := by decide +kernel
theorem dX9_sum_146 : decode cX9_sum 146 = .ok (.aload_n 0, 1) := by decide +kernel
theorem dX9_sum_147 : decode cX9_sum 147 = .ok (.getfield 10, 3) := by decide +kernel
theorem dX9_sum_150 : decode cX9_sum 150 = .ok (.iload_n 1, 1) := by decide +kernel
theorem dX9_sum_151 : decode cX9_sum 151 = .ok (.invokevirtual 169, 3) := by decide +kernel
theorem dX9_sum_154 : decode cX9_sum 154 = .ok (.ireturn, 1) := by decide +kernel
def m_X9_sum_73 : Nat → Int32 → Int32 → Int32 → Int32 → Mm → Option (Int32 × Mm)
  | 0, _, _, _, _, _ => none
  | n + 1, x1, x3, x4, x5, g => (if (rdI g 1 1) ≤ x5 then bdd (m_X1_forgetAll  g) (fun ra2 ga3 => bdd (m_X8_totalOfBell x1 ga3) (fun ra5 ga6 => some (ra5, ga6))) else bdd (m_X8_struck x5 x3 g) (fun ra8 ga9 => bdd (m_X8_struck x5 x4 ga9) (fun ra11 ga12 => gdd (ixo x1 6) (gdd (decide (¬ ((rdI ga12 2 x1.toNatClampNeg) + (1 : Int32)) = 0)) (bdd (m_X8_write x5 x1 (rmI (ra8 + ra11) ((rdI ga12 2 x1.toNatClampNeg) + (1 : Int32))) ga12) (fun ra16 ga17 => m_X9_sum_73 n x1 x3 x4 (x5 + (1 : Int32)) ga17))))))
set_option maxHeartbeats 2000000 in
theorem t_X9_sum_73 {r2 : Int32} {g2 : Mm} (X : gx_X p R s m args meth c D al cI cJ A RX9 cX9_sum 7 (some .int) d 0 0) (hd : 3 ≤ d) : ∀ (n : Nat) (x1 : Int32) (x3 : Int32) (x4 : Int32) (x5 : Int32) (g : Mm), m_X9_sum_73 n x1 x3 x4 x5 g = some (r2, g2) → gx_G p l e R s m args below meth c (gx_Q below args s D al cI cJ A (some (.int r2)) g2) D al cI cJ A 7 0 0 73 [(0, .ref (al (0))), (1, .int (x1)), (3, .int (x3)), (4, .int (x4)), (5, .int (x5))] [] g := by
  intro n
  induction n with
  | zero => intro x1 x3 x4 x5 g h; cases h
  | succ n ih =>
    intro x1 x3 x4 x5 g h
    rw [m_X9_sum_73] at h
    refine gx_iload X 4 rfl dX9_sum_73 ?_
    refine gx_aload_n X 0 rfl dX9_sum_75 ?_
    refine gx_getf X (0) lf_X9_10 (by decide) (cl_0 _ _) (v := .ref (al (1))) rfl dX9_sum_76 ?_
    refine gx_getn X (1) lf_X9_75 (by decide) (cl_1 _ _) (v := .int ((rdI g 1 1))) rfl dX9_sum_79 ?_
    refine gx_icmp_ge X 139 dX9_sum_82 (by decide) (fun q1 => ?_) (fun q1 => ?_)
    · replace h := (if_pos q1).symm.trans h
      refine gx_aload_n X 0 rfl dX9_sum_139 ?_
      refine gx_getf X (0) lf_X9_19 (by decide) (cl_0 _ _) (v := .ref (al (7))) rfl dX9_sum_140 ?_
      obtain ⟨ra2, ga3, ca4, h⟩ := bdd_eq h
      refine gx_callNv X (7) (c_X1_forgetAll ca4) lc_X1_forgetAll li_X1_forgetAll lm_X9_82 (by decide) (cl_7 _ _) rfl rfl rfl (Nat.le_trans (by decide) hd) rfl (Nat.le_of_ble_eq_true rfl) dX9_sum_143 ?_
      refine gx_aload_n X 0 rfl dX9_sum_146 ?_
      refine gx_getf X (0) lf_X9_10 (by decide) (cl_0 _ _) (v := .ref (al (1))) rfl dX9_sum_147 ?_
      refine gx_iload_n X 1 rfl dX9_sum_150 ?_
      obtain ⟨ra5, ga6, ca7, h⟩ := bdd_eq h
      refine gx_callNi X (1) (c_X8_totalOfBell ca7) lc_X8_totalOfBell li_X8_totalOfBell lm_X9_169 (by decide) (cl_1 _ _) rfl rfl rfl (Nat.le_trans (by decide) hd) rfl (Nat.le_of_ble_eq_true rfl) dX9_sum_151 ?_
      obtain ⟨rfl, rfl⟩ := ret_eq h
      exact gx_iret X rfl dX9_sum_154
    · replace h := (if_neg q1).symm.trans h
      refine gx_aload_n X 0 rfl dX9_sum_85 ?_
      refine gx_getf X (0) lf_X9_10 (by decide) (cl_0 _ _) (v := .ref (al (1))) rfl dX9_sum_86 ?_
      refine gx_iload X 4 rfl dX9_sum_89 ?_
      refine gx_iload_n X 2 rfl dX9_sum_91 ?_
      obtain ⟨ra8, ga9, ca10, h⟩ := bdd_eq h
      refine gx_callNi X (1) (c_X8_struck ca10) lc_X8_struck li_X8_struck lm_X9_96 (by decide) (cl_1 _ _) rfl rfl rfl (Nat.le_trans (by decide) hd) rfl (Nat.le_of_ble_eq_true rfl) dX9_sum_92 ?_
      refine gx_aload_n X 0 rfl dX9_sum_95 ?_
      refine gx_getf X (0) lf_X9_10 (by decide) (cl_0 _ _) (v := .ref (al (1))) rfl dX9_sum_96 ?_
      refine gx_iload X 4 rfl dX9_sum_99 ?_
      refine gx_iload X 3 rfl dX9_sum_101 ?_
      obtain ⟨ra11, ga12, ca13, h⟩ := bdd_eq h
      refine gx_callNi X (1) (c_X8_struck ca13) lc_X8_struck li_X8_struck lm_X9_96 (by decide) (cl_1 _ _) rfl rfl rfl (Nat.le_trans (by decide) hd) rfl (Nat.le_of_ble_eq_true rfl) dX9_sum_103 ?_
      refine gx_iadd X dX9_sum_106 ?_
      refine gx_istore X [(6, .int ((ra8 + ra11))), (0, .ref (al (0))), (1, .int (x1)), (3, .int (x3)), (4, .int (x4)), (5, .int (x5))] dX9_sum_107 (by decide) rfl ?_
      refine gx_aload_n X 1 rfl dX9_sum_109 ?_
      refine gx_getf X (0) lf_X9_10 (by decide) (cl_0 _ _) (v := .ref (al (1))) rfl dX9_sum_110 ?_
      refine gx_iload X 5 rfl dX9_sum_113 ?_
      refine gx_iload_n X 2 rfl dX9_sum_115 ?_
      refine gx_iload X 0 rfl dX9_sum_116 ?_
      refine gx_aload_n X 1 rfl dX9_sum_118 ?_
      refine gx_getf X (0) lf_X9_10 (by decide) (cl_0 _ _) (v := .ref (al (1))) rfl dX9_sum_119 ?_
      refine gx_getn X (1) lf_X9_131 (by decide) (cl_1 _ _) (v := .ref (al (2))) rfl dX9_sum_122 ?_
      refine gx_iload_n X 2 rfl dX9_sum_125 ?_
      obtain ⟨q14, h⟩ := gdd_eq h
      refine gx_iald X (2) 6 (by decide) (cl_2 _ _) q14 dX9_sum_126 ?_
      refine gx_iconst X (v := (1 : Int32)) dX9_sum_127 (by decide) ?_
      refine gx_iadd X dX9_sum_128 ?_
      obtain ⟨q15, h⟩ := gdd_eq h
      refine gx_irem X dX9_sum_129 (of_decide_eq_true q15) ?_
      obtain ⟨ra16, ga17, ca18, h⟩ := bdd_eq h
      refine gx_callNv X (1) (c_X8_write ca18) lc_X8_write li_X8_write lm_X9_100 (by decide) (cl_1 _ _) rfl rfl rfl (Nat.le_trans (by decide) hd) rfl (Nat.le_of_ble_eq_true rfl) dX9_sum_130 ?_
      refine gx_iinc X [(5, .int ((x5 + (1 : Int32)))), (6, .int ((ra8 + ra11))), (0, .ref (al (0))), (1, .int (x1)), (3, .int (x3)), (4, .int (x4))] 5 dX9_sum_133 rfl rfl (by decide) rfl ?_
      refine gx_goto X 73 dX9_sum_136 (by decide) ?_
      exact gx_sub [2, 3, 4, 5, 0] rfl (ih x1 x3 x4 (x5 + (1 : Int32)) ga17 h)
def m_X9_sum (a1 : Int32) (a2 : Int32) (g : Mm) : Option (Int32 × Mm) := bdd (m_X8_hasBell a1 g) (fun ra1 ga2 => (if ra1 = (0 : Int32) then some ((-1 : Int32), ga2) else (if a2 < (0 : Int32) then some ((-1 : Int32), ga2) else bdd (m_X8_hasBell (a2 / (10 : Int32)) ga2) (fun ra6 ga7 => (if ra6 = (0 : Int32) then some ((-1 : Int32), ga7) else bdd (m_X8_hasBell (rmI a2 (10 : Int32)) ga7) (fun ra10 ga11 => (if ra10 = (0 : Int32) then some ((-1 : Int32), ga11) else (if (a2 / (10 : Int32)) = (rmI a2 (10 : Int32)) then some ((-1 : Int32), ga11) else (if (a2 / (10 : Int32)) = a1 then some ((-1 : Int32), ga11) else (if (rmI a2 (10 : Int32)) = a1 then some ((-1 : Int32), ga11) else m_X9_sum_73 fuL a1 (a2 / (10 : Int32)) (rmI a2 (10 : Int32)) (0 : Int32) ga11))))))))))
set_option maxHeartbeats 2000000 in
theorem c_X9_sum {r2 : Int32} {g g2 : Mm} {a1 : Int32} {a2 : Int32} (h : m_X9_sum a1 a2 g = some (r2, g2)) : gx_M 3 yX9_sum cX9_sum 7 (some .int) (fun al => [.ref (al (0)), .int (a1), .int (a2)]) g (some (.int r2)) g2 := by
  have hd : 3 ≤ 3 := Nat.le_refl _
  refine gx_M.of (by decide +kernel) (fun _ => Nat.le_of_ble_eq_true rfl) ?_
  intro p l e R s m args below meth c D al cI cJ A X
  refine gx_eq (pc' := 0) (ls' := [(0, .ref (al (0))), (1, .int (a1)), (2, .int (a2))]) (st' := []) (g' := g) ⟨rfl, rfl, rfl, rfl⟩ ?_
  unfold m_X9_sum at h
  refine gx_iload_n X 2 rfl dX9_sum_0 ?_
  refine gx_bipush X (v := (10 : Int32)) dX9_sum_1 (by decide) ?_
  refine gx_idiv X dX9_sum_3 (by decide) ?_
  refine gx_istore_n X [(3, .int ((a2 / (10 : Int32)))), (0, .ref (al (0))), (1, .int (a1)), (2, .int (a2))] dX9_sum_4 (by decide) rfl ?_
  refine gx_iload_n X 3 rfl dX9_sum_5 ?_
  refine gx_bipush X (v := (10 : Int32)) dX9_sum_6 (by decide) ?_
  refine gx_irem X dX9_sum_8 (by decide) ?_
  refine gx_istore X [(4, .int ((rmI a2 (10 : Int32)))), (3, .int ((a2 / (10 : Int32)))), (0, .ref (al (0))), (1, .int (a1)), (2, .int (a2))] dX9_sum_9 (by decide) rfl ?_
  refine gx_aload_n X 2 rfl dX9_sum_11 ?_
  refine gx_getf X (0) lf_X9_10 (by decide) (cl_0 _ _) (v := .ref (al (1))) rfl dX9_sum_12 ?_
  refine gx_iload_n X 3 rfl dX9_sum_15 ?_
  obtain ⟨ra1, ga2, ca3, h⟩ := bdd_eq h
  refine gx_callNi X (1) (c_X8_hasBell ca3) lc_X8_hasBell li_X8_hasBell lm_X9_110 (by decide) (cl_1 _ _) rfl rfl rfl (Nat.le_trans (by decide) hd) rfl (Nat.le_of_ble_eq_true rfl) dX9_sum_16 ?_
  refine gx_if_eq X 49 dX9_sum_19 (by decide) (fun q4 => ?_) (fun q4 => ?_)
  · replace h := (if_pos q4).symm.trans h
    refine gx_iconst X (v := (-1 : Int32)) dX9_sum_49 (by decide) ?_
    obtain ⟨rfl, rfl⟩ := ret_eq h
    exact gx_iret X rfl dX9_sum_50
  · replace h := (if_neg q4).symm.trans h
    refine gx_iload_n X 4 rfl dX9_sum_22 ?_
    refine gx_if_lt X 49 dX9_sum_23 (by decide) (fun q5 => ?_) (fun q5 => ?_)
    · replace h := (if_pos q5).symm.trans h
      refine gx_iconst X (v := (-1 : Int32)) dX9_sum_49 (by decide) ?_
      obtain ⟨rfl, rfl⟩ := ret_eq h
      exact gx_iret X rfl dX9_sum_50
    · replace h := (if_neg q5).symm.trans h
      refine gx_aload_n X 2 rfl dX9_sum_26 ?_
      refine gx_getf X (0) lf_X9_10 (by decide) (cl_0 _ _) (v := .ref (al (1))) rfl dX9_sum_27 ?_
      refine gx_iload_n X 1 rfl dX9_sum_30 ?_
      obtain ⟨ra6, ga7, ca8, h⟩ := bdd_eq h
      refine gx_callNi X (1) (c_X8_hasBell ca8) lc_X8_hasBell li_X8_hasBell lm_X9_110 (by decide) (cl_1 _ _) rfl rfl rfl (Nat.le_trans (by decide) hd) rfl (Nat.le_of_ble_eq_true rfl) dX9_sum_31 ?_
      refine gx_if_eq X 49 dX9_sum_34 (by decide) (fun q9 => ?_) (fun q9 => ?_)
      · replace h := (if_pos q9).symm.trans h
        refine gx_iconst X (v := (-1 : Int32)) dX9_sum_49 (by decide) ?_
        obtain ⟨rfl, rfl⟩ := ret_eq h
        exact gx_iret X rfl dX9_sum_50
      · replace h := (if_neg q9).symm.trans h
        refine gx_aload_n X 2 rfl dX9_sum_37 ?_
        refine gx_getf X (0) lf_X9_10 (by decide) (cl_0 _ _) (v := .ref (al (1))) rfl dX9_sum_38 ?_
        refine gx_iload X 0 rfl dX9_sum_41 ?_
        obtain ⟨ra10, ga11, ca12, h⟩ := bdd_eq h
        refine gx_callNi X (1) (c_X8_hasBell ca12) lc_X8_hasBell li_X8_hasBell lm_X9_110 (by decide) (cl_1 _ _) rfl rfl rfl (Nat.le_trans (by decide) hd) rfl (Nat.le_of_ble_eq_true rfl) dX9_sum_43 ?_
        refine gx_if_ne X 51 dX9_sum_46 (by decide) (fun q13 => ?_) (fun q13 => ?_)
        · replace h := (if_neg q13).symm.trans h
          refine gx_iload_n X 1 rfl dX9_sum_51 ?_
          refine gx_iload X 0 rfl dX9_sum_52 ?_
          refine gx_icmp_eq X 68 dX9_sum_54 (by decide) (fun q14 => ?_) (fun q14 => ?_)
          · replace h := (if_pos q14).symm.trans h
            refine gx_iconst X (v := (-1 : Int32)) dX9_sum_68 (by decide) ?_
            obtain ⟨rfl, rfl⟩ := ret_eq h
            exact gx_iret X rfl dX9_sum_69
          · replace h := (if_neg q14).symm.trans h
            refine gx_iload_n X 1 rfl dX9_sum_57 ?_
            refine gx_iload_n X 3 rfl dX9_sum_58 ?_
            refine gx_icmp_eq X 68 dX9_sum_59 (by decide) (fun q15 => ?_) (fun q15 => ?_)
            · replace h := (if_pos q15).symm.trans h
              refine gx_iconst X (v := (-1 : Int32)) dX9_sum_68 (by decide) ?_
              obtain ⟨rfl, rfl⟩ := ret_eq h
              exact gx_iret X rfl dX9_sum_69
            · replace h := (if_neg q15).symm.trans h
              refine gx_iload X 0 rfl dX9_sum_62 ?_
              refine gx_iload_n X 3 rfl dX9_sum_64 ?_
              refine gx_icmp_ne X 70 dX9_sum_65 (by decide) (fun q16 => ?_) (fun q16 => ?_)
              · replace h := (if_neg q16).symm.trans h
                refine gx_iconst X (v := (0 : Int32)) dX9_sum_70 (by decide) ?_
                refine gx_istore X [(5, .int ((0 : Int32))), (4, .int ((rmI a2 (10 : Int32)))), (3, .int ((a2 / (10 : Int32)))), (0, .ref (al (0))), (1, .int (a1)), (2, .int (a2))] dX9_sum_71 (by decide) rfl ?_
                exact gx_sub [3, 4, 2, 1, 0] rfl (t_X9_sum_73 X hd fuL a1 (a2 / (10 : Int32)) (rmI a2 (10 : Int32)) (0 : Int32) ga11 h)
              · replace h := (if_pos q16).symm.trans h
                refine gx_iconst X (v := (-1 : Int32)) dX9_sum_68 (by decide) ?_
                obtain ⟨rfl, rfl⟩ := ret_eq h
                exact gx_iret X rfl dX9_sum_69
        · replace h := (if_pos q13).symm.trans h
          refine gx_iconst X (v := (-1 : Int32)) dX9_sum_49 (by decide) ?_
          obtain ⟨rfl, rfl⟩ := ret_eq h
          exact gx_iret X rfl dX9_sum_50
theorem dX9_taken_0 : decode cX9_taken 0 = .ok (.aload_n 0, 1) := by decide +kernel
theorem dX9_taken_1 : decode cX9_taken 1 = .ok (.getfield 63, 3) := by decide +kernel
theorem dX9_taken_4 : decode cX9_taken 4 = .ok (.iload_n 1, 1) := by decide +kernel
theorem dX9_taken_5 : decode cX9_taken 5 = .ok (.invokevirtual 107, 3) := by decide +kernel
theorem dX9_taken_8 : decode cX9_taken 8 = .ok (.ifCond .eq 13, 3) := by decide +kernel
theorem dX9_taken_11 : decode cX9_taken 11 = .ok (.iload_n 2, 1) := by decide +kernel
theorem dX9_taken_12 : decode cX9_taken 12 = .ok (.ifCond .lt 9, 3) := by decide +kernel
theorem dX9_taken_15 : decode cX9_taken 15 = .ok (.iload_n 2, 1) := by decide +kernel
theorem dX9_taken_16 : decode cX9_taken 16 = .ok (.bipush 8, 2) := by decide +kernel
theorem dX9_taken_18 : decode cX9_taken 18 = .ok (.if_icmp .lt 5, 3) := by decide +kernel
theorem dX9_taken_21 : decode cX9_taken 21 = .ok (.iconst (-1), 1) := by decide +kernel
theorem dX9_taken_22 : decode cX9_taken 22 = .ok (.ireturn, 1) := by decide +kernel
theorem dX9_taken_23 : decode cX9_taken 23 = .ok (.aload_n 0, 1) := by decide +kernel
theorem dX9_taken_24 : decode cX9_taken 24 = .ok (.getfield 63, 3) := by decide +kernel
theorem dX9_taken_27 : decode cX9_taken 27 = .ok (.iload_n 1, 1) := by decide +kernel
theorem dX9_taken_28 : decode cX9_taken 28 = .ok (.invokevirtual 113, 3) := by decide +kernel
theorem dX9_taken_31 : decode cX9_taken 31 = .ok (.ifCond .eq 6, 3) := by decide +kernel
theorem dX9_taken_34 : decode cX9_taken 34 = .ok (.bipush (-11), 2) := by decide +kernel
theorem dX9_taken_36 : decode cX9_taken 36 = .ok (.ireturn, 1) := by decide +kernel
theorem dX9_taken_37 : decode cX9_taken 37 = .ok (.aload_n 0, 1) := by decide +kernel
theorem dX9_taken_38 : decode cX9_taken 38 = .ok (.getfield 63, 3) := by decide +kernel
theorem dX9_taken_41 : decode cX9_taken 41 = .ok (.iload_n 1, 1) := by decide +kernel
theorem dX9_taken_42 : decode cX9_taken 42 = .ok (.invokevirtual 337, 3) := by decide +kernel
theorem dX9_taken_45 : decode cX9_taken 45 = .ok (.ifCond .ne 6, 3) := by decide +kernel
theorem dX9_taken_48 : decode cX9_taken 48 = .ok (.bipush (-12), 2) := by decide +kernel
theorem dX9_taken_50 : decode cX9_taken 50 = .ok (.ireturn, 1) := by decide +kernel
theorem dX9_taken_51 : decode cX9_taken 51 = .ok (.aload_n 0, 1) := by decide +kernel
theorem dX9_taken_52 : decode cX9_taken 52 = .ok (.getfield 56, 3) := by decide +kernel
theorem dX9_taken_55 : decode cX9_taken 55 = .ok (.aload_n 0, 1) := by decide +kernel
theorem dX9_taken_56 : decode cX9_taken 56 = .ok (.getfield 63, 3) := by decide +kernel
theorem dX9_taken_59 : decode cX9_taken 59 = .ok (.getfield 340, 3) := by decide +kernel
theorem dX9_taken_62 : decode cX9_taken 62 = .ok (.iload_n 1, 1) := by decide +kernel
theorem dX9_taken_63 : decode cX9_taken 63 = .ok (.iaload, 1) := by decide +kernel
theorem dX9_taken_64 : decode cX9_taken 64 = .ok (.invokevirtual 343, 3) := by decide +kernel
theorem dX9_taken_67 : decode cX9_taken 67 = .ok (.istore_n 3, 1) := by decide +kernel
theorem dX9_taken_68 : decode cX9_taken 68 = .ok (.aload_n 0, 1) := by decide +kernel
theorem dX9_taken_69 : decode cX9_taken 69 = .ok (.getfield 56, 3) := by decide +kernel
theorem dX9_taken_72 : decode cX9_taken 72 = .ok (.iload_n 3, 1) := by decide +kernel
theorem dX9_taken_73 : decode cX9_taken 73 = .ok (.iload_n 2, 1) := by decide +kernel
theorem dX9_taken_74 : decode cX9_taken 74 = .ok (.invokevirtual 346, 3) := by decide +kernel
theorem dX9_taken_77 : decode cX9_taken 77 = .ok (.ifCond .eq 7, 3) := by decide +kernel
theorem dX9_taken_80 : decode cX9_taken 80 = .ok (.iload_n 3, 1) := by decide +kernel
theorem dX9_taken_81 : decode cX9_taken 81 = .ok (.goto 5, 3) := by decide +kernel
theorem dX9_taken_84 : decode cX9_taken 84 = .ok (.bipush (-12), 2) := by decide +kernel
theorem dX9_taken_86 : decode cX9_taken 86 = .ok (.ireturn, 1) := by decide +kernel
def m_X9_taken (a1 : Int32) (a2 : Int32) (g : Mm) : Option (Int32 × Mm) := bdd (m_X6_hasShelf a1 g) (fun ra1 ga2 => (if ra1 = (0 : Int32) then some ((-1 : Int32), ga2) else (if a2 < (0 : Int32) then some ((-1 : Int32), ga2) else (if a2 < (8 : Int32) then bdd (m_X6_isBare a1 ga2) (fun ra7 ga8 => (if ra7 = (0 : Int32) then bdd (m_X6_holdsATable a1 ga8) (fun ra11 ga12 => (if ra11 = (0 : Int32) then some ((-12 : Int32), ga12) else gdd (ixo a1 6) (bdd (m_X0_kindOf (rdI ga12 37 a1.toNatClampNeg) ga12) (fun ra16 ga17 => bdd (m_X0_isUnder ra16 a2 ga17) (fun ra19 ga20 => (if ra19 = (0 : Int32) then some ((-12 : Int32), ga20) else some (ra16, ga20))))))) else some ((-11 : Int32), ga8))) else some ((-1 : Int32), ga2)))))
set_option maxHeartbeats 2000000 in
theorem c_X9_taken {r2 : Int32} {g g2 : Mm} {a1 : Int32} {a2 : Int32} (h : m_X9_taken a1 a2 g = some (r2, g2)) : gx_M 2 yX9_taken cX9_taken 4 (some .int) (fun al => [.ref (al (0)), .int (a1), .int (a2)]) g (some (.int r2)) g2 := by
  have hd : 2 ≤ 2 := Nat.le_refl _
  refine gx_M.of (by decide +kernel) (fun _ => Nat.le_of_ble_eq_true rfl) ?_
  intro p l e R s m args below meth c D al cI cJ A X
  refine gx_eq (pc' := 0) (ls' := [(0, .ref (al (0))), (1, .int (a1)), (2, .int (a2))]) (st' := []) (g' := g) ⟨rfl, rfl, rfl, rfl⟩ ?_
  unfold m_X9_taken at h
  refine gx_aload_n X 0 rfl dX9_taken_0 ?_
  refine gx_getf X (0) lf_X9_63 (by decide) (cl_0 _ _) (v := .ref (al (35))) rfl dX9_taken_1 ?_
  refine gx_iload_n X 1 rfl dX9_taken_4 ?_
  obtain ⟨ra1, ga2, ca3, h⟩ := bdd_eq h
  refine gx_callNi X (35) (c_X6_hasShelf ca3) lc_X6_hasShelf li_X6_hasShelf lm_X9_107 (by decide) (cl_35 _ _) rfl rfl rfl (Nat.le_trans (by decide) hd) rfl (Nat.le_of_ble_eq_true rfl) dX9_taken_5 ?_
  refine gx_if_eq X 21 dX9_taken_8 (by decide) (fun q4 => ?_) (fun q4 => ?_)
  · replace h := (if_pos q4).symm.trans h
    refine gx_iconst X (v := (-1 : Int32)) dX9_taken_21 (by decide) ?_
    obtain ⟨rfl, rfl⟩ := ret_eq h
    exact gx_iret X rfl dX9_taken_22
  · replace h := (if_neg q4).symm.trans h
    refine gx_iload_n X 2 rfl dX9_taken_11 ?_
    refine gx_if_lt X 21 dX9_taken_12 (by decide) (fun q5 => ?_) (fun q5 => ?_)
    · replace h := (if_pos q5).symm.trans h
      refine gx_iconst X (v := (-1 : Int32)) dX9_taken_21 (by decide) ?_
      obtain ⟨rfl, rfl⟩ := ret_eq h
      exact gx_iret X rfl dX9_taken_22
    · replace h := (if_neg q5).symm.trans h
      refine gx_iload_n X 2 rfl dX9_taken_15 ?_
      refine gx_bipush X (v := (8 : Int32)) dX9_taken_16 (by decide) ?_
      refine gx_icmp_lt X 23 dX9_taken_18 (by decide) (fun q6 => ?_) (fun q6 => ?_)
      · replace h := (if_pos q6).symm.trans h
        refine gx_aload_n X 0 rfl dX9_taken_23 ?_
        refine gx_getf X (0) lf_X9_63 (by decide) (cl_0 _ _) (v := .ref (al (35))) rfl dX9_taken_24 ?_
        refine gx_iload_n X 1 rfl dX9_taken_27 ?_
        obtain ⟨ra7, ga8, ca9, h⟩ := bdd_eq h
        refine gx_callNi X (35) (c_X6_isBare ca9) lc_X6_isBare li_X6_isBare lm_X9_113 (by decide) (cl_35 _ _) rfl rfl rfl (Nat.le_trans (by decide) hd) rfl (Nat.le_of_ble_eq_true rfl) dX9_taken_28 ?_
        refine gx_if_eq X 37 dX9_taken_31 (by decide) (fun q10 => ?_) (fun q10 => ?_)
        · replace h := (if_pos q10).symm.trans h
          refine gx_aload_n X 0 rfl dX9_taken_37 ?_
          refine gx_getf X (0) lf_X9_63 (by decide) (cl_0 _ _) (v := .ref (al (35))) rfl dX9_taken_38 ?_
          refine gx_iload_n X 1 rfl dX9_taken_41 ?_
          obtain ⟨ra11, ga12, ca13, h⟩ := bdd_eq h
          refine gx_callNi X (35) (c_X6_holdsATable ca13) lc_X6_holdsATable li_X6_holdsATable lm_X9_337 (by decide) (cl_35 _ _) rfl rfl rfl (Nat.le_trans (by decide) hd) rfl (Nat.le_of_ble_eq_true rfl) dX9_taken_42 ?_
          refine gx_if_ne X 51 dX9_taken_45 (by decide) (fun q14 => ?_) (fun q14 => ?_)
          · replace h := (if_neg q14).symm.trans h
            refine gx_aload_n X 0 rfl dX9_taken_51 ?_
            refine gx_getf X (0) lf_X9_56 (by decide) (cl_0 _ _) (v := .ref (al (32))) rfl dX9_taken_52 ?_
            refine gx_aload_n X 0 rfl dX9_taken_55 ?_
            refine gx_getf X (0) lf_X9_63 (by decide) (cl_0 _ _) (v := .ref (al (35))) rfl dX9_taken_56 ?_
            refine gx_getn X (35) lf_X9_340 (by decide) (cl_35 _ _) (v := .ref (al (37))) rfl dX9_taken_59 ?_
            refine gx_iload_n X 1 rfl dX9_taken_62 ?_
            obtain ⟨q15, h⟩ := gdd_eq h
            refine gx_iald X (37) 6 (by decide) (cl_37 _ _) q15 dX9_taken_63 ?_
            obtain ⟨ra16, ga17, ca18, h⟩ := bdd_eq h
            refine gx_callNi X (32) (c_X0_kindOf ca18) lc_X0_kindOf li_X0_kindOf lm_X9_343 (by decide) (cl_32 _ _) rfl rfl rfl (Nat.le_trans (by decide) hd) rfl (Nat.le_of_ble_eq_true rfl) dX9_taken_64 ?_
            refine gx_istore_n X [(3, .int (ra16)), (0, .ref (al (0))), (1, .int (a1)), (2, .int (a2))] dX9_taken_67 (by decide) rfl ?_
            refine gx_aload_n X 1 rfl dX9_taken_68 ?_
            refine gx_getf X (0) lf_X9_56 (by decide) (cl_0 _ _) (v := .ref (al (32))) rfl dX9_taken_69 ?_
            refine gx_iload_n X 0 rfl dX9_taken_72 ?_
            refine gx_iload_n X 3 rfl dX9_taken_73 ?_
            obtain ⟨ra19, ga20, ca21, h⟩ := bdd_eq h
            refine gx_callNi X (32) (c_X0_isUnder ca21) lc_X0_isUnder li_X0_isUnder lm_X9_346 (by decide) (cl_32 _ _) rfl rfl rfl (Nat.le_trans (by decide) hd) rfl (Nat.le_of_ble_eq_true rfl) dX9_taken_74 ?_
            refine gx_if_eq X 84 dX9_taken_77 (by decide) (fun q22 => ?_) (fun q22 => ?_)
            · replace h := (if_pos q22).symm.trans h
              refine gx_bipush X (v := (-12 : Int32)) dX9_taken_84 (by decide) ?_
              obtain ⟨rfl, rfl⟩ := ret_eq h
              exact gx_iret X rfl dX9_taken_86
            · replace h := (if_neg q22).symm.trans h
              refine gx_iload_n X 0 rfl dX9_taken_80 ?_
              refine gx_goto X 86 dX9_taken_81 (by decide) ?_
              obtain ⟨rfl, rfl⟩ := ret_eq h
              exact gx_iret X rfl dX9_taken_86
          · replace h := (if_pos q14).symm.trans h
            refine gx_bipush X (v := (-12 : Int32)) dX9_taken_48 (by decide) ?_
            obtain ⟨rfl, rfl⟩ := ret_eq h
            exact gx_iret X rfl dX9_taken_50
        · replace h := (if_neg q10).symm.trans h
          refine gx_bipush X (v := (-11 : Int32)) dX9_taken_34 (by decide) ?_
          obtain ⟨rfl, rfl⟩ := ret_eq h
          exact gx_iret X rfl dX9_taken_36
      · replace h := (if_neg q6).symm.trans h
        refine gx_iconst X (v := (-1 : Int32)) dX9_taken_21 (by decide) ?_
        obtain ⟨rfl, rfl⟩ := ret_eq h
        exact gx_iret X rfl dX9_taken_22
theorem dX9_tells_0 : decode cX9_tells 0 = .ok (.iload_n 1, 1) := by decide +kernel
theorem dX9_tells_1 : decode cX9_tells 1 = .ok (.ifCond .lt 8, 3) := by decide +kernel
theorem dX9_tells_4 : decode cX9_tells 4 = .ok (.iload_n 1, 1) := by decide +kernel
theorem dX9_tells_5 : decode cX9_tells 5 = .ok (.iconst 3, 1) := by decide +kernel
theorem dX9_tells_6 : decode cX9_tells 6 = .ok (.if_icmp .le 5, 3) := by decide +kernel
theorem dX9_tells_9 : decode cX9_tells 9 = .ok (.iconst (-1), 1) := by decide +kernel
theorem dX9_tells_10 : decode cX9_tells 10 = .ok (.ireturn, 1) := by decide +kernel
theorem dX9_tells_11 : decode cX9_tells 11 = .ok (.aload_n 0, 1) := by decide +kernel
theorem dX9_tells_12 : decode cX9_tells 12 = .ok (.getfield 10, 3) := by decide +kernel
theorem dX9_tells_15 : decode cX9_tells 15 = .ok (.getfield 67, 3) := by decide +kernel
theorem dX9_tells_18 : decode cX9_tells 18 = .ok (.ifCond .ne 6, 3) := by decide +kernel
theorem dX9_tells_21 : decode cX9_tells 21 = .ok (.bipush (-5), 2) := by decide +kernel
theorem dX9_tells_23 : decode cX9_tells 23 = .ok (.ireturn, 1) := by decide +kernel
theorem dX9_tells_24 : decode cX9_tells 24 = .ok (.aload_n 0, 1) := by decide +kernel
theorem dX9_tells_25 : decode cX9_tells 25 = .ok (.getfield 35, 3) := by decide +kernel
theorem dX9_tells_28 : decode cX9_tells 28 = .ok (.invokevirtual 178, 3) := by decide +kernel
theorem dX9_tells_31 : decode cX9_tells 31 = .ok (.istore_n 2, 1) := by decide +kernel
theorem dX9_tells_32 : decode cX9_tells 32 = .ok (.iload_n 1, 1) := by decide +kernel
theorem dX9_tells_33 : decode cX9_tells 33 = .ok (.iconst 3, 1) := by decide +kernel
theorem dX9_tells_34 : decode cX9_tells 34 = .ok (.if_icmp .ne 13, 3) := by decide +kernel
theorem dX9_tells_37 : decode cX9_tells 37 = .ok (.iload_n 2, 1) := by decide +kernel
theorem dX9_tells_38 : decode cX9_tells 38 = .ok (.ifCond .eq 7, 3) := by decide +kernel
theorem dX9_tells_41 : decode cX9_tells 41 = .ok (.iconst 1, 1) := by decide +kernel
theorem dX9_tells_42 : decode cX9_tells 42 = .ok (.goto 4, 3) := by decide +kernel
theorem dX9_tells_45 : decode cX9_tells 45 = .ok (.iconst 0, 1) := by decide +kernel
theorem dX9_tells_46 : decode cX9_tells 46 = .ok (.ireturn, 1) := by decide +kernel
theorem dX9_tells_47 : decode cX9_tells 47 = .ok (.iload_n 2, 1) := by decide +kernel
theorem dX9_tells_48 : decode cX9_tells 48 = .ok (.ifCond .eq 8, 3) := by decide +kernel
theorem dX9_tells_51 : decode cX9_tells 51 = .ok (.bipush (-2), 2) := by decide +kernel
theorem dX9_tells_53 : decode cX9_tells 53 = .ok (.goto 11, 3) := by decide +kernel
theorem dX9_tells_56 : decode cX9_tells 56 = .ok (.aload_n 0, 1) := by decide +kernel
theorem dX9_tells_57 : decode cX9_tells 57 = .ok (.getfield 35, 3) := by decide +kernel
theorem dX9_tells_60 : decode cX9_tells 60 = .ok (.iload_n 1, 1) := by decide +kernel
theorem dX9_tells_61 : decode cX9_tells 61 = .ok (.invokevirtual 182, 3) := by decide +kernel
theorem dX9_tells_64 : decode cX9_tells 64 = .ok (.ireturn, 1) := by decide +kernel
def m_X9_tells (a1 : Int32) (g : Mm) : Option (Int32 × Mm) := (if a1 < (0 : Int32) then some ((-1 : Int32), g) else (if a1 ≤ (3 : Int32) then (if (rdI g 1 0) = (0 : Int32) then some ((-5 : Int32), g) else bdd (m_X7_allTold  g) (fun ra4 ga5 => (if a1 = (3 : Int32) then (if ra4 = (0 : Int32) then some ((0 : Int32), ga5) else some ((1 : Int32), ga5)) else (if ra4 = (0 : Int32) then bdd (m_X7_firstFault a1 ga5) (fun ra9 ga10 => some (ra9, ga10)) else some ((-2 : Int32), ga5))))) else some ((-1 : Int32), g)))
set_option maxHeartbeats 2000000 in
theorem c_X9_tells {r2 : Int32} {g g2 : Mm} {a1 : Int32} (h : m_X9_tells a1 g = some (r2, g2)) : gx_M 6 yX9_tells cX9_tells 3 (some .int) (fun al => [.ref (al (0)), .int (a1)]) g (some (.int r2)) g2 := by
  have hd : 6 ≤ 6 := Nat.le_refl _
  refine gx_M.of (by decide +kernel) (fun _ => Nat.le_of_ble_eq_true rfl) ?_
  intro p l e R s m args below meth c D al cI cJ A X
  refine gx_eq (pc' := 0) (ls' := [(0, .ref (al (0))), (1, .int (a1))]) (st' := []) (g' := g) ⟨rfl, rfl, rfl, rfl⟩ ?_
  unfold m_X9_tells at h
  refine gx_iload_n X 1 rfl dX9_tells_0 ?_
  refine gx_if_lt X 9 dX9_tells_1 (by decide) (fun q1 => ?_) (fun q1 => ?_)
  · replace h := (if_pos q1).symm.trans h
    refine gx_iconst X (v := (-1 : Int32)) dX9_tells_9 (by decide) ?_
    obtain ⟨rfl, rfl⟩ := ret_eq h
    exact gx_iret X rfl dX9_tells_10
  · replace h := (if_neg q1).symm.trans h
    refine gx_iload_n X 1 rfl dX9_tells_4 ?_
    refine gx_iconst X (v := (3 : Int32)) dX9_tells_5 (by decide) ?_
    refine gx_icmp_le X 11 dX9_tells_6 (by decide) (fun q2 => ?_) (fun q2 => ?_)
    · replace h := (if_pos q2).symm.trans h
      refine gx_aload_n X 0 rfl dX9_tells_11 ?_
      refine gx_getf X (0) lf_X9_10 (by decide) (cl_0 _ _) (v := .ref (al (1))) rfl dX9_tells_12 ?_
      refine gx_getn X (1) lf_X9_67 (by decide) (cl_1 _ _) (v := .int ((rdI g 1 0))) rfl dX9_tells_15 ?_
      refine gx_if_ne X 24 dX9_tells_18 (by decide) (fun q3 => ?_) (fun q3 => ?_)
      · replace h := (if_neg q3).symm.trans h
        refine gx_aload_n X 0 rfl dX9_tells_24 ?_
        refine gx_getf X (0) lf_X9_35 (by decide) (cl_0 _ _) (v := .ref (al (23))) rfl dX9_tells_25 ?_
        obtain ⟨ra4, ga5, ca6, h⟩ := bdd_eq h
        refine gx_callNi X (23) (c_X7_allTold ca6) lc_X7_allTold li_X7_allTold lm_X9_178 (by decide) (cl_23 _ _) rfl rfl rfl (Nat.le_trans (by decide) hd) rfl (Nat.le_of_ble_eq_true rfl) dX9_tells_28 ?_
        refine gx_istore_n X [(2, .int (ra4)), (0, .ref (al (0))), (1, .int (a1))] dX9_tells_31 (by decide) rfl ?_
        refine gx_iload_n X 2 rfl dX9_tells_32 ?_
        refine gx_iconst X (v := (3 : Int32)) dX9_tells_33 (by decide) ?_
        refine gx_icmp_ne X 47 dX9_tells_34 (by decide) (fun q7 => ?_) (fun q7 => ?_)
        · replace h := (if_neg q7).symm.trans h
          refine gx_iload_n X 0 rfl dX9_tells_47 ?_
          refine gx_if_eq X 56 dX9_tells_48 (by decide) (fun q8 => ?_) (fun q8 => ?_)
          · replace h := (if_pos q8).symm.trans h
            refine gx_aload_n X 1 rfl dX9_tells_56 ?_
            refine gx_getf X (0) lf_X9_35 (by decide) (cl_0 _ _) (v := .ref (al (23))) rfl dX9_tells_57 ?_
            refine gx_iload_n X 2 rfl dX9_tells_60 ?_
            obtain ⟨ra9, ga10, ca11, h⟩ := bdd_eq h
            refine gx_callNi X (23) (c_X7_firstFault ca11) lc_X7_firstFault li_X7_firstFault lm_X9_182 (by decide) (cl_23 _ _) rfl rfl rfl (Nat.le_trans (by decide) hd) rfl (Nat.le_of_ble_eq_true rfl) dX9_tells_61 ?_
            obtain ⟨rfl, rfl⟩ := ret_eq h
            exact gx_iret X rfl dX9_tells_64
          · replace h := (if_neg q8).symm.trans h
            refine gx_bipush X (v := (-2 : Int32)) dX9_tells_51 (by decide) ?_
            refine gx_goto X 64 dX9_tells_53 (by decide) ?_
            obtain ⟨rfl, rfl⟩ := ret_eq h
            exact gx_iret X rfl dX9_tells_64
        · replace h := (if_pos q7).symm.trans h
          refine gx_iload_n X 0 rfl dX9_tells_37 ?_
          refine gx_if_eq X 45 dX9_tells_38 (by decide) (fun q12 => ?_) (fun q12 => ?_)
          · replace h := (if_pos q12).symm.trans h
            refine gx_iconst X (v := (0 : Int32)) dX9_tells_45 (by decide) ?_
            obtain ⟨rfl, rfl⟩ := ret_eq h
            exact gx_iret X rfl dX9_tells_46
          · replace h := (if_neg q12).symm.trans h
            refine gx_iconst X (v := (1 : Int32)) dX9_tells_41 (by decide) ?_
            refine gx_goto X 46 dX9_tells_42 (by decide) ?_
            obtain ⟨rfl, rfl⟩ := ret_eq h
            exact gx_iret X rfl dX9_tells_46
      · replace h := (if_pos q3).symm.trans h
        refine gx_bipush X (v := (-5 : Int32)) dX9_tells_21 (by decide) ?_
        obtain ⟨rfl, rfl⟩ := ret_eq h
        exact gx_iret X rfl dX9_tells_23
    · replace h := (if_neg q2).symm.trans h
      refine gx_iconst X (v := (-1 : Int32)) dX9_tells_9 (by decide) ?_
      obtain ⟨rfl, rfl⟩ := ret_eq h
      exact gx_iret X rfl dX9_tells_10
theorem dX9_trace_0 : decode cX9_trace 0 = .ok (.iload_n 1, 1) := by decide +kernel
theorem dX9_trace_1 : decode cX9_trace 1 = .ok (.ifCond .lt 26, 3) := by decide +kernel
theorem dX9_trace_4 : decode cX9_trace 4 = .ok (.iload_n 1, 1) := by decide +kernel
theorem dX9_trace_5 : decode cX9_trace 5 = .ok (.aload_n 0, 1) := by decide +kernel
theorem dX9_trace_6 : decode cX9_trace 6 = .ok (.getfield 56, 3) := by decide +kernel
theorem dX9_trace_9 : decode cX9_trace 9 = .ok (.invokevirtual 302, 3) := by decide +kernel
theorem dX9_trace_12 : decode cX9_trace 12 = .ok (.if_icmp .ge 15, 3) := by decide +kernel
theorem dX9_trace_15 : decode cX9_trace 15 = .ok (.aload_n 0, 1) := by decide +kernel
theorem dX9_trace_16 : decode cX9_trace 16 = .ok (.getfield 56, 3) := by decide +kernel
theorem dX9_trace_19 : decode cX9_trace 19 = .ok (.getfield 305, 3) := by decide +kernel
theorem dX9_trace_22 : decode cX9_trace 22 = .ok (.iload_n 1, 1) := by decide +kernel
theorem dX9_trace_23 : decode cX9_trace 23 = .ok (.iaload, 1) := by decide +kernel
theorem dX9_trace_24 : decode cX9_trace 24 = .ok (.goto 4, 3) := by decide +kernel
theorem dX9_trace_27 : decode cX9_trace 27 = .ok (.iconst (-1), 1) := by decide +kernel
theorem dX9_trace_28 : decode cX9_trace 28 = .ok (.ireturn, 1) := by decide +kernel
def m_X9_trace (a1 : Int32) (g : Mm) : Option (Int32 × Mm) := (if a1 < (0 : Int32) then some ((-1 : Int32), g) else bdd (m_X0_tracesKept  g) (fun ra2 ga3 => (if ra2 ≤ a1 then some ((-1 : Int32), ga3) else gdd (ixo a1 24) (some ((rdI ga3 34 a1.toNatClampNeg), ga3)))))
set_option maxHeartbeats 2000000 in
theorem c_X9_trace {r2 : Int32} {g g2 : Mm} {a1 : Int32} (h : m_X9_trace a1 g = some (r2, g2)) : gx_M 3 yX9_trace cX9_trace 2 (some .int) (fun al => [.ref (al (0)), .int (a1)]) g (some (.int r2)) g2 := by
  have hd : 3 ≤ 3 := Nat.le_refl _
  refine gx_M.of (by decide +kernel) (fun _ => Nat.le_of_ble_eq_true rfl) ?_
  intro p l e R s m args below meth c D al cI cJ A X
  refine gx_eq (pc' := 0) (ls' := [(0, .ref (al (0))), (1, .int (a1))]) (st' := []) (g' := g) ⟨rfl, rfl, rfl, rfl⟩ ?_
  unfold m_X9_trace at h
  refine gx_iload_n X 1 rfl dX9_trace_0 ?_
  refine gx_if_lt X 27 dX9_trace_1 (by decide) (fun q1 => ?_) (fun q1 => ?_)
  · replace h := (if_pos q1).symm.trans h
    refine gx_iconst X (v := (-1 : Int32)) dX9_trace_27 (by decide) ?_
    obtain ⟨rfl, rfl⟩ := ret_eq h
    exact gx_iret X rfl dX9_trace_28
  · replace h := (if_neg q1).symm.trans h
    refine gx_iload_n X 1 rfl dX9_trace_4 ?_
    refine gx_aload_n X 0 rfl dX9_trace_5 ?_
    refine gx_getf X (0) lf_X9_56 (by decide) (cl_0 _ _) (v := .ref (al (32))) rfl dX9_trace_6 ?_
    obtain ⟨ra2, ga3, ca4, h⟩ := bdd_eq h
    refine gx_callNi X (32) (c_X0_tracesKept ca4) lc_X0_tracesKept li_X0_tracesKept lm_X9_302 (by decide) (cl_32 _ _) rfl rfl rfl (Nat.le_trans (by decide) hd) rfl (Nat.le_of_ble_eq_true rfl) dX9_trace_9 ?_
    refine gx_icmp_ge X 27 dX9_trace_12 (by decide) (fun q5 => ?_) (fun q5 => ?_)
    · replace h := (if_pos q5).symm.trans h
      refine gx_iconst X (v := (-1 : Int32)) dX9_trace_27 (by decide) ?_
      obtain ⟨rfl, rfl⟩ := ret_eq h
      exact gx_iret X rfl dX9_trace_28
    · replace h := (if_neg q5).symm.trans h
      refine gx_aload_n X 0 rfl dX9_trace_15 ?_
      refine gx_getf X (0) lf_X9_56 (by decide) (cl_0 _ _) (v := .ref (al (32))) rfl dX9_trace_16 ?_
      refine gx_getn X (32) lf_X9_305 (by decide) (cl_32 _ _) (v := .ref (al (34))) rfl dX9_trace_19 ?_
      refine gx_iload_n X 1 rfl dX9_trace_22 ?_
      obtain ⟨q6, h⟩ := gdd_eq h
      refine gx_iald X (34) 24 (by decide) (cl_34 _ _) q6 dX9_trace_23 ?_
      refine gx_goto X 28 dX9_trace_24 (by decide) ?_
      obtain ⟨rfl, rfl⟩ := ret_eq h
      exact gx_iret X rfl dX9_trace_28
theorem dX9_undo_0 : decode cX9_undo 0 = .ok (.aload_n 0, 1) := by decide +kernel
theorem dX9_undo_1 : decode cX9_undo 1 = .ok (.getfield 19, 3) := by decide +kernel
theorem dX9_undo_4 : decode cX9_undo 4 = .ok (.getfield 270, 3) := by decide +kernel
theorem dX9_undo_7 : decode cX9_undo 7 = .ok (.ifCond .ne 6, 3) := by decide +kernel
theorem dX9_undo_10 : decode cX9_undo 10 = .ok (.bipush (-5), 2) := by decide +kernel
theorem dX9_undo_12 : decode cX9_undo 12 = .ok (.ireturn, 1) := by decide +kernel
theorem dX9_undo_13 : decode cX9_undo 13 = .ok (.aload_n 0, 1) := by decide +kernel
theorem dX9_undo_14 : decode cX9_undo 14 = .ok (.getfield 19, 3) := by decide +kernel
theorem dX9_undo_17 : decode cX9_undo 17 = .ok (.invokevirtual 273, 3) := by decide +kernel
theorem dX9_undo_20 : decode cX9_undo 20 = .ok (.istore_n 1, 1) := by decide +kernel
theorem dX9_undo_21 : decode cX9_undo 21 = .ok (.aload_n 0, 1) := by decide +kernel
theorem dX9_undo_22 : decode cX9_undo 22 = .ok (.aload_n 0, 1) := by decide +kernel
theorem dX9_undo_23 : decode cX9_undo 23 = .ok (.getfield 19, 3) := by decide +kernel
theorem dX9_undo_26 : decode cX9_undo 26 = .ok (.getfield 276, 3) := by decide +kernel
theorem dX9_undo_29 : decode cX9_undo 29 = .ok (.iload_n 1, 1) := by decide +kernel
theorem dX9_undo_30 : decode cX9_undo 30 = .ok (.iaload, 1) := by decide +kernel
theorem dX9_undo_31 : decode cX9_undo 31 = .ok (.aload_n 0, 1) := by decide +kernel
theorem dX9_undo_32 : decode cX9_undo 32 = .ok (.getfield 19, 3) := by decide +kernel
theorem dX9_undo_35 : decode cX9_undo 35 = .ok (.getfield 279, 3) := by decide +kernel
theorem dX9_undo_38 : decode cX9_undo 38 = .ok (.iload_n 1, 1) := by decide +kernel
theorem dX9_undo_39 : decode cX9_undo 39 = .ok (.iaload, 1) := by decide +kernel
theorem dX9_undo_40 : decode cX9_undo 40 = .ok (.invokevirtual 282, 3) := by decide +kernel
theorem dX9_undo_43 : decode cX9_undo 43 = .ok (.aload_n 0, 1) := by decide +kernel
theorem dX9_undo_44 : decode cX9_undo 44 = .ok (.getfield 19, 3) := by decide +kernel
theorem dX9_undo_47 : decode cX9_undo 47 = .ok (.getfield 270, 3) := by decide +kernel
theorem dX9_undo_50 : decode cX9_undo 50 = .ok (.ireturn, 1) := by decide +kernel
def m_X9_undo (g : Mm) : Option (Int32 × Mm) := (if (rdI g 7 3) = (0 : Int32) then some ((-5 : Int32), g) else bdd (m_X1_stepBack  g) (fun ra2 ga3 => gdd (ixo ra2 40) (gdd (ixo ra2 40) (bdd (m_X9_putBack (rdI ga3 8 ra2.toNatClampNeg) (rdI ga3 9 ra2.toNatClampNeg) ga3) (fun ra7 ga8 => some ((rdI ga8 7 3), ga8))))))
set_option maxHeartbeats 2000000 in
theorem c_X9_undo {r2 : Int32} {g g2 : Mm} (h : m_X9_undo g = some (r2, g2)) : gx_M 3 yX9_undo cX9_undo 2 (some .int) (fun al => [.ref (al (0))]) g (some (.int r2)) g2 := by
  have hd : 3 ≤ 3 := Nat.le_refl _
  refine gx_M.of (by decide +kernel) (fun _ => Nat.le_of_ble_eq_true rfl) ?_
  intro p l e R s m args below meth c D al cI cJ A X
  refine gx_eq (pc' := 0) (ls' := [(0, .ref (al (0)))]) (st' := []) (g' := g) ⟨rfl, rfl, rfl, rfl⟩ ?_
  unfold m_X9_undo at h
  refine gx_aload_n X 0 rfl dX9_undo_0 ?_
  refine gx_getf X (0) lf_X9_19 (by decide) (cl_0 _ _) (v := .ref (al (7))) rfl dX9_undo_1 ?_
  refine gx_getn X (7) lf_X9_270 (by decide) (cl_7 _ _) (v := .int ((rdI g 7 3))) rfl dX9_undo_4 ?_
  refine gx_if_ne X 13 dX9_undo_7 (by decide) (fun q1 => ?_) (fun q1 => ?_)
  · replace h := (if_neg q1).symm.trans h
    refine gx_aload_n X 0 rfl dX9_undo_13 ?_
    refine gx_getf X (0) lf_X9_19 (by decide) (cl_0 _ _) (v := .ref (al (7))) rfl dX9_undo_14 ?_
    obtain ⟨ra2, ga3, ca4, h⟩ := bdd_eq h
    refine gx_callNi X (7) (c_X1_stepBack ca4) lc_X1_stepBack li_X1_stepBack lm_X9_273 (by decide) (cl_7 _ _) rfl rfl rfl (Nat.le_trans (by decide) hd) rfl (Nat.le_of_ble_eq_true rfl) dX9_undo_17 ?_
    refine gx_istore_n X [(1, .int (ra2)), (0, .ref (al (0)))] dX9_undo_20 (by decide) rfl ?_
    refine gx_aload_n X 1 rfl dX9_undo_21 ?_
    refine gx_aload_n X 1 rfl dX9_undo_22 ?_
    refine gx_getf X (0) lf_X9_19 (by decide) (cl_0 _ _) (v := .ref (al (7))) rfl dX9_undo_23 ?_
    refine gx_getn X (7) lf_X9_276 (by decide) (cl_7 _ _) (v := .ref (al (8))) rfl dX9_undo_26 ?_
    refine gx_iload_n X 0 rfl dX9_undo_29 ?_
    obtain ⟨q5, h⟩ := gdd_eq h
    refine gx_iald X (8) 40 (by decide) (cl_8 _ _) q5 dX9_undo_30 ?_
    refine gx_aload_n X 1 rfl dX9_undo_31 ?_
    refine gx_getf X (0) lf_X9_19 (by decide) (cl_0 _ _) (v := .ref (al (7))) rfl dX9_undo_32 ?_
    refine gx_getn X (7) lf_X9_279 (by decide) (cl_7 _ _) (v := .ref (al (9))) rfl dX9_undo_35 ?_
    refine gx_iload_n X 0 rfl dX9_undo_38 ?_
    obtain ⟨q6, h⟩ := gdd_eq h
    refine gx_iald X (9) 40 (by decide) (cl_9 _ _) q6 dX9_undo_39 ?_
    obtain ⟨ra7, ga8, ca9, h⟩ := bdd_eq h
    refine gx_callVv X (0) (c_X9_putBack ca9) lc_X9_putBack li_X9_putBack lm_X9_282 (by decide) (cl_0 _ _) rfl rfl rfl (Nat.le_trans (by decide) hd) rfl (Nat.le_of_ble_eq_true rfl) dX9_undo_40 ?_
    refine gx_aload_n X 1 rfl dX9_undo_43 ?_
    refine gx_getf X (0) lf_X9_19 (by decide) (cl_0 _ _) (v := .ref (al (7))) rfl dX9_undo_44 ?_
    refine gx_getn X (7) lf_X9_270 (by decide) (cl_7 _ _) (v := .int ((rdI ga8 7 3))) rfl dX9_undo_47 ?_
    obtain ⟨rfl, rfl⟩ := ret_eq h
    exact gx_iret X rfl dX9_undo_50
  · replace h := (if_pos q1).symm.trans h
    refine gx_bipush X (v := (-5 : Int32)) dX9_undo_10 (by decide) ?_
    obtain ⟨rfl, rfl⟩ := ret_eq h
    exact gx_iret X rfl dX9_undo_12
theorem dX9_which_0 : decode cX9_which 0 = .ok (.aload_n 0, 1) := by decide +kernel
theorem dX9_which_1 : decode cX9_which 1 = .ok (.getfield 49, 3) := by decide +kernel
theorem dX9_which_4 : decode cX9_which 4 = .ok (.invokevirtual 195, 3) := by decide +kernel
theorem dX9_which_7 : decode cX9_which 7 = .ok (.istore_n 1, 1) := by decide +kernel
theorem dX9_which_8 : decode cX9_which 8 = .ok (.aload_n 0, 1) := by decide +kernel
theorem dX9_which_9 : decode cX9_which 9 = .ok (.getfield 49, 3) := by decide +kernel
theorem dX9_which_12 : decode cX9_which 12 = .ok (.invokevirtual 198, 3) := by decide +kernel
theorem dX9_which_15 : decode cX9_which 15 = .ok (.iload_n 1, 1) := by decide +kernel
theorem dX9_which_16 : decode cX9_which 16 = .ok (.ireturn, 1) := by decide +kernel
def m_X9_which (g : Mm) : Option (Int32 × Mm) := bdd (m_X2_hoursHeard  g) (fun ra1 ga2 => bdd (m_X2_forgetTold  ga2) (fun ra4 ga5 => some (ra1, ga5)))
set_option maxHeartbeats 2000000 in
theorem c_X9_which {r2 : Int32} {g g2 : Mm} (h : m_X9_which g = some (r2, g2)) : gx_M 4 yX9_which cX9_which 2 (some .int) (fun al => [.ref (al (0))]) g (some (.int r2)) g2 := by
  have hd : 4 ≤ 4 := Nat.le_refl _
  refine gx_M.of (by decide +kernel) (fun _ => Nat.le_of_ble_eq_true rfl) ?_
  intro p l e R s m args below meth c D al cI cJ A X
  refine gx_eq (pc' := 0) (ls' := [(0, .ref (al (0)))]) (st' := []) (g' := g) ⟨rfl, rfl, rfl, rfl⟩ ?_
  unfold m_X9_which at h
  refine gx_aload_n X 0 rfl dX9_which_0 ?_
  refine gx_getf X (0) lf_X9_49 (by decide) (cl_0 _ _) (v := .ref (al (29))) rfl dX9_which_1 ?_
  obtain ⟨ra1, ga2, ca3, h⟩ := bdd_eq h
  refine gx_callNi X (29) (c_X2_hoursHeard ca3) lc_X2_hoursHeard li_X2_hoursHeard lm_X9_195 (by decide) (cl_29 _ _) rfl rfl rfl (Nat.le_trans (by decide) hd) rfl (Nat.le_of_ble_eq_true rfl) dX9_which_4 ?_
  refine gx_istore_n X [(1, .int (ra1)), (0, .ref (al (0)))] dX9_which_7 (by decide) rfl ?_
  refine gx_aload_n X 1 rfl dX9_which_8 ?_
  refine gx_getf X (0) lf_X9_49 (by decide) (cl_0 _ _) (v := .ref (al (29))) rfl dX9_which_9 ?_
  obtain ⟨ra4, ga5, ca6, h⟩ := bdd_eq h
  refine gx_callNv X (29) (c_X2_forgetTold ca6) lc_X2_forgetTold li_X2_forgetTold lm_X9_198 (by decide) (cl_29 _ _) rfl rfl rfl (Nat.le_trans (by decide) hd) rfl (Nat.le_of_ble_eq_true rfl) dX9_which_12 ?_
  refine gx_iload_n X 0 rfl dX9_which_15 ?_
  obtain ⟨rfl, rfl⟩ := ret_eq h
  exact gx_iret X rfl dX9_which_16
end DC
