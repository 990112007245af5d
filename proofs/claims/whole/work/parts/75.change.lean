/-! changes -/
/-- agreement outside the changes' places carries all else -/
theorem dj_ct {c i : Nat} (h : pl_t c i = true) : pl_c c i = false := by
  simp only [pl_t, pl_c, Bool.or_eq_true, Bool.and_eq_true, beq_iff_eq, Bool.or_eq_false_iff, Bool.and_eq_false_iff, beq_eq_false_iff_ne] at *
  omega
theorem dj_cx {c i : Nat} (h : pl_x c i = true) : pl_c c i = false := by
  simp only [pl_x, pl_c, Bool.or_eq_true, Bool.and_eq_true, beq_iff_eq, Bool.or_eq_false_iff, Bool.and_eq_false_iff, beq_eq_false_iff_ne] at *
  omega
theorem dj_cp {c i : Nat} (h : pl_p c i = true) : pl_c c i = false := by
  simp only [pl_p, pl_c, Bool.or_eq_true, Bool.and_eq_true, beq_iff_eq, Bool.or_eq_false_iff, Bool.and_eq_false_iff, beq_eq_false_iff_ne] at *
  omega
theorem dj_ce {c i : Nat} (h : pl_e c i = true) : pl_c c i = false := by
  simp only [pl_e, pl_c, Bool.or_eq_true, Bool.and_eq_true, beq_iff_eq, Bool.or_eq_false_iff, Bool.and_eq_false_iff, beq_eq_false_iff_ne] at *
  omega
theorem dj_ca {c i : Nat} (h : pl_a c i = true) : pl_c c i = false := by
  simp only [pl_a, pl_c, Bool.or_eq_true, Bool.and_eq_true, beq_iff_eq, Bool.or_eq_false_iff, Bool.and_eq_false_iff, beq_eq_false_iff_ne] at *
  omega
theorem dj_cs {c i : Nat} (h : pl_s c i = true) : pl_c c i = false := by
  simp only [pl_s, pl_c, Bool.or_eq_true, Bool.and_eq_true, beq_iff_eq, Bool.or_eq_false_iff, Bool.and_eq_false_iff, beq_eq_false_iff_ne] at *
  omega
theorem pgm_01 (f : Int32) : pgm f = 13 ∨ pgm f = 18 := by unfold pgm; split <;> simp
theorem dj_cl {f : Int32} {c i : Nat} (h : pl_l f c i = true) : pl_c c i = false := by
  simp only [pl_l, pl_c, Bool.or_eq_true, Bool.and_eq_true, beq_iff_eq, Bool.or_eq_false_iff, Bool.and_eq_false_iff, beq_eq_false_iff_ne] at *
  have := pgm_01 f
  omega
/-- a change more, in the class -/
theorem note_c {cd ck nb nh : Nat} {g : Mm} (hC : gv_c cd ck nb nh g) (p v w : Int32) : ∃ g1, m_X1_note p v w g = some (nI 0, g1) ∧ (∀ c i, c ≠ 7 → c ≠ 8 → c ≠ 9 → c ≠ 10 → rdI g1 c i = rdI g c i) ∧ g1.2 = g.2 ∧
    rdI g1 7 3 = nI (if cd = 40 then 40 else cd + 1) ∧ rdI g1 7 4 = nI (if cd = 40 then 40 else cd + 1) ∧
    ∀ k, k < (if cd = 40 then 40 else cd + 1) → (rdI g1 8 k = if k + 1 = (if cd = 40 then 40 else cd + 1) then p else rdI g 8 (if cd = 40 then k + 1 else k)) ∧ (rdI g1 9 k = if k + 1 = (if cd = 40 then 40 else cd + 1) then v else rdI g 9 (if cd = 40 then k + 1 else k)) ∧ (rdI g1 10 k = if k + 1 = (if cd = 40 then 40 else cd + 1) then w else rdI g 10 (if cd = 40 then k + 1 else k)) := by
  obtain ⟨⟨h1, h2⟩, ⟨a1, a2, a3, a4⟩, h3⟩ := hC
  by_cases q : cd = 40
  · subst q
    simp only [if_true]
    have e1 : ((1 : Int32)).toNatClampNeg = 1 := rfl
    have e0 : ((0 : Int32)).toNatClampNeg = 0 := rfl
    have e39 : ((39 : Int32)).toNatClampNeg = 39 := rfl
    refine ⟨wrI (wrI (wrI (wrI (wrI (wrI (cpI (cpI (cpI g 8 1 8 0 39) 9 1 9 0 39) 10 1 10 0 39) 7 3 (nI 39)) 8 39 p) 9 39 v) 10 39 w) 7 3 (nI 40)) 7 4 (nI 40), ?_, fun c i c1 c2 c3 c4 => ?_, rfl, ?_, ?_, fun k hk => ⟨?_, ?_, ?_⟩⟩
    · rw [m_X1_note, a1, if_pos (show nI 40 = 40 from rfl), m_X1_dropOldest, show acp (1 : Int32) (39 : Int32) 40 = true from by decide, show acp (0 : Int32) (39 : Int32) 40 = true from by decide]
      simp only [gdd_true, bdd_some, e1, e0, e39]
      simp (disch := omega) only [m_X1_note_13, a1, fa_lit, nI_nm1, nm1_nI, nI_nm1l, Nat.mul_comm _ 6, Nat.mul_comm _ 60, nI_ltI, nI_leI, nI_eq, nI_add, pk_mul, pk_sub, rm_nI, pk_div, nI_clamp, gdd_true, ix_nI, bdd_some, if_pos, if_neg, rI_wI, rI_wL, rL_wI, rL_wL, rI_cI, rI_cL, rL_cI, rL_cL, false_and, and_false, true_and, and_true, if_true, if_false, not_true_eq_false, not_false_eq_true, reduceCtorEq, zb_bz, bz_t, bz_f, Bool.true_eq_false, Bool.false_eq_true]
    · simp (disch := omega) only [fa_lit, nI_nm1, nm1_nI, nI_nm1l, Nat.mul_comm _ 6, Nat.mul_comm _ 60, nI_ltI, nI_leI, nI_eq, nI_add, pk_mul, pk_sub, rm_nI, pk_div, nI_clamp, gdd_true, ix_nI, bdd_some, if_pos, if_neg, rI_wI, rI_wL, rL_wI, rL_wL, rI_cI, rI_cL, rL_cI, rL_cL, false_and, and_false, true_and, and_true, if_true, if_false, not_true_eq_false, not_false_eq_true, reduceCtorEq, zb_bz, bz_t, bz_f, Bool.true_eq_false, Bool.false_eq_true]
    · simp (disch := omega) only [fa_lit, nI_nm1, nm1_nI, nI_nm1l, Nat.mul_comm _ 6, Nat.mul_comm _ 60, nI_ltI, nI_leI, nI_eq, nI_add, pk_mul, pk_sub, rm_nI, pk_div, nI_clamp, gdd_true, ix_nI, bdd_some, if_pos, if_neg, rI_wI, rI_wL, rL_wI, rL_wL, rI_cI, rI_cL, rL_cI, rL_cL, false_and, and_false, true_and, and_true, if_true, if_false, not_true_eq_false, not_false_eq_true, reduceCtorEq, zb_bz, bz_t, bz_f, Bool.true_eq_false, Bool.false_eq_true]
    · simp (disch := omega) only [fa_lit, nI_nm1, nm1_nI, nI_nm1l, Nat.mul_comm _ 6, Nat.mul_comm _ 60, nI_ltI, nI_leI, nI_eq, nI_add, pk_mul, pk_sub, rm_nI, pk_div, nI_clamp, gdd_true, ix_nI, bdd_some, if_pos, if_neg, rI_wI, rI_wL, rL_wI, rL_wL, rI_cI, rI_cL, rL_cI, rL_cL, false_and, and_false, true_and, and_true, if_true, if_false, not_true_eq_false, not_false_eq_true, reduceCtorEq, zb_bz, bz_t, bz_f, Bool.true_eq_false, Bool.false_eq_true]
    · by_cases k39 : k = 39
      · subst k39
        simp (disch := omega) only [fa_lit, nI_nm1, nm1_nI, nI_nm1l, Nat.mul_comm _ 6, Nat.mul_comm _ 60, nI_ltI, nI_leI, nI_eq, nI_add, pk_mul, pk_sub, rm_nI, pk_div, nI_clamp, gdd_true, ix_nI, bdd_some, if_pos, if_neg, rI_wI, rI_wL, rL_wI, rL_wL, rI_cI, rI_cL, rL_cI, rL_cL, false_and, and_false, true_and, and_true, if_true, if_false, not_true_eq_false, not_false_eq_true, reduceCtorEq, zb_bz, bz_t, bz_f, Bool.true_eq_false, Bool.false_eq_true]
      · simp (disch := omega) only [fa_lit, nI_nm1, nm1_nI, nI_nm1l, Nat.mul_comm _ 6, Nat.mul_comm _ 60, nI_ltI, nI_leI, nI_eq, nI_add, pk_mul, pk_sub, rm_nI, pk_div, nI_clamp, gdd_true, ix_nI, bdd_some, if_pos, if_neg, rI_wI, rI_wL, rL_wI, rL_wL, rI_cI, rI_cL, rL_cI, rL_cL, false_and, and_false, true_and, and_true, if_true, if_false, not_true_eq_false, not_false_eq_true, reduceCtorEq, zb_bz, bz_t, bz_f, Bool.true_eq_false, Bool.false_eq_true]
        rw [Nat.sub_zero, Nat.add_comm]
    · by_cases k39 : k = 39
      · subst k39
        simp (disch := omega) only [fa_lit, nI_nm1, nm1_nI, nI_nm1l, Nat.mul_comm _ 6, Nat.mul_comm _ 60, nI_ltI, nI_leI, nI_eq, nI_add, pk_mul, pk_sub, rm_nI, pk_div, nI_clamp, gdd_true, ix_nI, bdd_some, if_pos, if_neg, rI_wI, rI_wL, rL_wI, rL_wL, rI_cI, rI_cL, rL_cI, rL_cL, false_and, and_false, true_and, and_true, if_true, if_false, not_true_eq_false, not_false_eq_true, reduceCtorEq, zb_bz, bz_t, bz_f, Bool.true_eq_false, Bool.false_eq_true]
      · simp (disch := omega) only [fa_lit, nI_nm1, nm1_nI, nI_nm1l, Nat.mul_comm _ 6, Nat.mul_comm _ 60, nI_ltI, nI_leI, nI_eq, nI_add, pk_mul, pk_sub, rm_nI, pk_div, nI_clamp, gdd_true, ix_nI, bdd_some, if_pos, if_neg, rI_wI, rI_wL, rL_wI, rL_wL, rI_cI, rI_cL, rL_cI, rL_cL, false_and, and_false, true_and, and_true, if_true, if_false, not_true_eq_false, not_false_eq_true, reduceCtorEq, zb_bz, bz_t, bz_f, Bool.true_eq_false, Bool.false_eq_true]
        rw [Nat.sub_zero, Nat.add_comm]
    · by_cases k39 : k = 39
      · subst k39
        simp (disch := omega) only [fa_lit, nI_nm1, nm1_nI, nI_nm1l, Nat.mul_comm _ 6, Nat.mul_comm _ 60, nI_ltI, nI_leI, nI_eq, nI_add, pk_mul, pk_sub, rm_nI, pk_div, nI_clamp, gdd_true, ix_nI, bdd_some, if_pos, if_neg, rI_wI, rI_wL, rL_wI, rL_wL, rI_cI, rI_cL, rL_cI, rL_cL, false_and, and_false, true_and, and_true, if_true, if_false, not_true_eq_false, not_false_eq_true, reduceCtorEq, zb_bz, bz_t, bz_f, Bool.true_eq_false, Bool.false_eq_true]
      · simp (disch := omega) only [fa_lit, nI_nm1, nm1_nI, nI_nm1l, Nat.mul_comm _ 6, Nat.mul_comm _ 60, nI_ltI, nI_leI, nI_eq, nI_add, pk_mul, pk_sub, rm_nI, pk_div, nI_clamp, gdd_true, ix_nI, bdd_some, if_pos, if_neg, rI_wI, rI_wL, rL_wI, rL_wL, rI_cI, rI_cL, rL_cI, rL_cL, false_and, and_false, true_and, and_true, if_true, if_false, not_true_eq_false, not_false_eq_true, reduceCtorEq, zb_bz, bz_t, bz_f, Bool.true_eq_false, Bool.false_eq_true]
        rw [Nat.sub_zero, Nat.add_comm]
  · simp only [if_neg q]
    refine ⟨wrI (wrI (wrI (wrI (wrI g 8 cd p) 9 cd v) 10 cd w) 7 3 (nI (cd + 1))) 7 4 (nI (cd + 1)), ?_, fun c i c1 c2 c3 c4 => ?_, rfl, ?_, ?_, fun k hk => ⟨?_, ?_, ?_⟩⟩
    · simp (disch := omega) only [m_X1_note, m_X1_note_13, a1, fa_lit, nI_nm1, nm1_nI, nI_nm1l, Nat.mul_comm _ 6, Nat.mul_comm _ 60, nI_ltI, nI_leI, nI_eq, nI_add, pk_mul, pk_sub, rm_nI, pk_div, nI_clamp, gdd_true, ix_nI, bdd_some, if_pos, if_neg, rI_wI, rI_wL, rL_wI, rL_wL, rI_cI, rI_cL, rL_cI, rL_cL, false_and, and_false, true_and, and_true, if_true, if_false, not_true_eq_false, not_false_eq_true, reduceCtorEq, zb_bz, bz_t, bz_f, Bool.true_eq_false, Bool.false_eq_true]
    · simp (disch := omega) only [fa_lit, nI_nm1, nm1_nI, nI_nm1l, Nat.mul_comm _ 6, Nat.mul_comm _ 60, nI_ltI, nI_leI, nI_eq, nI_add, pk_mul, pk_sub, rm_nI, pk_div, nI_clamp, gdd_true, ix_nI, bdd_some, if_pos, if_neg, rI_wI, rI_wL, rL_wI, rL_wL, rI_cI, rI_cL, rL_cI, rL_cL, false_and, and_false, true_and, and_true, if_true, if_false, not_true_eq_false, not_false_eq_true, reduceCtorEq, zb_bz, bz_t, bz_f, Bool.true_eq_false, Bool.false_eq_true]
    · simp (disch := omega) only [fa_lit, nI_nm1, nm1_nI, nI_nm1l, Nat.mul_comm _ 6, Nat.mul_comm _ 60, nI_ltI, nI_leI, nI_eq, nI_add, pk_mul, pk_sub, rm_nI, pk_div, nI_clamp, gdd_true, ix_nI, bdd_some, if_pos, if_neg, rI_wI, rI_wL, rL_wI, rL_wL, rI_cI, rI_cL, rL_cI, rL_cL, false_and, and_false, true_and, and_true, if_true, if_false, not_true_eq_false, not_false_eq_true, reduceCtorEq, zb_bz, bz_t, bz_f, Bool.true_eq_false, Bool.false_eq_true]
    · simp (disch := omega) only [fa_lit, nI_nm1, nm1_nI, nI_nm1l, Nat.mul_comm _ 6, Nat.mul_comm _ 60, nI_ltI, nI_leI, nI_eq, nI_add, pk_mul, pk_sub, rm_nI, pk_div, nI_clamp, gdd_true, ix_nI, bdd_some, if_pos, if_neg, rI_wI, rI_wL, rL_wI, rL_wL, rI_cI, rI_cL, rL_cI, rL_cL, false_and, and_false, true_and, and_true, if_true, if_false, not_true_eq_false, not_false_eq_true, reduceCtorEq, zb_bz, bz_t, bz_f, Bool.true_eq_false, Bool.false_eq_true]
    · by_cases k39 : k = cd
      · subst k39
        simp (disch := omega) only [fa_lit, nI_nm1, nm1_nI, nI_nm1l, Nat.mul_comm _ 6, Nat.mul_comm _ 60, nI_ltI, nI_leI, nI_eq, nI_add, pk_mul, pk_sub, rm_nI, pk_div, nI_clamp, gdd_true, ix_nI, bdd_some, if_pos, if_neg, rI_wI, rI_wL, rL_wI, rL_wL, rI_cI, rI_cL, rL_cI, rL_cL, false_and, and_false, true_and, and_true, if_true, if_false, not_true_eq_false, not_false_eq_true, reduceCtorEq, zb_bz, bz_t, bz_f, Bool.true_eq_false, Bool.false_eq_true]
      · simp (disch := omega) only [fa_lit, nI_nm1, nm1_nI, nI_nm1l, Nat.mul_comm _ 6, Nat.mul_comm _ 60, nI_ltI, nI_leI, nI_eq, nI_add, pk_mul, pk_sub, rm_nI, pk_div, nI_clamp, gdd_true, ix_nI, bdd_some, if_pos, if_neg, rI_wI, rI_wL, rL_wI, rL_wL, rI_cI, rI_cL, rL_cI, rL_cL, false_and, and_false, true_and, and_true, if_true, if_false, not_true_eq_false, not_false_eq_true, reduceCtorEq, zb_bz, bz_t, bz_f, Bool.true_eq_false, Bool.false_eq_true]
    · by_cases k39 : k = cd
      · subst k39
        simp (disch := omega) only [fa_lit, nI_nm1, nm1_nI, nI_nm1l, Nat.mul_comm _ 6, Nat.mul_comm _ 60, nI_ltI, nI_leI, nI_eq, nI_add, pk_mul, pk_sub, rm_nI, pk_div, nI_clamp, gdd_true, ix_nI, bdd_some, if_pos, if_neg, rI_wI, rI_wL, rL_wI, rL_wL, rI_cI, rI_cL, rL_cI, rL_cL, false_and, and_false, true_and, and_true, if_true, if_false, not_true_eq_false, not_false_eq_true, reduceCtorEq, zb_bz, bz_t, bz_f, Bool.true_eq_false, Bool.false_eq_true]
      · simp (disch := omega) only [fa_lit, nI_nm1, nm1_nI, nI_nm1l, Nat.mul_comm _ 6, Nat.mul_comm _ 60, nI_ltI, nI_leI, nI_eq, nI_add, pk_mul, pk_sub, rm_nI, pk_div, nI_clamp, gdd_true, ix_nI, bdd_some, if_pos, if_neg, rI_wI, rI_wL, rL_wI, rL_wL, rI_cI, rI_cL, rL_cI, rL_cL, false_and, and_false, true_and, and_true, if_true, if_false, not_true_eq_false, not_false_eq_true, reduceCtorEq, zb_bz, bz_t, bz_f, Bool.true_eq_false, Bool.false_eq_true]
    · by_cases k39 : k = cd
      · subst k39
        simp (disch := omega) only [fa_lit, nI_nm1, nm1_nI, nI_nm1l, Nat.mul_comm _ 6, Nat.mul_comm _ 60, nI_ltI, nI_leI, nI_eq, nI_add, pk_mul, pk_sub, rm_nI, pk_div, nI_clamp, gdd_true, ix_nI, bdd_some, if_pos, if_neg, rI_wI, rI_wL, rL_wI, rL_wL, rI_cI, rI_cL, rL_cI, rL_cL, false_and, and_false, true_and, and_true, if_true, if_false, not_true_eq_false, not_false_eq_true, reduceCtorEq, zb_bz, bz_t, bz_f, Bool.true_eq_false, Bool.false_eq_true]
      · simp (disch := omega) only [fa_lit, nI_nm1, nm1_nI, nI_nm1l, Nat.mul_comm _ 6, Nat.mul_comm _ 60, nI_ltI, nI_leI, nI_eq, nI_add, pk_mul, pk_sub, rm_nI, pk_div, nI_clamp, gdd_true, ix_nI, bdd_some, if_pos, if_neg, rI_wI, rI_wL, rL_wI, rL_wL, rI_cI, rI_cL, rL_cI, rL_cL, false_and, and_false, true_and, and_true, if_true, if_false, not_true_eq_false, not_false_eq_true, reduceCtorEq, zb_bz, bz_t, bz_f, Bool.true_eq_false, Bool.false_eq_true]
theorem keeps_loop (K : Int32 → Int32 → Int32 → Mm → Option (Int32 × Mm)) (x1 x2 x3 : Int32) : ∀ (fu i : Nat) (g : Mm), 40 < i + fu → 1 ≤ i → i ≤ 40 → ∃ g', m_X10_keeps_17 K fu x1 x2 x3 (nI i) g = K x1 x2 x3 (wrI g' 40 12 (rdI g' 40 12 - 1)) ∧ (∀ c k, rdI g' c k = if (c = 46 ∨ c = 47 ∨ c = 48) ∧ i ≤ k + 1 ∧ k < 39 then rdI g c (k + 1) else rdI g c k) ∧ g'.2 = g.2 := by
  intro fu
  induction fu with
  | zero => intro i g h1 h2 h3; omega
  | succ fu ih =>
    intro i g h1 h2 h3
    rw [m_X10_keeps_17]
    by_cases q : i = 40
    · subst q
      refine ⟨g, by rw [if_pos (by decide)], fun c k => ?_, rfl⟩
      rw [if_neg (by omega)]
    · obtain ⟨g', e1, e2, e3⟩ := ih (i + 1) (wrI (wrI (wrI g 46 (i - 1) (rdI g 46 i)) 47 (i - 1) (rdI g 47 i)) 48 (i - 1) (rdI g 48 i)) (by omega) (by omega) (by omega)
      refine ⟨g', ?_, fun c k => ?_, e3⟩
      · rw [← e1]
        have d1 : ¬ (40 : Int32) ≤ nI i := by show ¬ nI 40 ≤ nI i; rw [nI_leI (by omega) (by omega)]; omega
        rw [if_neg d1]
        have ps : nI i - (1 : Int32) = nI (i - 1) := pk_sub (a := i) (b := 1) h2
        have pa : nI i + (1 : Int32) = nI (i + 1) := nI_1 i
        rw [ps, pa]
        simp (disch := omega) only [fa_lit, nI_nm1, nm1_nI, nI_nm1l, Nat.mul_comm _ 6, Nat.mul_comm _ 60, nI_ltI, nI_leI, nI_eq, nI_add, pk_mul, pk_sub, rm_nI, pk_div, nI_clamp, gdd_true, ix_nI, bdd_some, if_pos, if_neg, rI_wI, rI_wL, rL_wI, rL_wL, rI_cI, rI_cL, rL_cI, rL_cL, false_and, and_false, true_and, and_true, if_true, if_false, not_true_eq_false, not_false_eq_true, reduceCtorEq, zb_bz, bz_t, bz_f, Bool.true_eq_false, Bool.false_eq_true]
      · rw [e2]
        by_cases a : (c = 46 ∨ c = 47 ∨ c = 48) ∧ i + 1 ≤ k + 1 ∧ k < 39
        · rw [if_pos a, if_pos (by omega)]
          simp (disch := omega) only [fa_lit, nI_nm1, nm1_nI, nI_nm1l, Nat.mul_comm _ 6, Nat.mul_comm _ 60, nI_ltI, nI_leI, nI_eq, nI_add, pk_mul, pk_sub, rm_nI, pk_div, nI_clamp, gdd_true, ix_nI, bdd_some, if_pos, if_neg, rI_wI, rI_wL, rL_wI, rL_wL, rI_cI, rI_cL, rL_cI, rL_cL, false_and, and_false, true_and, and_true, if_true, if_false, not_true_eq_false, not_false_eq_true, reduceCtorEq, zb_bz, bz_t, bz_f, Bool.true_eq_false, Bool.false_eq_true]
        · rw [if_neg a]
          by_cases b : (c = 46 ∨ c = 47 ∨ c = 48) ∧ k + 1 = i
          · rw [if_pos (by omega)]
            have hk : k = i - 1 := by omega
            subst hk
            rw [show i - 1 + 1 = i by omega]
            rcases b.1 with rfl | rfl | rfl <;> simp (disch := omega) only [fa_lit, nI_nm1, nm1_nI, nI_nm1l, Nat.mul_comm _ 6, Nat.mul_comm _ 60, nI_ltI, nI_leI, nI_eq, nI_add, pk_mul, pk_sub, rm_nI, pk_div, nI_clamp, gdd_true, ix_nI, bdd_some, if_pos, if_neg, rI_wI, rI_wL, rL_wI, rL_wL, rI_cI, rI_cL, rL_cI, rL_cL, false_and, and_false, true_and, and_true, if_true, if_false, not_true_eq_false, not_false_eq_true, reduceCtorEq, zb_bz, bz_t, bz_f, Bool.true_eq_false, Bool.false_eq_true]
          · rw [if_neg (by omega)]
            rw [rI_wI, if_neg (by omega), rI_wI, if_neg (by omega), rI_wI, if_neg (by omega)]
/-- a change more, in the reference -/
theorem note_m {cd : Nat} {g : Mm} (hcd : cd ≤ 40) (a3 : rdI g 40 12 = nI cd) (p v w : Int32) : ∃ g1, m_X10_keeps p v w g = some (nI 0, g1) ∧ (∀ c i, c ≠ 46 → c ≠ 47 → c ≠ 48 → ¬ (c = 40 ∧ (i = 12 ∨ i = 13)) → rdI g1 c i = rdI g c i) ∧ g1.2 = g.2 ∧
    rdI g1 40 12 = nI (if cd = 40 then 40 else cd + 1) ∧ rdI g1 40 13 = nI 0 ∧
    ∀ k, k < (if cd = 40 then 40 else cd + 1) → (rdI g1 46 k = if k + 1 = (if cd = 40 then 40 else cd + 1) then p else rdI g 46 (if cd = 40 then k + 1 else k)) ∧ (rdI g1 47 k = if k + 1 = (if cd = 40 then 40 else cd + 1) then v else rdI g 47 (if cd = 40 then k + 1 else k)) ∧ (rdI g1 48 k = if k + 1 = (if cd = 40 then 40 else cd + 1) then w else rdI g 48 (if cd = 40 then k + 1 else k)) := by
  have key : ∀ (cd : Nat) (g : Mm), cd < 40 → rdI g 40 12 = nI cd → m_X10_keeps_88 p v w g = some (nI 0, wrI (wrI (wrI (wrI g 46 cd p) 47 cd v) 48 cd w) 40 12 (nI (cd + 1))) := by
    intro cd g hc h
    simp (disch := omega) only [m_X10_keeps_88, h, fa_lit, nI_nm1, nm1_nI, nI_nm1l, Nat.mul_comm _ 6, Nat.mul_comm _ 60, nI_ltI, nI_leI, nI_eq, nI_add, pk_mul, pk_sub, rm_nI, pk_div, nI_clamp, gdd_true, ix_nI, bdd_some, if_pos, if_neg, rI_wI, rI_wL, rL_wI, rL_wL, rI_cI, rI_cL, rL_cI, rL_cL, false_and, and_false, true_and, and_true, if_true, if_false, not_true_eq_false, not_false_eq_true, reduceCtorEq, zb_bz, bz_t, bz_f, Bool.true_eq_false, Bool.false_eq_true]
  by_cases q : cd = 40
  · subst q
    simp only [if_true]
    obtain ⟨F, eF, hF⟩ := fu_get
    obtain ⟨g', e1, e2, e3⟩ := keeps_loop m_X10_keeps_88 p v w F 1 (wrI g 40 13 (0 : Int32)) (by omega) (by omega) (by omega)
    have h40 : rdI g' 40 12 = nI 40 := by rw [e2, if_neg (by omega), rI_wI, if_neg (by omega), a3]
    have e9 := key 39 (wrI g' 40 12 (rdI g' 40 12 - 1)) (by decide) (by rw [rI_wI, if_pos ⟨rfl, rfl⟩, h40]; decide)
    refine ⟨wrI (wrI (wrI (wrI (wrI g' 40 12 (rdI g' 40 12 - 1)) 46 39 p) 47 39 v) 48 39 w) 40 12 (nI (39 + 1)), ?_, fun c i c1 c2 c3 c4 => ?_, e3, ?_, ?_, fun k hk => ⟨?_, ?_, ?_⟩⟩
    · rw [m_X10_keeps, rI_wI, if_neg (show ¬ (40 = 40 ∧ 12 = 13) by omega), a3, if_pos (show nI 40 = 40 from rfl), eF]
      exact e1.trans e9
    · rw [rI_wI, if_neg (by omega), rI_wI, if_neg (by omega), rI_wI, if_neg (by omega), rI_wI, if_neg (by omega), rI_wI, if_neg (by omega), e2, if_neg (by omega), rI_wI, if_neg (by omega)]
    · rw [rI_wI, if_pos ⟨rfl, rfl⟩]
    · rw [rI_wI, if_neg (by omega), rI_wI, if_neg (by omega), rI_wI, if_neg (by omega), rI_wI, if_neg (by omega), rI_wI, if_neg (by omega), e2, if_neg (by omega), rI_wI, if_pos ⟨rfl, rfl⟩]
      rfl
    · by_cases k39 : k = 39
      · subst k39
        simp (disch := omega) only [fa_lit, nI_nm1, nm1_nI, nI_nm1l, Nat.mul_comm _ 6, Nat.mul_comm _ 60, nI_ltI, nI_leI, nI_eq, nI_add, pk_mul, pk_sub, rm_nI, pk_div, nI_clamp, gdd_true, ix_nI, bdd_some, if_pos, if_neg, rI_wI, rI_wL, rL_wI, rL_wL, rI_cI, rI_cL, rL_cI, rL_cL, false_and, and_false, true_and, and_true, if_true, if_false, not_true_eq_false, not_false_eq_true, reduceCtorEq, zb_bz, bz_t, bz_f, Bool.true_eq_false, Bool.false_eq_true]
      · simp (disch := omega) only [e2, fa_lit, nI_nm1, nm1_nI, nI_nm1l, Nat.mul_comm _ 6, Nat.mul_comm _ 60, nI_ltI, nI_leI, nI_eq, nI_add, pk_mul, pk_sub, rm_nI, pk_div, nI_clamp, gdd_true, ix_nI, bdd_some, if_pos, if_neg, rI_wI, rI_wL, rL_wI, rL_wL, rI_cI, rI_cL, rL_cI, rL_cL, false_and, and_false, true_and, and_true, if_true, if_false, not_true_eq_false, not_false_eq_true, reduceCtorEq, zb_bz, bz_t, bz_f, Bool.true_eq_false, Bool.false_eq_true, or_true, true_or, or_false, false_or]
    · by_cases k39 : k = 39
      · subst k39
        simp (disch := omega) only [fa_lit, nI_nm1, nm1_nI, nI_nm1l, Nat.mul_comm _ 6, Nat.mul_comm _ 60, nI_ltI, nI_leI, nI_eq, nI_add, pk_mul, pk_sub, rm_nI, pk_div, nI_clamp, gdd_true, ix_nI, bdd_some, if_pos, if_neg, rI_wI, rI_wL, rL_wI, rL_wL, rI_cI, rI_cL, rL_cI, rL_cL, false_and, and_false, true_and, and_true, if_true, if_false, not_true_eq_false, not_false_eq_true, reduceCtorEq, zb_bz, bz_t, bz_f, Bool.true_eq_false, Bool.false_eq_true]
      · simp (disch := omega) only [e2, fa_lit, nI_nm1, nm1_nI, nI_nm1l, Nat.mul_comm _ 6, Nat.mul_comm _ 60, nI_ltI, nI_leI, nI_eq, nI_add, pk_mul, pk_sub, rm_nI, pk_div, nI_clamp, gdd_true, ix_nI, bdd_some, if_pos, if_neg, rI_wI, rI_wL, rL_wI, rL_wL, rI_cI, rI_cL, rL_cI, rL_cL, false_and, and_false, true_and, and_true, if_true, if_false, not_true_eq_false, not_false_eq_true, reduceCtorEq, zb_bz, bz_t, bz_f, Bool.true_eq_false, Bool.false_eq_true, or_true, true_or, or_false, false_or]
    · by_cases k39 : k = 39
      · subst k39
        simp (disch := omega) only [fa_lit, nI_nm1, nm1_nI, nI_nm1l, Nat.mul_comm _ 6, Nat.mul_comm _ 60, nI_ltI, nI_leI, nI_eq, nI_add, pk_mul, pk_sub, rm_nI, pk_div, nI_clamp, gdd_true, ix_nI, bdd_some, if_pos, if_neg, rI_wI, rI_wL, rL_wI, rL_wL, rI_cI, rI_cL, rL_cI, rL_cL, false_and, and_false, true_and, and_true, if_true, if_false, not_true_eq_false, not_false_eq_true, reduceCtorEq, zb_bz, bz_t, bz_f, Bool.true_eq_false, Bool.false_eq_true]
      · simp (disch := omega) only [e2, fa_lit, nI_nm1, nm1_nI, nI_nm1l, Nat.mul_comm _ 6, Nat.mul_comm _ 60, nI_ltI, nI_leI, nI_eq, nI_add, pk_mul, pk_sub, rm_nI, pk_div, nI_clamp, gdd_true, ix_nI, bdd_some, if_pos, if_neg, rI_wI, rI_wL, rL_wI, rL_wL, rI_cI, rI_cL, rL_cI, rL_cL, false_and, and_false, true_and, and_true, if_true, if_false, not_true_eq_false, not_false_eq_true, reduceCtorEq, zb_bz, bz_t, bz_f, Bool.true_eq_false, Bool.false_eq_true, or_true, true_or, or_false, false_or]
  · simp only [if_neg q]
    have e9 := key cd (wrI g 40 13 (0 : Int32)) (by omega) (by rw [rI_wI, if_neg (by omega), a3])
    refine ⟨wrI (wrI (wrI (wrI (wrI g 40 13 (0 : Int32)) 46 cd p) 47 cd v) 48 cd w) 40 12 (nI (cd + 1)), ?_, fun c i c1 c2 c3 c4 => ?_, rfl, ?_, ?_, fun k hk => ⟨?_, ?_, ?_⟩⟩
    · rw [m_X10_keeps, rI_wI, if_neg (show ¬ (40 = 40 ∧ 12 = 13) by omega), a3, if_neg (show ¬ nI cd = 40 from fun z => q (by have z : nI cd = nI 40 := z; rw [nI_eq (by omega) (by omega)] at z; exact z))]
      exact e9
    · rw [rI_wI, if_neg (by omega), rI_wI, if_neg (by omega), rI_wI, if_neg (by omega), rI_wI, if_neg (by omega), rI_wI, if_neg (by omega)]
    · rw [rI_wI, if_pos ⟨rfl, rfl⟩]
    · simp (disch := omega) only [fa_lit, nI_nm1, nm1_nI, nI_nm1l, Nat.mul_comm _ 6, Nat.mul_comm _ 60, nI_ltI, nI_leI, nI_eq, nI_add, pk_mul, pk_sub, rm_nI, pk_div, nI_clamp, gdd_true, ix_nI, bdd_some, if_pos, if_neg, rI_wI, rI_wL, rL_wI, rL_wL, rI_cI, rI_cL, rL_cI, rL_cL, false_and, and_false, true_and, and_true, if_true, if_false, not_true_eq_false, not_false_eq_true, reduceCtorEq, zb_bz, bz_t, bz_f, Bool.true_eq_false, Bool.false_eq_true]
    · by_cases k39 : k = cd
      · subst k39
        simp (disch := omega) only [fa_lit, nI_nm1, nm1_nI, nI_nm1l, Nat.mul_comm _ 6, Nat.mul_comm _ 60, nI_ltI, nI_leI, nI_eq, nI_add, pk_mul, pk_sub, rm_nI, pk_div, nI_clamp, gdd_true, ix_nI, bdd_some, if_pos, if_neg, rI_wI, rI_wL, rL_wI, rL_wL, rI_cI, rI_cL, rL_cI, rL_cL, false_and, and_false, true_and, and_true, if_true, if_false, not_true_eq_false, not_false_eq_true, reduceCtorEq, zb_bz, bz_t, bz_f, Bool.true_eq_false, Bool.false_eq_true]
      · simp (disch := omega) only [fa_lit, nI_nm1, nm1_nI, nI_nm1l, Nat.mul_comm _ 6, Nat.mul_comm _ 60, nI_ltI, nI_leI, nI_eq, nI_add, pk_mul, pk_sub, rm_nI, pk_div, nI_clamp, gdd_true, ix_nI, bdd_some, if_pos, if_neg, rI_wI, rI_wL, rL_wI, rL_wL, rI_cI, rI_cL, rL_cI, rL_cL, false_and, and_false, true_and, and_true, if_true, if_false, not_true_eq_false, not_false_eq_true, reduceCtorEq, zb_bz, bz_t, bz_f, Bool.true_eq_false, Bool.false_eq_true]
    · by_cases k39 : k = cd
      · subst k39
        simp (disch := omega) only [fa_lit, nI_nm1, nm1_nI, nI_nm1l, Nat.mul_comm _ 6, Nat.mul_comm _ 60, nI_ltI, nI_leI, nI_eq, nI_add, pk_mul, pk_sub, rm_nI, pk_div, nI_clamp, gdd_true, ix_nI, bdd_some, if_pos, if_neg, rI_wI, rI_wL, rL_wI, rL_wL, rI_cI, rI_cL, rL_cI, rL_cL, false_and, and_false, true_and, and_true, if_true, if_false, not_true_eq_false, not_false_eq_true, reduceCtorEq, zb_bz, bz_t, bz_f, Bool.true_eq_false, Bool.false_eq_true]
      · simp (disch := omega) only [fa_lit, nI_nm1, nm1_nI, nI_nm1l, Nat.mul_comm _ 6, Nat.mul_comm _ 60, nI_ltI, nI_leI, nI_eq, nI_add, pk_mul, pk_sub, rm_nI, pk_div, nI_clamp, gdd_true, ix_nI, bdd_some, if_pos, if_neg, rI_wI, rI_wL, rL_wI, rL_wL, rI_cI, rI_cL, rL_cI, rL_cL, false_and, and_false, true_and, and_true, if_true, if_false, not_true_eq_false, not_false_eq_true, reduceCtorEq, zb_bz, bz_t, bz_f, Bool.true_eq_false, Bool.false_eq_true]
    · by_cases k39 : k = cd
      · subst k39
        simp (disch := omega) only [fa_lit, nI_nm1, nm1_nI, nI_nm1l, Nat.mul_comm _ 6, Nat.mul_comm _ 60, nI_ltI, nI_leI, nI_eq, nI_add, pk_mul, pk_sub, rm_nI, pk_div, nI_clamp, gdd_true, ix_nI, bdd_some, if_pos, if_neg, rI_wI, rI_wL, rL_wI, rL_wL, rI_cI, rI_cL, rL_cI, rL_cL, false_and, and_false, true_and, and_true, if_true, if_false, not_true_eq_false, not_false_eq_true, reduceCtorEq, zb_bz, bz_t, bz_f, Bool.true_eq_false, Bool.false_eq_true]
      · simp (disch := omega) only [fa_lit, nI_nm1, nm1_nI, nI_nm1l, Nat.mul_comm _ 6, Nat.mul_comm _ 60, nI_ltI, nI_leI, nI_eq, nI_add, pk_mul, pk_sub, rm_nI, pk_div, nI_clamp, gdd_true, ix_nI, bdd_some, if_pos, if_neg, rI_wI, rI_wL, rL_wI, rL_wL, rI_cI, rI_cL, rL_cI, rL_cL, false_and, and_false, true_and, and_true, if_true, if_false, not_true_eq_false, not_false_eq_true, reduceCtorEq, zb_bz, bz_t, bz_f, Bool.true_eq_false, Bool.false_eq_true]
/-- the same change told to both: the invariant's part -/
theorem note_gv {cd ck nb nh : Nat} {g gA g1 gB g2 : Mm} {p v w : Int32} (hC : gv_c cd ck nb nh g) (hok : ch_ok nb nh p v w)
    (hA : kp_ pl_c g gA) (h1 : m_X1_note p v w gA = some (nI 0, g1) ∨ True) (hB : kp_ pl_c g1 gB)
    (a1 : rdI g1 7 3 = nI (if cd = 40 then 40 else cd + 1)) (a2 : rdI g1 7 4 = nI (if cd = 40 then 40 else cd + 1))
    (a3 : ∀ k, k < (if cd = 40 then 40 else cd + 1) → (rdI g1 8 k = if k + 1 = (if cd = 40 then 40 else cd + 1) then p else rdI gA 8 (if cd = 40 then k + 1 else k)) ∧ (rdI g1 9 k = if k + 1 = (if cd = 40 then 40 else cd + 1) then v else rdI gA 9 (if cd = 40 then k + 1 else k)) ∧ (rdI g1 10 k = if k + 1 = (if cd = 40 then 40 else cd + 1) then w else rdI gA 10 (if cd = 40 then k + 1 else k)))
    (k1 : ∀ c i, c ≠ 7 → c ≠ 8 → c ≠ 9 → c ≠ 10 → rdI g1 c i = rdI gA c i)
    (b0 : ∀ c i, c ≠ 46 → c ≠ 47 → c ≠ 48 → ¬ (c = 40 ∧ (i = 12 ∨ i = 13)) → rdI g2 c i = rdI gB c i)
    (b1 : rdI g2 40 12 = nI (if cd = 40 then 40 else cd + 1)) (b2 : rdI g2 40 13 = nI 0)
    (b3 : ∀ k, k < (if cd = 40 then 40 else cd + 1) → (rdI g2 46 k = if k + 1 = (if cd = 40 then 40 else cd + 1) then p else rdI gB 46 (if cd = 40 then k + 1 else k)) ∧ (rdI g2 47 k = if k + 1 = (if cd = 40 then 40 else cd + 1) then v else rdI gB 47 (if cd = 40 then k + 1 else k)) ∧ (rdI g2 48 k = if k + 1 = (if cd = 40 then 40 else cd + 1) then w else rdI gB 48 (if cd = 40 then k + 1 else k))) :
    gv_c (if cd = 40 then 40 else cd + 1) (if cd = 40 then 40 else cd + 1) nb nh g2 := by
  obtain ⟨⟨h2, h3⟩, ⟨e1, e2, e3, e4⟩, e5⟩ := hC
  have hn : (if cd = 40 then 40 else cd + 1) ≤ 40 := by split <;> omega
  generalize hN : (if cd = 40 then 40 else cd + 1) = N at *
  have c7 : ∀ i, rdI g2 7 i = rdI g1 7 i := fun i => (b0 7 i (by omega) (by omega) (by omega) (by omega)).trans (hB 7 i rfl)
  have c8 : ∀ i, rdI g2 8 i = rdI g1 8 i := fun i => (b0 8 i (by omega) (by omega) (by omega) (by omega)).trans (hB 8 i rfl)
  have c9 : ∀ i, rdI g2 9 i = rdI g1 9 i := fun i => (b0 9 i (by omega) (by omega) (by omega) (by omega)).trans (hB 9 i rfl)
  have c10 : ∀ i, rdI g2 10 i = rdI g1 10 i := fun i => (b0 10 i (by omega) (by omega) (by omega) (by omega)).trans (hB 10 i rfl)
  refine ⟨⟨Nat.le_refl _, hn⟩, ⟨by rw [c7, a1], by rw [c7, a2], b1, by rw [b2, Nat.sub_self]⟩, fun k hk => ?_⟩
  obtain ⟨x1, x2, x3⟩ := a3 k hk
  obtain ⟨y1, y2, y3⟩ := b3 k hk
  rw [c8, c9, c10, x1, x2, x3, y1, y2, y3]
  by_cases q : k + 1 = N
  · simp only [if_pos q]
    exact ⟨⟨trivial, trivial, trivial⟩, hok⟩
  · simp only [if_neg q]
    have hj : (if cd = 40 then k + 1 else k) < ck := by split <;> (split at hN <;> omega)
    generalize (if cd = 40 then k + 1 else k) = j at hj ⊢
    rw [hB 46 j rfl, hB 47 j rfl, hB 48 j rfl, k1 46 j (by omega) (by omega) (by omega) (by omega), k1 47 j (by omega) (by omega) (by omega) (by omega), k1 48 j (by omega) (by omega) (by omega) (by omega), hA 46 j rfl, hA 47 j rfl, hA 48 j rfl, hA 8 j rfl, hA 9 j rfl, hA 10 j rfl]
    exact e5 j hj

theorem in_leM {n : Nat} (hn : n + 1 < 2 ^ 31) (x : Int32) (g : Mm) : m_X10_in x.toInt64 (0 : Int64) (nI n).toInt64 g = some (bz (lt_n x (n + 1)), g) := in_le hn x g
theorem m8_mayStrike {b M : Nat} {g : Mm} (hb : b < 6) (h : rdI g 2 b = nI M) (hM : M + 1 < 2 ^ 31) (x : Int32) : m_X8_mayStrike (nI b) x.toInt64 g = some (bz (lt_n x (M + 1)), g) := by
  rw [m_X8_mayStrike, ix_nI hb (by omega), gdd_true, nI_clamp (by omega), h]
  rcases i_cases x with q | ⟨k, hk, rfl⟩
  · rw [lt_n_neg q, if_pos ((cmp_lt _ _).mpr (by rw [Int64.lt_iff_toInt_lt, t64]; exact q))]
    rfl
  · rw [lt_n_nI hk, if_neg (fun z => by
      have z := (cmp_lt _ _).mp z
      rw [Int64.lt_iff_toInt_lt, t64, nI_toInt hk, show (0 : Int64).toInt = 0 from rfl] at z
      omega)]
    by_cases q : k < M + 1
    · rw [decide_eq_true q, if_neg (fun z => by
        have z := (cmp_gt _ _).mp z
        rw [Int64.lt_iff_toInt_lt, t64, t64, nI_toInt hk, nI_toInt (by omega)] at z
        omega)]
      rfl
    · rw [decide_eq_false q, if_pos ((cmp_gt _ _).mpr (by rw [Int64.lt_iff_toInt_lt, t64, t64, nI_toInt hk, nI_toInt (by omega)]; omega))]
      rfl
/-- the tower's places and the changes' apart: what is told of a cell -/
theorem gv_t.cell {nb nh hd : Nat} {g g' : Mm} (hT : gv_t nb nh hd g) {a b v : Nat} (ha : a < nh) (hb : b < nb) (hv : v ≤ 15)
    (h : ∀ c i, pl_t c i = true → rdI g' c i = if (c = 5 ∨ c = 44) ∧ i = 6 * a + b then nI v else rdI g c i) : gv_t nb nh hd g' := by
  obtain ⟨h1, ⟨a1, a2, a3, a4, a5, a6⟩, h3, h4, h5, h6⟩ := hT
  have e : ∀ c i, pl_t c i = true → c ≠ 5 → c ≠ 44 → rdI g' c i = rdI g c i := fun c i hc q1 q2 => by rw [h c i hc, if_neg (by omega)]
  refine ⟨h1, ⟨?_, ?_, ?_, ?_, ?_, ?_⟩, fun x hx => ?_, fun x hx => ?_, fun k hk => ?_, fun x y hx hy q => ?_⟩
  · rw [e 1 0 rfl (by omega) (by omega)]; exact a1
  · rw [e 1 1 rfl (by omega) (by omega)]; exact a2
  · rw [e 1 2 rfl (by omega) (by omega)]; exact a3
  · rw [e 40 4 rfl (by omega) (by omega)]; exact a4
  · rw [e 40 5 rfl (by omega) (by omega)]; exact a5
  · rw [e 40 6 rfl (by omega) (by omega)]; exact a6
  · rw [e 41 x rfl (by omega) (by omega), e 42 x rfl (by omega) (by omega), e 43 x rfl (by omega) (by omega), e 2 x rfl (by omega) (by omega), e 3 x rfl (by omega) (by omega), e 4 x rfl (by omega) (by omega)]; exact h3 x hx
  · rw [e 2 x rfl (by omega) (by omega), e 3 x rfl (by omega) (by omega), e 4 x rfl (by omega) (by omega)]; exact h4 x hx
  · rw [h 44 k rfl, h 5 k rfl]
    by_cases q : k = 6 * a + b
    · rw [if_pos ⟨Or.inr rfl, q⟩, if_pos ⟨Or.inl rfl, q⟩]
      exact ⟨rfl, v, hv, rfl⟩
    · rw [if_neg (fun z => q z.2), if_neg (fun z => q z.2)]
      exact h5 k hk
  · rw [h 5 _ rfl, if_neg (by omega)]
    exact h6 x y hx hy q
set_option maxHeartbeats 1000000 in
theorem op_strike (a0 a1 : Int32) {g : Mm} (hg : gv_ g) : al_ (m_X9_strike a0 a1) (m_X10_strike a0 a1) g := by
  have hg0 := hg
  obtain ⟨nb, nh, hd, cd, ck, tl, rt, nn, na, ra, f, hT, hX, hC, hP, hL, hE, hA, hS⟩ := hg
  obtain ⟨⟨b1, b2, b3, b4, b5⟩, ⟨t1, t2, t3, t4, t5, t6⟩, t7, t8, t9, t10⟩ := id hT
  cases hcl : cell_ nb nh a0 with
  | false =>
    refine al_.same (r := -1) hg0 ?_ ?_
    · simp (disch := omega) only [m_X9_strike, m8_hasCell t1 t2 b1 b3, hcl, fa_lit, nI_nm1, nm1_nI, nI_nm1l, Nat.mul_comm _ 6, Nat.mul_comm _ 60, nI_ltI, nI_leI, nI_eq, nI_add, pk_mul, pk_sub, rm_nI, pk_div, nI_clamp, gdd_true, ix_nI, bdd_some, if_pos, if_neg, rI_wI, rI_wL, rL_wI, rL_wL, rI_cI, rI_cL, rL_cI, rL_cL, false_and, and_false, true_and, and_true, if_true, if_false, not_true_eq_false, not_false_eq_true, reduceCtorEq, zb_bz, bz_t, bz_f, Bool.true_eq_false, Bool.false_eq_true]
    · simp (disch := omega) only [m_X10_strike, m10_isCell t4 t5 b1 b3, hcl, fa_lit, nI_nm1, nm1_nI, nI_nm1l, Nat.mul_comm _ 6, Nat.mul_comm _ 60, nI_ltI, nI_leI, nI_eq, nI_add, pk_mul, pk_sub, rm_nI, pk_div, nI_clamp, gdd_true, ix_nI, bdd_some, if_pos, if_neg, rI_wI, rI_wL, rL_wI, rL_wL, rI_cI, rI_cL, rL_cI, rL_cL, false_and, and_false, true_and, and_true, if_true, if_false, not_true_eq_false, not_false_eq_true, reduceCtorEq, zb_bz, bz_t, bz_f, Bool.true_eq_false, Bool.false_eq_true]
  | true =>
    obtain ⟨a, b, ha, hb, rfl, hlt⟩ := cell_get hcl b1
    have d1 : (10 * a + b) / 10 = a := by omega
    have d2 : (10 * a + b) % 10 = b := by omega
    obtain ⟨⟨M, hM1, hM2, hM⟩, -, -⟩ := t8 b hb
    obtain ⟨s1, -, -⟩ := t7 b (by omega)
    obtain ⟨e44, u, hu, e5⟩ := t9 (6 * a + b) (by omega)
    cases hms : lt_n a1 (M + 1) with
    | false =>
      refine al_.same (r := -1) hg0 ?_ ?_
      · simp (disch := omega) only [m_X9_strike, m8_hasCell t1 t2 b1 b3, hcl, d1, d2, m8_mayStrike (show b < 6 by omega) hM (show M + 1 < 2 ^ 31 by omega), hms, fa_lit, nI_nm1, nm1_nI, nI_nm1l, Nat.mul_comm _ 6, Nat.mul_comm _ 60, nI_ltI, nI_leI, nI_eq, nI_add, pk_mul, pk_sub, rm_nI, pk_div, nI_clamp, gdd_true, ix_nI, bdd_some, if_pos, if_neg, rI_wI, rI_wL, rL_wI, rL_wL, rI_cI, rI_cL, rL_cI, rL_cL, false_and, and_false, true_and, and_true, if_true, if_false, not_true_eq_false, not_false_eq_true, reduceCtorEq, zb_bz, bz_t, bz_f, Bool.true_eq_false, Bool.false_eq_true]
      · simp (disch := omega) only [m_X10_strike, m10_isCell t4 t5 b1 b3, hcl, d1, d2, s1, hM, in_leM, hms, fa_lit, nI_nm1, nm1_nI, nI_nm1l, Nat.mul_comm _ 6, Nat.mul_comm _ 60, nI_ltI, nI_leI, nI_eq, nI_add, pk_mul, pk_sub, rm_nI, pk_div, nI_clamp, gdd_true, ix_nI, bdd_some, if_pos, if_neg, rI_wI, rI_wL, rL_wI, rL_wL, rI_cI, rI_cL, rL_cI, rL_cL, false_and, and_false, true_and, and_true, if_true, if_false, not_true_eq_false, not_false_eq_true, reduceCtorEq, zb_bz, bz_t, bz_f, Bool.true_eq_false, Bool.false_eq_true]
    | true =>
      obtain ⟨v, hv, rfl⟩ := lt_nI hms (by omega)
      by_cases q : v = u
      · subst q
        have ew : wrI g 44 (6 * a + b) (nI v) = g := by
          refine Prod.ext (funext fun c => funext fun i => ?_) rfl
          show rdI (wrI g 44 (6 * a + b) (nI v)) c i = rdI g c i
          rw [rI_wI]
          split
          · rename_i z
            rw [z.1, z.2, e44, e5]
          · rfl
        refine al_.same (r := nI v) hg0 ?_ ?_
        · simp (disch := omega) only [m_X9_strike, m8_hasCell t1 t2 b1 b3, hcl, d1, d2, m8_mayStrike (show b < 6 by omega) hM (show M + 1 < 2 ^ 31 by omega), hms, m8_struck, e5, fa_lit, nI_nm1, nm1_nI, nI_nm1l, Nat.mul_comm _ 6, Nat.mul_comm _ 60, nI_ltI, nI_leI, nI_eq, nI_add, pk_mul, pk_sub, rm_nI, pk_div, nI_clamp, gdd_true, ix_nI, bdd_some, if_pos, if_neg, rI_wI, rI_wL, rL_wI, rL_wL, rI_cI, rI_cL, rL_cI, rL_cL, false_and, and_false, true_and, and_true, if_true, if_false, not_true_eq_false, not_false_eq_true, reduceCtorEq, zb_bz, bz_t, bz_f, Bool.true_eq_false, Bool.false_eq_true]
        · simp (disch := omega) only [m_X10_strike, m10_isCell t4 t5 b1 b3, hcl, d1, d2, s1, hM, in_leM, hms, lti, e44, e5, ew, fa_lit, nI_nm1, nm1_nI, nI_nm1l, Nat.mul_comm _ 6, Nat.mul_comm _ 60, nI_ltI, nI_leI, nI_eq, nI_add, pk_mul, pk_sub, rm_nI, pk_div, nI_clamp, gdd_true, ix_nI, bdd_some, if_pos, if_neg, rI_wI, rI_wL, rL_wI, rL_wL, rI_cI, rI_cL, rL_cI, rL_cL, false_and, and_false, true_and, and_true, if_true, if_false, not_true_eq_false, not_false_eq_true, reduceCtorEq, zb_bz, bz_t, bz_f, Bool.true_eq_false, Bool.false_eq_true]
      · obtain ⟨g1, n1, n2, n3, n4, n5, n6⟩ := note_c (g := wrI g 5 (6 * a + b) (nI v)) (hC.cong (kp_w rfl kp_rf)) (nI (10 * a + b)) (nI u) (nI v)
        have f44 : rdI g1 44 (6 * a + b) = nI u := by
          rw [n2 44 _ (by omega) (by omega) (by omega) (by omega), rI_wI, if_neg (by omega), e44, e5]
        have hx : ∀ c i, c ≠ 5 → c ≠ 7 → c ≠ 8 → c ≠ 9 → c ≠ 10 → rdI g1 c i = rdI g c i := fun c i q1 q2 q3 q4 q5 => by
          rw [n2 c i q2 q3 q4 q5, rI_wI, if_neg (by omega)]
        obtain ⟨g2, o1, o2, o3, o4, o5, o6⟩ := note_m (g := wrI g1 44 (6 * a + b) (nI v)) (cd := cd) (by have := hC.1; omega) (by rw [rI_wI, if_neg (by omega), hx 40 12 (by omega) (by omega) (by omega) (by omega) (by omega)]; exact hC.2.1.2.2.1) (nI (10 * a + b)) (nI u) (nI v)
        have hy : ∀ c i, pl_c c i = false → rdI g2 c i = if (c = 5 ∨ c = 44) ∧ i = 6 * a + b then nI v else rdI g c i := by
          intro c i hc
          simp only [pl_c, Bool.or_eq_false_iff, Bool.and_eq_false_iff, beq_eq_false_iff_ne] at hc
          rw [o2 c i (by omega) (by omega) (by omega) (by omega), rI_wI]
          by_cases z : c = 44 ∧ i = 6 * a + b
          · rw [if_pos z, if_pos (by omega)]
          · rw [if_neg z, n2 c i (by omega) (by omega) (by omega) (by omega), rI_wI]
            by_cases z2 : c = 5 ∧ i = 6 * a + b
            · rw [if_pos z2, if_pos (by omega)]
            · rw [if_neg z2, if_neg (by omega)]
        have hz : ∀ c i, pl_c c i = false → c ≠ 5 → c ≠ 44 → rdI g2 c i = rdI g c i := fun c i h1 h2 h3 => by rw [hy c i h1, if_neg (by omega)]
        refine ⟨nI u, g1, g2, ?_, ?_, nb, nh, hd, (if cd = 40 then 40 else cd + 1), (if cd = 40 then 40 else cd + 1), tl, rt, nn, na, ra, f, ?_, ?_, ?_, ?_, ?_, ?_, ?_, ?_⟩
        · simp (disch := omega) only [m_X9_strike, m8_hasCell t1 t2 b1 b3, hcl, d1, d2, m8_mayStrike (show b < 6 by omega) hM (show M + 1 < 2 ^ 31 by omega), hms, m8_struck, m8_write, e5, fa_lit, nI_nm1, nm1_nI, nI_nm1l, Nat.mul_comm _ 6, Nat.mul_comm _ 60, nI_ltI, nI_leI, nI_eq, nI_add, pk_mul, pk_sub, rm_nI, pk_div, nI_clamp, gdd_true, ix_nI, bdd_some, if_pos, if_neg, rI_wI, rI_wL, rL_wI, rL_wL, rI_cI, rI_cL, rL_cI, rL_cL, false_and, and_false, true_and, and_true, if_true, if_false, not_true_eq_false, not_false_eq_true, reduceCtorEq, zb_bz, bz_t, bz_f, Bool.true_eq_false, Bool.false_eq_true]
          rw [n1, bdd_some]
        · simp (disch := omega) only [m_X10_strike, m10_isCell (g := g1) (by rw [hx 40 4 (by omega) (by omega) (by omega) (by omega) (by omega)]; exact t4) (by rw [hx 40 5 (by omega) (by omega) (by omega) (by omega) (by omega)]; exact t5) b1 b3, hcl, d1, d2, hx 41 b (by omega) (by omega) (by omega) (by omega) (by omega), s1, hM, in_leM, hms, lti, f44, fa_lit, nI_nm1, nm1_nI, nI_nm1l, Nat.mul_comm _ 6, Nat.mul_comm _ 60, nI_ltI, nI_leI, nI_eq, nI_add, pk_mul, pk_sub, rm_nI, pk_div, nI_clamp, gdd_true, ix_nI, bdd_some, if_pos, if_neg, rI_wI, rI_wL, rL_wI, rL_wL, rI_cI, rI_cL, rL_cI, rL_cL, false_and, and_false, true_and, and_true, if_true, if_false, not_true_eq_false, not_false_eq_true, reduceCtorEq, zb_bz, bz_t, bz_f, Bool.true_eq_false, Bool.false_eq_true]
          rw [o1, bdd_some]
        · exact hT.cell ha hb (by omega) (fun c i hc => hy c i (dj_ct hc))
        · exact hX.cong (fun c i hc => hz c i (dj_cx hc) (by rintro rfl; cases hc) (by rintro rfl; cases hc))
        · exact note_gv hC (Or.inr ⟨a, b, ha, hb, rfl, ⟨u, hu, rfl⟩, v, by omega, rfl⟩) (kp_w rfl kp_rf) (Or.inr trivial) (kp_w rfl kp_rf) n4 n5 n6 n2 o2 o4 o5 o6
        · exact hP.cong (fun c i hc => hz c i (dj_cp hc) (by rintro rfl; cases hc) (by rintro rfl; cases hc))
        · refine hL.cong (fun c i hc => hz c i (dj_cl hc) ?_ ?_)
          · rintro rfl
            have := pgm_01 f
            simp only [pl_l, Bool.or_eq_true, Bool.and_eq_true, beq_iff_eq] at hc
            omega
          · rintro rfl
            have := pgm_01 f
            simp only [pl_l, Bool.or_eq_true, Bool.and_eq_true, beq_iff_eq] at hc
            omega
        · exact hE.cong (fun c i hc => hz c i (dj_ce hc) (by rintro rfl; cases hc) (by rintro rfl; cases hc))
        · exact hA.cong (fun c i hc => hz c i (dj_ca hc) (by rintro rfl; cases hc) (by rintro rfl; cases hc))
        · exact hS.cong (fun c i hc => hz c i (dj_cs hc) (by rintro rfl; cases hc) (by rintro rfl; cases hc)) (fun i => by unfold rdL; rw [o3, show (wrI g1 44 (6 * a + b) (nI v)).2 = g1.2 from rfl, n3]; exact ⟨rfl, rfl⟩)
