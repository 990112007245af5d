/-! undo, redo -/
theorem put_both {nb nh hd : Nat} (hb6 : nb ≤ 6) (hh : nh ≤ 24) {p v w : Int32} (hok : ch_ok nb nh p v w) {u : Int32} (hu : u = v ∨ u = w) :
    ∃ c d i : Nat, ((c = 2 ∧ d = 41 ∧ i < 6) ∨ (c = 5 ∧ d = 44 ∧ i < 144)) ∧ (∀ g : Mm, m_X9_putBack p u g = some (nI 0, wrI g c i u)) ∧ (∀ g : Mm, rdI g 40 5 = nI nh → m_X10_puts p u g = some (nI 0, wrI g d i u)) ∧
      ∀ g g' : Mm, gv_t nb nh hd g → (∀ x y, pl_t x y = true → rdI g' x y = if (x = c ∨ x = d) ∧ y = i then u else rdI g x y) → gv_t nb nh hd g' := by
  rcases hok with ⟨b, hb, rfl, ⟨v, hv1, hv2, rfl⟩, w, hw1, hw2, rfl⟩ | ⟨h, b, hh2, hb, rfl, ⟨v, hv, rfl⟩, w, hw, rfl⟩
  · obtain ⟨a, ha1, ha2, rfl⟩ : ∃ a, 1 ≤ a ∧ a ≤ 15 ∧ u = nI a := by
      rcases hu with rfl | rfl
      · exact ⟨v, hv1, hv2, rfl⟩
      · exact ⟨w, hw1, hw2, rfl⟩
    refine ⟨2, 41, b, Or.inl ⟨rfl, rfl, by omega⟩, fun g => ?_, fun g _ => ?_, fun g g' hT hg => hT.most hb ha1 ha2 hg⟩
    · simp (disch := omega) only [m_X9_putBack, fa_lit, nI_nm1, nm1_nI, nI_nm1l, Nat.mul_comm _ 6, Nat.mul_comm _ 60, nI_ltI, nI_leI, nI_eq, nI_add, pk_mul, pk_sub, rm_nI, pk_div, nI_clamp, gdd_true, ix_nI, bdd_some, if_pos, if_neg, rI_wI, rI_wL, rL_wI, rL_wL, rI_cI, rI_cL, rL_cI, rL_cL, false_and, and_false, true_and, and_true, if_true, if_false, not_true_eq_false, not_false_eq_true, reduceCtorEq, zb_bz, bz_t, bz_f, Bool.true_eq_false, Bool.false_eq_true, Nat.add_sub_cancel_left]
    · simp (disch := omega) only [m_X10_puts, fa_lit, nI_nm1, nm1_nI, nI_nm1l, Nat.mul_comm _ 6, Nat.mul_comm _ 60, nI_ltI, nI_leI, nI_eq, nI_add, pk_mul, pk_sub, rm_nI, pk_div, nI_clamp, gdd_true, ix_nI, bdd_some, if_pos, if_neg, rI_wI, rI_wL, rL_wI, rL_wL, rI_cI, rI_cL, rL_cI, rL_cL, false_and, and_false, true_and, and_true, if_true, if_false, not_true_eq_false, not_false_eq_true, reduceCtorEq, zb_bz, bz_t, bz_f, Bool.true_eq_false, Bool.false_eq_true, Nat.add_sub_cancel_left]
  · obtain ⟨a, ha, rfl⟩ : ∃ a, a ≤ 15 ∧ u = nI a := by
      rcases hu with rfl | rfl
      · exact ⟨v, hv, rfl⟩
      · exact ⟨w, hw, rfl⟩
    have d1 : (10 * h + b) / 10 = h := by omega
    have d2 : (10 * h + b) % 10 = b := by omega
    refine ⟨5, 44, 6 * h + b, Or.inr ⟨rfl, rfl, by omega⟩, fun g => ?_, fun g e5 => ?_, fun g g' hT hg => hT.cell hh2 hb ha hg⟩
    · simp (disch := omega) only [m_X9_putBack, m8_write, d1, d2, fa_lit, nI_nm1, nm1_nI, nI_nm1l, Nat.mul_comm _ 6, Nat.mul_comm _ 60, nI_ltI, nI_leI, nI_eq, nI_add, pk_mul, pk_sub, rm_nI, pk_div, nI_clamp, gdd_true, ix_nI, bdd_some, if_pos, if_neg, rI_wI, rI_wL, rL_wI, rL_wL, rI_cI, rI_cL, rL_cI, rL_cL, false_and, and_false, true_and, and_true, if_true, if_false, not_true_eq_false, not_false_eq_true, reduceCtorEq, zb_bz, bz_t, bz_f, Bool.true_eq_false, Bool.false_eq_true]
    · simp (disch := omega) only [m_X10_puts, m10_isHour e5, lt_n_nI, decide_eq_true, d1, d2, fa_lit, nI_nm1, nm1_nI, nI_nm1l, Nat.mul_comm _ 6, Nat.mul_comm _ 60, nI_ltI, nI_leI, nI_eq, nI_add, pk_mul, pk_sub, rm_nI, pk_div, nI_clamp, gdd_true, ix_nI, bdd_some, if_pos, if_neg, rI_wI, rI_wL, rL_wI, rL_wL, rI_cI, rI_cL, rL_cI, rL_cL, false_and, and_false, true_and, and_true, if_true, if_false, not_true_eq_false, not_false_eq_true, reduceCtorEq, zb_bz, bz_t, bz_f, Bool.true_eq_false, Bool.false_eq_true]
theorem dj_wr {P : Nat → Nat → Bool} {g g' : Mm} {c i : Nat} {v : Int32} (hP : ∀ j, P c j = false) (h : kp_ P g g') : kp_ P g (wrI g' c i v) := kp_w (hP i) h
set_option maxHeartbeats 1000000 in
theorem op_undo {g : Mm} (hg : gv_ g) : al_ m_X9_undo m_X10_undo g := by
  have hg0 := hg
  obtain ⟨nb, nh, hd, cd, ck, tl, rt, nn, na, ra, f, hT, hX, hC, hP, hL, hE, hA, hS⟩ := hg
  obtain ⟨⟨b1, b2, b3, b4, b5⟩, ⟨t1, t2, t3, t4, t5, t6⟩, t7, t8, t9, t10⟩ := id hT
  obtain ⟨⟨h2, h3⟩, ⟨c1, c2, c3, c4⟩, c5⟩ := id hC
  by_cases q : cd = 0
  · subst q
    refine al_.same (r := -5) hg0 ?_ ?_
    · simp (disch := omega) only [m_X9_undo, c1, fa_lit, nI_nm1, nm1_nI, nI_nm1l, Nat.mul_comm _ 6, Nat.mul_comm _ 60, nI_ltI, nI_leI, nI_eq, nI_add, pk_mul, pk_sub, rm_nI, pk_div, nI_clamp, gdd_true, ix_nI, bdd_some, if_pos, if_neg, rI_wI, rI_wL, rL_wI, rL_wL, rI_cI, rI_cL, rL_cI, rL_cL, false_and, and_false, true_and, and_true, if_true, if_false, not_true_eq_false, not_false_eq_true, reduceCtorEq, zb_bz, bz_t, bz_f, Bool.true_eq_false, Bool.false_eq_true]
    · simp (disch := omega) only [m_X10_undo, c3, fa_lit, nI_nm1, nm1_nI, nI_nm1l, Nat.mul_comm _ 6, Nat.mul_comm _ 60, nI_ltI, nI_leI, nI_eq, nI_add, pk_mul, pk_sub, rm_nI, pk_div, nI_clamp, gdd_true, ix_nI, bdd_some, if_pos, if_neg, rI_wI, rI_wL, rL_wI, rL_wL, rI_cI, rI_cL, rL_cI, rL_cL, false_and, and_false, true_and, and_true, if_true, if_false, not_true_eq_false, not_false_eq_true, reduceCtorEq, zb_bz, bz_t, bz_f, Bool.true_eq_false, Bool.false_eq_true]
  · obtain ⟨⟨z1, z2, z3⟩, zok⟩ := c5 (cd - 1) (by omega)
    obtain ⟨c, d, i, hcd, hp, hm, ht⟩ := put_both (hd := hd) b1 b3 zok (Or.inl rfl)
    have hk : ∀ x y, ¬ (x = 7 ∧ y = 3) → ¬ (x = 40 ∧ y = 12) → ¬ (x = 40 ∧ y = 13) → ¬ (x = c ∧ y = i) → ¬ (x = d ∧ y = i) → rdI (wrI (wrI (wrI (wrI (wrI g 7 3 (nI (cd - 1))) c i (rdI g 9 (cd - 1))) 40 12 (nI (cd - 1))) 40 13 (nI (ck - cd + 1))) d i (rdI g 9 (cd - 1))) x y = rdI g x y := by
      intro x y q1 q2 q3 q4 q5
      rw [rI_wI, if_neg q5, rI_wI, if_neg q3, rI_wI, if_neg q2, rI_wI, if_neg q4, rI_wI, if_neg q1]
    have kc : ∀ P : Nat → Nat → Bool, P 7 3 = false → P 40 12 = false → P 40 13 = false → (∀ y, P 2 y = false) → (∀ y, P 41 y = false) → (∀ y, P 5 y = false) → (∀ y, P 44 y = false) → kp_ P g (wrI (wrI (wrI (wrI (wrI g 7 3 (nI (cd - 1))) c i (rdI g 9 (cd - 1))) 40 12 (nI (cd - 1))) 40 13 (nI (ck - cd + 1))) d i (rdI g 9 (cd - 1))) := by
      intro P q1 q2 q3 q4 q5 q6 q7
      have p1 : P c i = false := by rcases hcd with ⟨rfl, rfl, -⟩ | ⟨rfl, rfl, -⟩ <;> simp only [q4, q6]
      have p2 : P d i = false := by rcases hcd with ⟨rfl, rfl, -⟩ | ⟨rfl, rfl, -⟩ <;> simp only [q5, q7]
      exact kp_w p2 (kp_w q3 (kp_w q2 (kp_w p1 (kp_w q1 kp_rf))))
    refine ⟨nI (cd - 1), wrI (wrI g 7 3 (nI (cd - 1))) c i (rdI g 9 (cd - 1)), wrI (wrI (wrI (wrI (wrI g 7 3 (nI (cd - 1))) c i (rdI g 9 (cd - 1))) 40 12 (nI (cd - 1))) 40 13 (nI (ck - cd + 1))) d i (rdI g 9 (cd - 1)), ?_, ?_, nb, nh, hd, cd - 1, ck, tl, rt, nn, na, ra, f, ?_, ?_, ?_, ?_, ?_, ?_, ?_, ?_⟩
    · simp (disch := omega) only [m_X9_undo, m_X1_stepBack, c1, hp, fa_lit, nI_nm1, nm1_nI, nI_nm1l, Nat.mul_comm _ 6, Nat.mul_comm _ 60, nI_ltI, nI_leI, nI_eq, nI_add, pk_mul, pk_sub, rm_nI, pk_div, nI_clamp, gdd_true, ix_nI, bdd_some, if_pos, if_neg, rI_wI, rI_wL, rL_wI, rL_wL, rI_cI, rI_cL, rL_cI, rL_cL, false_and, and_false, true_and, and_true, if_true, if_false, not_true_eq_false, not_false_eq_true, reduceCtorEq, zb_bz, bz_t, bz_f, Bool.true_eq_false, Bool.false_eq_true]
    · have w3 : rdI (wrI (wrI g 7 3 (nI (cd - 1))) c i (rdI g 9 (cd - 1))) 40 12 = nI cd := by rw [rI_wI, if_neg (by omega), rI_wI, if_neg (by omega), c3]
      have w4 : rdI (wrI (wrI g 7 3 (nI (cd - 1))) c i (rdI g 9 (cd - 1))) 40 13 = nI (ck - cd) := by rw [rI_wI, if_neg (by omega), rI_wI, if_neg (by omega), c4]
      have w5 : rdI (wrI (wrI g 7 3 (nI (cd - 1))) c i (rdI g 9 (cd - 1))) 40 5 = nI nh := by rw [rI_wI, if_neg (by omega), rI_wI, if_neg (by omega), t5]
      have w6 : rdI (wrI (wrI g 7 3 (nI (cd - 1))) c i (rdI g 9 (cd - 1))) 46 (cd - 1) = rdI g 8 (cd - 1) := by rw [rI_wI, if_neg (by omega), rI_wI, if_neg (by omega), z1]
      have w7 : rdI (wrI (wrI g 7 3 (nI (cd - 1))) c i (rdI g 9 (cd - 1))) 47 (cd - 1) = rdI g 9 (cd - 1) := by rw [rI_wI, if_neg (by omega), rI_wI, if_neg (by omega), z2]
      generalize wrI (wrI g 7 3 (nI (cd - 1))) c i (rdI g 9 (cd - 1)) = g1 at w3 w4 w5 w6 w7 ⊢
      have hm1 := hm (wrI (wrI g1 40 12 (nI (cd - 1))) 40 13 (nI (ck - cd + 1))) (by rw [rI_wI, if_neg (by omega), rI_wI, if_neg (by omega), w5])
      simp (disch := omega) only [m_X10_undo, w3, w4, w6, w7, hm1, fa_lit, nI_nm1, nm1_nI, nI_nm1l, Nat.mul_comm _ 6, Nat.mul_comm _ 60, nI_ltI, nI_leI, nI_eq, nI_add, pk_mul, pk_sub, rm_nI, pk_div, nI_clamp, gdd_true, ix_nI, bdd_some, if_pos, if_neg, rI_wI, rI_wL, rL_wI, rL_wL, rI_cI, rI_cL, rL_cI, rL_cL, false_and, and_false, true_and, and_true, if_true, if_false, not_true_eq_false, not_false_eq_true, reduceCtorEq, zb_bz, bz_t, bz_f, Bool.true_eq_false, Bool.false_eq_true]
    · refine ht g _ hT (fun x y hxy => ?_)
      simp only [pl_t, Bool.or_eq_true, Bool.and_eq_true, beq_iff_eq] at hxy
      rw [rI_wI]
      by_cases p1 : x = d ∧ y = i
      · rw [if_pos p1, if_pos (by omega)]
      · rw [if_neg p1, rI_wI, if_neg (by omega), rI_wI, if_neg (by omega), rI_wI]
        by_cases p2 : x = c ∧ y = i
        · rw [if_pos p2, if_pos (by omega)]
        · rw [if_neg p2, rI_wI, if_neg (by omega), if_neg (by omega)]
    · exact hX.cong (kc _ rfl rfl rfl (fun _ => rfl) (fun _ => rfl) (fun _ => rfl) (fun _ => rfl))
    · refine ⟨⟨by omega, h3⟩, ⟨?_, ?_, ?_, ?_⟩, fun k hk2 => ?_⟩
      · rw [rI_wI, if_neg (by omega), rI_wI, if_neg (by omega), rI_wI, if_neg (by omega), rI_wI, if_neg (by omega), rI_wI, if_pos ⟨rfl, rfl⟩]
      · rw [hk _ _ (by omega) (by omega) (by omega) (by omega) (by omega), c2]
      · rw [rI_wI, if_neg (by omega), rI_wI, if_neg (by omega), rI_wI, if_pos ⟨rfl, rfl⟩]
      · rw [rI_wI, if_neg (by omega), rI_wI, if_pos ⟨rfl, rfl⟩, show ck - cd + 1 = ck - (cd - 1) by omega]
      · rw [hk _ _ (by omega) (by omega) (by omega) (by omega) (by omega), hk _ _ (by omega) (by omega) (by omega) (by omega) (by omega), hk _ _ (by omega) (by omega) (by omega) (by omega) (by omega), hk _ _ (by omega) (by omega) (by omega) (by omega) (by omega), hk _ _ (by omega) (by omega) (by omega) (by omega) (by omega), hk _ _ (by omega) (by omega) (by omega) (by omega) (by omega)]
        exact c5 k hk2
    · exact hP.cong (kc _ rfl rfl rfl (fun _ => rfl) (fun _ => rfl) (fun _ => rfl) (fun _ => rfl))
    · refine hL.cong ?_
      rcases hL.1 with ⟨rfl, -⟩ | ⟨rfl, -⟩ <;> exact kc _ rfl rfl rfl (fun _ => rfl) (fun _ => rfl) (fun _ => rfl) (fun _ => rfl)
    · exact hE.cong (kc _ rfl rfl rfl (fun _ => rfl) (fun _ => rfl) (fun _ => rfl) (fun _ => rfl))
    · exact hA.cong (kc _ rfl rfl rfl (fun _ => rfl) (fun _ => rfl) (fun _ => rfl) (fun _ => rfl))
    · exact hS.cong (kc _ rfl rfl rfl (fun _ => rfl) (fun _ => rfl) (fun _ => rfl) (fun _ => rfl)) (fun i => ⟨rfl, rfl⟩)
set_option maxHeartbeats 1000000 in
theorem op_redo {g : Mm} (hg : gv_ g) : al_ m_X9_redo m_X10_redo g := by
  have hg0 := hg
  obtain ⟨nb, nh, hd, cd, ck, tl, rt, nn, na, ra, f, hT, hX, hC, hP, hL, hE, hA, hS⟩ := hg
  obtain ⟨⟨b1, b2, b3, b4, b5⟩, ⟨t1, t2, t3, t4, t5, t6⟩, t7, t8, t9, t10⟩ := id hT
  obtain ⟨⟨h2, h3⟩, ⟨c1, c2, c3, c4⟩, c5⟩ := id hC
  by_cases q : cd = ck
  · subst q
    have e0 : cd - cd = 0 := by omega
    rw [e0] at c4
    refine al_.same (r := -5) hg0 ?_ ?_
    · simp (disch := omega) only [m_X9_redo, c1, c2, fa_lit, nI_nm1, nm1_nI, nI_nm1l, Nat.mul_comm _ 6, Nat.mul_comm _ 60, nI_ltI, nI_leI, nI_eq, nI_add, pk_mul, pk_sub, rm_nI, pk_div, nI_clamp, gdd_true, ix_nI, bdd_some, if_pos, if_neg, rI_wI, rI_wL, rL_wI, rL_wL, rI_cI, rI_cL, rL_cI, rL_cL, false_and, and_false, true_and, and_true, if_true, if_false, not_true_eq_false, not_false_eq_true, reduceCtorEq, zb_bz, bz_t, bz_f, Bool.true_eq_false, Bool.false_eq_true]
    · simp (disch := omega) only [m_X10_redo, c4, fa_lit, nI_nm1, nm1_nI, nI_nm1l, Nat.mul_comm _ 6, Nat.mul_comm _ 60, nI_ltI, nI_leI, nI_eq, nI_add, pk_mul, pk_sub, rm_nI, pk_div, nI_clamp, gdd_true, ix_nI, bdd_some, if_pos, if_neg, rI_wI, rI_wL, rL_wI, rL_wL, rI_cI, rI_cL, rL_cI, rL_cL, false_and, and_false, true_and, and_true, if_true, if_false, not_true_eq_false, not_false_eq_true, reduceCtorEq, zb_bz, bz_t, bz_f, Bool.true_eq_false, Bool.false_eq_true]
  · obtain ⟨⟨z1, z2, z3⟩, zok⟩ := c5 cd (by omega)
    obtain ⟨c, d, i, hcd, hp, hm, ht⟩ := put_both (hd := hd) b1 b3 zok (Or.inr rfl)
    have hk : ∀ x y, ¬ (x = 7 ∧ y = 3) → ¬ (x = 40 ∧ y = 12) → ¬ (x = 40 ∧ y = 13) → ¬ (x = c ∧ y = i) → ¬ (x = d ∧ y = i) → rdI (wrI (wrI (wrI (wrI (wrI g 7 3 (nI (cd + 1))) c i (rdI g 10 cd)) d i (rdI g 10 cd)) 40 12 (nI (cd + 1))) 40 13 (nI (ck - cd - 1))) x y = rdI g x y := by
      intro x y q1 q2 q3 q4 q5
      rw [rI_wI, if_neg q3, rI_wI, if_neg q2, rI_wI, if_neg q5, rI_wI, if_neg q4, rI_wI, if_neg q1]
    have kc : ∀ P : Nat → Nat → Bool, P 7 3 = false → P 40 12 = false → P 40 13 = false → (∀ y, P 2 y = false) → (∀ y, P 41 y = false) → (∀ y, P 5 y = false) → (∀ y, P 44 y = false) → kp_ P g (wrI (wrI (wrI (wrI (wrI g 7 3 (nI (cd + 1))) c i (rdI g 10 cd)) d i (rdI g 10 cd)) 40 12 (nI (cd + 1))) 40 13 (nI (ck - cd - 1))) := by
      intro P q1 q2 q3 q4 q5 q6 q7
      have p1 : P c i = false := by rcases hcd with ⟨rfl, rfl, -⟩ | ⟨rfl, rfl, -⟩ <;> simp only [q4, q6]
      have p2 : P d i = false := by rcases hcd with ⟨rfl, rfl, -⟩ | ⟨rfl, rfl, -⟩ <;> simp only [q5, q7]
      exact kp_w q3 (kp_w q2 (kp_w p2 (kp_w p1 (kp_w q1 kp_rf))))
    refine ⟨nI (ck - (cd + 1)), wrI (wrI g 7 3 (nI (cd + 1))) c i (rdI g 10 cd), wrI (wrI (wrI (wrI (wrI g 7 3 (nI (cd + 1))) c i (rdI g 10 cd)) d i (rdI g 10 cd)) 40 12 (nI (cd + 1))) 40 13 (nI (ck - cd - 1)), ?_, ?_, nb, nh, hd, cd + 1, ck, tl, rt, nn, na, ra, f, ?_, ?_, ?_, ?_, ?_, ?_, ?_, ?_⟩
    · have p73 : ∀ v, rdI (wrI (wrI g 7 3 (nI (cd + 1))) c i v) 7 3 = nI (cd + 1) := fun v => by rw [rI_wI, if_neg (by omega), rI_wI, if_pos ⟨rfl, rfl⟩]
      have p74 : ∀ v, rdI (wrI (wrI g 7 3 (nI (cd + 1))) c i v) 7 4 = nI ck := fun v => by rw [rI_wI, if_neg (by omega), rI_wI, if_neg (by omega), c2]
      simp (disch := omega) only [m_X9_redo, m_X1_stepOn, c1, c2, hp, p73, p74, Nat.add_sub_cancel, fa_lit, nI_nm1, nm1_nI, nI_nm1l, Nat.mul_comm _ 6, Nat.mul_comm _ 60, nI_ltI, nI_leI, nI_eq, nI_add, pk_mul, pk_sub, rm_nI, pk_div, nI_clamp, gdd_true, ix_nI, bdd_some, if_pos, if_neg, rI_wI, rI_wL, rL_wI, rL_wL, rI_cI, rI_cL, rL_cI, rL_cL, false_and, and_false, true_and, and_true, if_true, if_false, not_true_eq_false, not_false_eq_true, reduceCtorEq, zb_bz, bz_t, bz_f, Bool.true_eq_false, Bool.false_eq_true]
    · have w3 : rdI (wrI (wrI g 7 3 (nI (cd + 1))) c i (rdI g 10 cd)) 40 12 = nI cd := by rw [rI_wI, if_neg (by omega), rI_wI, if_neg (by omega), c3]
      have w4 : rdI (wrI (wrI g 7 3 (nI (cd + 1))) c i (rdI g 10 cd)) 40 13 = nI (ck - cd) := by rw [rI_wI, if_neg (by omega), rI_wI, if_neg (by omega), c4]
      have w5 : rdI (wrI (wrI g 7 3 (nI (cd + 1))) c i (rdI g 10 cd)) 40 5 = nI nh := by rw [rI_wI, if_neg (by omega), rI_wI, if_neg (by omega), t5]
      have w6 : rdI (wrI (wrI g 7 3 (nI (cd + 1))) c i (rdI g 10 cd)) 46 cd = rdI g 8 cd := by rw [rI_wI, if_neg (by omega), rI_wI, if_neg (by omega), z1]
      have w7 : rdI (wrI (wrI g 7 3 (nI (cd + 1))) c i (rdI g 10 cd)) 48 cd = rdI g 10 cd := by rw [rI_wI, if_neg (by omega), rI_wI, if_neg (by omega), z3]
      generalize wrI (wrI g 7 3 (nI (cd + 1))) c i (rdI g 10 cd) = g1 at w3 w4 w5 w6 w7 ⊢
      have hm1 := hm g1 w5
      have v3 : ∀ v, rdI (wrI g1 d i v) 40 12 = nI cd := fun v => by rw [rI_wI, if_neg (by omega), w3]
      have v4 : ∀ v, rdI (wrI g1 d i v) 40 13 = nI (ck - cd) := fun v => by rw [rI_wI, if_neg (by omega), w4]
      simp (disch := omega) only [m_X10_redo, w3, w4, w6, w7, hm1, v3, v4, fa_lit, nI_nm1, nm1_nI, nI_nm1l, Nat.mul_comm _ 6, Nat.mul_comm _ 60, nI_ltI, nI_leI, nI_eq, nI_add, pk_mul, pk_sub, rm_nI, pk_div, nI_clamp, gdd_true, ix_nI, bdd_some, if_pos, if_neg, rI_wI, rI_wL, rL_wI, rL_wL, rI_cI, rI_cL, rL_cI, rL_cL, false_and, and_false, true_and, and_true, if_true, if_false, not_true_eq_false, not_false_eq_true, reduceCtorEq, zb_bz, bz_t, bz_f, Bool.true_eq_false, Bool.false_eq_true]
      rw [show ck - (cd + 1) = ck - cd - 1 by omega]
    · refine ht g _ hT (fun x y hxy => ?_)
      simp only [pl_t, Bool.or_eq_true, Bool.and_eq_true, beq_iff_eq] at hxy
      rw [rI_wI, if_neg (by omega), rI_wI, if_neg (by omega), rI_wI]
      by_cases p1 : x = d ∧ y = i
      · rw [if_pos p1, if_pos (by omega)]
      · rw [if_neg p1, rI_wI]
        by_cases p2 : x = c ∧ y = i
        · rw [if_pos p2, if_pos (by omega)]
        · rw [if_neg p2, rI_wI, if_neg (by omega), if_neg (by omega)]
    · exact hX.cong (kc _ rfl rfl rfl (fun _ => rfl) (fun _ => rfl) (fun _ => rfl) (fun _ => rfl))
    · refine ⟨⟨by omega, h3⟩, ⟨?_, ?_, ?_, ?_⟩, fun k hk2 => ?_⟩
      · rw [rI_wI, if_neg (by omega), rI_wI, if_neg (by omega), rI_wI, if_neg (by omega), rI_wI, if_neg (by omega), rI_wI, if_pos ⟨rfl, rfl⟩]
      · rw [hk _ _ (by omega) (by omega) (by omega) (by omega) (by omega), c2]
      · rw [rI_wI, if_neg (by omega), rI_wI, if_pos ⟨rfl, rfl⟩]
      · rw [rI_wI, if_pos ⟨rfl, rfl⟩, show ck - cd - 1 = ck - (cd + 1) by omega]
      · rw [hk _ _ (by omega) (by omega) (by omega) (by omega) (by omega), hk _ _ (by omega) (by omega) (by omega) (by omega) (by omega), hk _ _ (by omega) (by omega) (by omega) (by omega) (by omega), hk _ _ (by omega) (by omega) (by omega) (by omega) (by omega), hk _ _ (by omega) (by omega) (by omega) (by omega) (by omega), hk _ _ (by omega) (by omega) (by omega) (by omega) (by omega)]
        exact c5 k hk2
    · exact hP.cong (kc _ rfl rfl rfl (fun _ => rfl) (fun _ => rfl) (fun _ => rfl) (fun _ => rfl))
    · refine hL.cong ?_
      rcases hL.1 with ⟨rfl, -⟩ | ⟨rfl, -⟩ <;> exact kc _ rfl rfl rfl (fun _ => rfl) (fun _ => rfl) (fun _ => rfl) (fun _ => rfl)
    · exact hE.cong (kc _ rfl rfl rfl (fun _ => rfl) (fun _ => rfl) (fun _ => rfl) (fun _ => rfl))
    · exact hA.cong (kc _ rfl rfl rfl (fun _ => rfl) (fun _ => rfl) (fun _ => rfl) (fun _ => rfl))
    · exact hS.cong (kc _ rfl rfl rfl (fun _ => rfl) (fun _ => rfl) (fun _ => rfl) (fun _ => rfl)) (fun i => ⟨rfl, rfl⟩)
