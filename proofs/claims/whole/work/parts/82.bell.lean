/-! bell, set -/
theorem wr_self {g : Mm} {c i : Nat} {v : Int32} (h : rdI g c i = v) : wrI g c i v = g := by
  refine mm_ext (fun x k => ?_) rfl
  rw [rI_wI]
  split
  · rename_i z
    rw [z.1, z.2, h]
  · rfl
theorem bell_loop {nb : Nat} (hb : nb < 6) : ∀ (fu i : Nat) (g : Mm), 24 < i + fu → i ≤ 24 → rdI g 40 4 = nI nb → (∀ h, h < 24 → rdI g 44 (6 * h + nb) = nI 0) → m_X10_bell_90 fu (nI i) g = some (nI nb, wrI g 40 4 (nI (nb + 1))) := by
  intro fu
  induction fu with
  | zero => intro i g h1 h2; omega
  | succ fu ih =>
    intro i g h1 h2 e4 hz
    rw [m_X10_bell_90]
    by_cases q : i = 24
    · subst q
      simp (disch := omega) only [e4, Nat.add_sub_cancel, fa_lit, nI_nm1, nm1_nI, nI_nm1l, Nat.mul_comm _ 6, Nat.mul_comm _ 60, nI_ltI, nI_leI, nI_eq, nI_add, pk_mul, pk_sub, rm_nI, pk_div, nI_clamp, gdd_true, ix_nI, bdd_some, if_pos, if_neg, rI_wI, rI_wL, rL_wI, rL_wL, rI_cI, rI_cL, rL_cI, rL_cL, false_and, and_false, true_and, and_true, if_true, if_false, not_true_eq_false, not_false_eq_true, reduceCtorEq, zb_bz, bz_t, bz_f, Bool.true_eq_false, Bool.false_eq_true]
    · have e := ih (i + 1) g (by omega) (by omega) e4 hz
      have ew : wrI g 44 (6 * i + nb) (nI 0) = g := wr_self (hz i (by omega))
      simp (disch := omega) only [e4, ew, fa_lit, nI_nm1, nm1_nI, nI_nm1l, Nat.mul_comm _ 6, Nat.mul_comm _ 60, nI_ltI, nI_leI, nI_eq, nI_add, pk_mul, pk_sub, rm_nI, pk_div, nI_clamp, gdd_true, ix_nI, bdd_some, if_pos, if_neg, rI_wI, rI_wL, rL_wI, rL_wL, rI_cI, rI_cL, rL_cI, rL_cL, false_and, and_false, true_and, and_true, if_true, if_false, not_true_eq_false, not_false_eq_true, reduceCtorEq, zb_bz, bz_t, bz_f, Bool.true_eq_false, Bool.false_eq_true]
      exact e
set_option maxHeartbeats 1000000 in
theorem op_bell (a0 a1 : Int32) {g : Mm} (hg : gv_ g) : al_ (m_X9_bell a0 a1) (m_X10_bell a0 a1) g := by
  have hg0 := hg
  obtain ⟨nb, nh, hd, cd, ck, tl, rt, nn, na, ra, f, hT, hX, hC, hP, hL, hE, hA, hS⟩ := hg
  obtain ⟨⟨b1, b2, b3, b4, b5⟩, ⟨t1, t2, t3, t4, t5, t6⟩, t7, t8, t9, t10⟩ := id hT
  rcases i_cases a0 with h | ⟨m, hm, rfl⟩
  · refine al_.same (r := -1) hg0 ?_ ?_
    · rw [m_X9_bell, if_pos (show a0 < (1 : Int32) from neg_lt (k := 1) h (by decide))]
    · rw [m_X10_bell, in_neg h (by decide), bdd_some, if_pos (show bz false = 0 from rfl)]
  · by_cases hm1 : 1 ≤ m ∧ m ≤ 15
    · rcases i_cases a1 with h | ⟨v, hv, rfl⟩
      · refine al_.same (r := -1) hg0 ?_ ?_
        · have h0 : a1 < nI 0 := neg_lt0 h
          simp (disch := omega) only [m_X9_bell, h0, fa_lit, nI_nm1, nm1_nI, nI_nm1l, Nat.mul_comm _ 6, Nat.mul_comm _ 60, nI_ltI, nI_leI, nI_eq, nI_add, pk_mul, pk_sub, rm_nI, pk_div, nI_clamp, gdd_true, ix_nI, bdd_some, if_pos, if_neg, rI_wI, rI_wL, rL_wI, rL_wL, rI_cI, rI_cL, rL_cI, rL_cL, false_and, and_false, true_and, and_true, if_true, if_false, not_true_eq_false, not_false_eq_true, reduceCtorEq, zb_bz, bz_t, bz_f, Bool.true_eq_false, Bool.false_eq_true]
        · have h0 : a1 < nI 0 := neg_lt0 h
          simp (disch := omega) only [m_X10_bell, in_nI 1 15 1 15 hm rfl rfl, decide_eq_true, h0, fa_lit, nI_nm1, nm1_nI, nI_nm1l, Nat.mul_comm _ 6, Nat.mul_comm _ 60, nI_ltI, nI_leI, nI_eq, nI_add, pk_mul, pk_sub, rm_nI, pk_div, nI_clamp, gdd_true, ix_nI, bdd_some, if_pos, if_neg, rI_wI, rI_wL, rL_wI, rL_wL, rI_cI, rI_cL, rL_cI, rL_cL, false_and, and_false, true_and, and_true, if_true, if_false, not_true_eq_false, not_false_eq_true, reduceCtorEq, zb_bz, bz_t, bz_f, Bool.true_eq_false, Bool.false_eq_true]
      · by_cases hr : v / 1000 ≤ 99 ∧ v % 1000 ≤ 100
        · by_cases hf : nb = 6
          · subst hf
            refine al_.same (r := -3) hg0 ?_ ?_
            · simp (disch := omega) only [m_X9_bell, t1, fa_lit, nI_nm1, nm1_nI, nI_nm1l, Nat.mul_comm _ 6, Nat.mul_comm _ 60, nI_ltI, nI_leI, nI_eq, nI_add, pk_mul, pk_sub, rm_nI, pk_div, nI_clamp, gdd_true, ix_nI, bdd_some, if_pos, if_neg, rI_wI, rI_wL, rL_wI, rL_wL, rI_cI, rI_cL, rL_cI, rL_cL, false_and, and_false, true_and, and_true, if_true, if_false, not_true_eq_false, not_false_eq_true, reduceCtorEq, zb_bz, bz_t, bz_f, Bool.true_eq_false, Bool.false_eq_true]
            · simp (disch := omega) only [m_X10_bell, in_nI 1 15 1 15 hm rfl rfl, decide_eq_true, t4, fa_lit, nI_nm1, nm1_nI, nI_nm1l, Nat.mul_comm _ 6, Nat.mul_comm _ 60, nI_ltI, nI_leI, nI_eq, nI_add, pk_mul, pk_sub, rm_nI, pk_div, nI_clamp, gdd_true, ix_nI, bdd_some, if_pos, if_neg, rI_wI, rI_wL, rL_wI, rL_wL, rI_cI, rI_cL, rL_cI, rL_cL, false_and, and_false, true_and, and_true, if_true, if_false, not_true_eq_false, not_false_eq_true, reduceCtorEq, zb_bz, bz_t, bz_f, Bool.true_eq_false, Bool.false_eq_true]
          · have kp : ∀ P : Nat → Nat → Bool, P 2 nb = false → P 3 nb = false → P 4 nb = false → P 1 0 = false → P 41 nb = false → P 42 nb = false → P 43 nb = false → P 40 4 = false → kp_ P g (wrI (wrI (wrI (wrI (wrI (wrI (wrI (wrI g 2 nb (nI m)) 3 nb (nI (v / 1000))) 4 nb (nI (v % 1000))) 1 0 (nI (nb + 1))) 41 nb (nI m)) 42 nb (nI (v / 1000))) 43 nb (nI (v % 1000))) 40 4 (nI (nb + 1))) :=
              fun P q1 q2 q3 q4 q5 q6 q7 q8 => kp_w q8 (kp_w q7 (kp_w q6 (kp_w q5 (kp_w q4 (kp_w q3 (kp_w q2 (kp_w q1 kp_rf)))))))
            refine ⟨nI nb, wrI (wrI (wrI (wrI g 2 nb (nI m)) 3 nb (nI (v / 1000))) 4 nb (nI (v % 1000))) 1 0 (nI (nb + 1)), wrI (wrI (wrI (wrI (wrI (wrI (wrI (wrI g 2 nb (nI m)) 3 nb (nI (v / 1000))) 4 nb (nI (v % 1000))) 1 0 (nI (nb + 1))) 41 nb (nI m)) 42 nb (nI (v / 1000))) 43 nb (nI (v % 1000))) 40 4 (nI (nb + 1)), ?_, ?_, ?_⟩
            · simp (disch := omega) only [m_X9_bell, m_X8_addBell, t1, Nat.add_sub_cancel, fa_lit, nI_nm1, nm1_nI, nI_nm1l, Nat.mul_comm _ 6, Nat.mul_comm _ 60, nI_ltI, nI_leI, nI_eq, nI_add, pk_mul, pk_sub, rm_nI, pk_div, nI_clamp, gdd_true, ix_nI, bdd_some, if_pos, if_neg, rI_wI, rI_wL, rL_wI, rL_wL, rI_cI, rI_cL, rL_cI, rL_cL, false_and, and_false, true_and, and_true, if_true, if_false, not_true_eq_false, not_false_eq_true, reduceCtorEq, zb_bz, bz_t, bz_f, Bool.true_eq_false, Bool.false_eq_true]
            · obtain ⟨F, eF, hF⟩ := fu_get
              simp (disch := omega) only [m_X10_bell, in_nI 1 15 1 15 hm rfl rfl, decide_eq_true, t4, eF, fa_lit, nI_nm1, nm1_nI, nI_nm1l, Nat.mul_comm _ 6, Nat.mul_comm _ 60, nI_ltI, nI_leI, nI_eq, nI_add, pk_mul, pk_sub, rm_nI, pk_div, nI_clamp, gdd_true, ix_nI, bdd_some, if_pos, if_neg, rI_wI, rI_wL, rL_wI, rL_wL, rI_cI, rI_cL, rL_cI, rL_cL, false_and, and_false, true_and, and_true, if_true, if_false, not_true_eq_false, not_false_eq_true, reduceCtorEq, zb_bz, bz_t, bz_f, Bool.true_eq_false, Bool.false_eq_true]
              refine bell_loop (by omega) F 0 _ (by omega) (by omega) ?_ (fun h hh => ?_)
              · simp (disch := omega) only [t4, fa_lit, nI_nm1, nm1_nI, nI_nm1l, Nat.mul_comm _ 6, Nat.mul_comm _ 60, nI_ltI, nI_leI, nI_eq, nI_add, pk_mul, pk_sub, rm_nI, pk_div, nI_clamp, gdd_true, ix_nI, bdd_some, if_pos, if_neg, rI_wI, rI_wL, rL_wI, rL_wL, rI_cI, rI_cL, rL_cI, rL_cL, false_and, and_false, true_and, and_true, if_true, if_false, not_true_eq_false, not_false_eq_true, reduceCtorEq, zb_bz, bz_t, bz_f, Bool.true_eq_false, Bool.false_eq_true]
              · simp (disch := omega) only [fa_lit, nI_nm1, nm1_nI, nI_nm1l, Nat.mul_comm _ 6, Nat.mul_comm _ 60, nI_ltI, nI_leI, nI_eq, nI_add, pk_mul, pk_sub, rm_nI, pk_div, nI_clamp, gdd_true, ix_nI, bdd_some, if_pos, if_neg, rI_wI, rI_wL, rL_wI, rL_wL, rI_cI, rI_cL, rL_cI, rL_cL, false_and, and_false, true_and, and_true, if_true, if_false, not_true_eq_false, not_false_eq_true, reduceCtorEq, zb_bz, bz_t, bz_f, Bool.true_eq_false, Bool.false_eq_true]
                rw [(t9 (6 * h + nb) (by omega)).1]
                exact t10 h nb hh (by omega) (Or.inr (Nat.le_refl _))
            · refine gv_fin (nb' := nb + 1) (nh' := nh) (hd' := hd) (cd := cd) (ck := ck) hP hL hE hA hS (Nat.le_succ _) ?_ ?_ ?_ ?_ rfl
              · refine ⟨⟨by omega, b2, b3, b4, b5⟩, ⟨?_, ?_, ?_, ?_, ?_, ?_⟩, fun b hb => ?_, fun b hb => ?_, fun k hk => ?_, fun x b hx hb q => ?_⟩
                · simp (disch := omega) only [fa_lit, nI_nm1, nm1_nI, nI_nm1l, Nat.mul_comm _ 6, Nat.mul_comm _ 60, nI_ltI, nI_leI, nI_eq, nI_add, pk_mul, pk_sub, rm_nI, pk_div, nI_clamp, gdd_true, ix_nI, bdd_some, if_pos, if_neg, rI_wI, rI_wL, rL_wI, rL_wL, rI_cI, rI_cL, rL_cI, rL_cL, false_and, and_false, true_and, and_true, if_true, if_false, not_true_eq_false, not_false_eq_true, reduceCtorEq, zb_bz, bz_t, bz_f, Bool.true_eq_false, Bool.false_eq_true]
                · simp (disch := omega) only [t2, fa_lit, nI_nm1, nm1_nI, nI_nm1l, Nat.mul_comm _ 6, Nat.mul_comm _ 60, nI_ltI, nI_leI, nI_eq, nI_add, pk_mul, pk_sub, rm_nI, pk_div, nI_clamp, gdd_true, ix_nI, bdd_some, if_pos, if_neg, rI_wI, rI_wL, rL_wI, rL_wL, rI_cI, rI_cL, rL_cI, rL_cL, false_and, and_false, true_and, and_true, if_true, if_false, not_true_eq_false, not_false_eq_true, reduceCtorEq, zb_bz, bz_t, bz_f, Bool.true_eq_false, Bool.false_eq_true]
                · simp (disch := omega) only [t3, fa_lit, nI_nm1, nm1_nI, nI_nm1l, Nat.mul_comm _ 6, Nat.mul_comm _ 60, nI_ltI, nI_leI, nI_eq, nI_add, pk_mul, pk_sub, rm_nI, pk_div, nI_clamp, gdd_true, ix_nI, bdd_some, if_pos, if_neg, rI_wI, rI_wL, rL_wI, rL_wL, rI_cI, rI_cL, rL_cI, rL_cL, false_and, and_false, true_and, and_true, if_true, if_false, not_true_eq_false, not_false_eq_true, reduceCtorEq, zb_bz, bz_t, bz_f, Bool.true_eq_false, Bool.false_eq_true]
                · simp (disch := omega) only [fa_lit, nI_nm1, nm1_nI, nI_nm1l, Nat.mul_comm _ 6, Nat.mul_comm _ 60, nI_ltI, nI_leI, nI_eq, nI_add, pk_mul, pk_sub, rm_nI, pk_div, nI_clamp, gdd_true, ix_nI, bdd_some, if_pos, if_neg, rI_wI, rI_wL, rL_wI, rL_wL, rI_cI, rI_cL, rL_cI, rL_cL, false_and, and_false, true_and, and_true, if_true, if_false, not_true_eq_false, not_false_eq_true, reduceCtorEq, zb_bz, bz_t, bz_f, Bool.true_eq_false, Bool.false_eq_true]
                · simp (disch := omega) only [t5, fa_lit, nI_nm1, nm1_nI, nI_nm1l, Nat.mul_comm _ 6, Nat.mul_comm _ 60, nI_ltI, nI_leI, nI_eq, nI_add, pk_mul, pk_sub, rm_nI, pk_div, nI_clamp, gdd_true, ix_nI, bdd_some, if_pos, if_neg, rI_wI, rI_wL, rL_wI, rL_wL, rI_cI, rI_cL, rL_cI, rL_cL, false_and, and_false, true_and, and_true, if_true, if_false, not_true_eq_false, not_false_eq_true, reduceCtorEq, zb_bz, bz_t, bz_f, Bool.true_eq_false, Bool.false_eq_true]
                · simp (disch := omega) only [t6, fa_lit, nI_nm1, nm1_nI, nI_nm1l, Nat.mul_comm _ 6, Nat.mul_comm _ 60, nI_ltI, nI_leI, nI_eq, nI_add, pk_mul, pk_sub, rm_nI, pk_div, nI_clamp, gdd_true, ix_nI, bdd_some, if_pos, if_neg, rI_wI, rI_wL, rL_wI, rL_wL, rI_cI, rI_cL, rL_cI, rL_cL, false_and, and_false, true_and, and_true, if_true, if_false, not_true_eq_false, not_false_eq_true, reduceCtorEq, zb_bz, bz_t, bz_f, Bool.true_eq_false, Bool.false_eq_true]
                · by_cases q : b = nb
                  · subst q
                    simp (disch := omega) only [fa_lit, nI_nm1, nm1_nI, nI_nm1l, Nat.mul_comm _ 6, Nat.mul_comm _ 60, nI_ltI, nI_leI, nI_eq, nI_add, pk_mul, pk_sub, rm_nI, pk_div, nI_clamp, gdd_true, ix_nI, bdd_some, if_pos, if_neg, rI_wI, rI_wL, rL_wI, rL_wL, rI_cI, rI_cL, rL_cI, rL_cL, false_and, and_false, true_and, and_true, if_true, if_false, not_true_eq_false, not_false_eq_true, reduceCtorEq, zb_bz, bz_t, bz_f, Bool.true_eq_false, Bool.false_eq_true]
                  · simp (disch := omega) only [fa_lit, nI_nm1, nm1_nI, nI_nm1l, Nat.mul_comm _ 6, Nat.mul_comm _ 60, nI_ltI, nI_leI, nI_eq, nI_add, pk_mul, pk_sub, rm_nI, pk_div, nI_clamp, gdd_true, ix_nI, bdd_some, if_pos, if_neg, rI_wI, rI_wL, rL_wI, rL_wL, rI_cI, rI_cL, rL_cI, rL_cL, false_and, and_false, true_and, and_true, if_true, if_false, not_true_eq_false, not_false_eq_true, reduceCtorEq, zb_bz, bz_t, bz_f, Bool.true_eq_false, Bool.false_eq_true]
                    exact t7 b hb
                · by_cases q : b = nb
                  · subst q
                    simp (disch := omega) only [fa_lit, nI_nm1, nm1_nI, nI_nm1l, Nat.mul_comm _ 6, Nat.mul_comm _ 60, nI_ltI, nI_leI, nI_eq, nI_add, pk_mul, pk_sub, rm_nI, pk_div, nI_clamp, gdd_true, ix_nI, bdd_some, if_pos, if_neg, rI_wI, rI_wL, rL_wI, rL_wL, rI_cI, rI_cL, rL_cI, rL_cL, false_and, and_false, true_and, and_true, if_true, if_false, not_true_eq_false, not_false_eq_true, reduceCtorEq, zb_bz, bz_t, bz_f, Bool.true_eq_false, Bool.false_eq_true]
                    exact ⟨⟨m, hm1.1, hm1.2, rfl⟩, ⟨v / 1000, hr.1, rfl⟩, v % 1000, hr.2, rfl⟩
                  · simp (disch := omega) only [fa_lit, nI_nm1, nm1_nI, nI_nm1l, Nat.mul_comm _ 6, Nat.mul_comm _ 60, nI_ltI, nI_leI, nI_eq, nI_add, pk_mul, pk_sub, rm_nI, pk_div, nI_clamp, gdd_true, ix_nI, bdd_some, if_pos, if_neg, rI_wI, rI_wL, rL_wI, rL_wL, rI_cI, rI_cL, rL_cI, rL_cL, false_and, and_false, true_and, and_true, if_true, if_false, not_true_eq_false, not_false_eq_true, reduceCtorEq, zb_bz, bz_t, bz_f, Bool.true_eq_false, Bool.false_eq_true]
                    exact t8 b (by omega)
                · simp (disch := omega) only [fa_lit, nI_nm1, nm1_nI, nI_nm1l, Nat.mul_comm _ 6, Nat.mul_comm _ 60, nI_ltI, nI_leI, nI_eq, nI_add, pk_mul, pk_sub, rm_nI, pk_div, nI_clamp, gdd_true, ix_nI, bdd_some, if_pos, if_neg, rI_wI, rI_wL, rL_wI, rL_wL, rI_cI, rI_cL, rL_cI, rL_cL, false_and, and_false, true_and, and_true, if_true, if_false, not_true_eq_false, not_false_eq_true, reduceCtorEq, zb_bz, bz_t, bz_f, Bool.true_eq_false, Bool.false_eq_true]
                  exact t9 k hk
                · simp (disch := omega) only [fa_lit, nI_nm1, nm1_nI, nI_nm1l, Nat.mul_comm _ 6, Nat.mul_comm _ 60, nI_ltI, nI_leI, nI_eq, nI_add, pk_mul, pk_sub, rm_nI, pk_div, nI_clamp, gdd_true, ix_nI, bdd_some, if_pos, if_neg, rI_wI, rI_wL, rL_wI, rL_wL, rI_cI, rI_cL, rL_cI, rL_cL, false_and, and_false, true_and, and_true, if_true, if_false, not_true_eq_false, not_false_eq_true, reduceCtorEq, zb_bz, bz_t, bz_f, Bool.true_eq_false, Bool.false_eq_true]
                  exact t10 x b hx hb (by omega)
              · exact hX.cong (kp _ rfl rfl rfl rfl rfl rfl rfl rfl)
              · have h := hC.cong (kp _ rfl rfl rfl rfl rfl rfl rfl rfl)
                exact ⟨h.1, h.2.1, fun k hk => ⟨(h.2.2 k hk).1, (h.2.2 k hk).2.more (Nat.le_succ _)⟩⟩
              · intro c i q1 q2 q3
                simp only [pl_t, Bool.or_eq_false_iff, Bool.and_eq_false_iff, beq_eq_false_iff_ne] at q1
                rw [rI_wI, if_neg (by omega), rI_wI, if_neg (by omega), rI_wI, if_neg (by omega), rI_wI, if_neg (by omega), rI_wI, if_neg (by omega), rI_wI, if_neg (by omega), rI_wI, if_neg (by omega), rI_wI, if_neg (by omega)]
        · refine al_.same (r := -1) hg0 ?_ ?_
          · by_cases z : v / 1000 ≤ 99
            · simp (disch := omega) only [m_X9_bell, fa_lit, nI_nm1, nm1_nI, nI_nm1l, Nat.mul_comm _ 6, Nat.mul_comm _ 60, nI_ltI, nI_leI, nI_eq, nI_add, pk_mul, pk_sub, rm_nI, pk_div, nI_clamp, gdd_true, ix_nI, bdd_some, if_pos, if_neg, rI_wI, rI_wL, rL_wI, rL_wL, rI_cI, rI_cL, rL_cI, rL_cL, false_and, and_false, true_and, and_true, if_true, if_false, not_true_eq_false, not_false_eq_true, reduceCtorEq, zb_bz, bz_t, bz_f, Bool.true_eq_false, Bool.false_eq_true]
            · simp (disch := omega) only [m_X9_bell, fa_lit, nI_nm1, nm1_nI, nI_nm1l, Nat.mul_comm _ 6, Nat.mul_comm _ 60, nI_ltI, nI_leI, nI_eq, nI_add, pk_mul, pk_sub, rm_nI, pk_div, nI_clamp, gdd_true, ix_nI, bdd_some, if_pos, if_neg, rI_wI, rI_wL, rL_wI, rL_wL, rI_cI, rI_cL, rL_cI, rL_cL, false_and, and_false, true_and, and_true, if_true, if_false, not_true_eq_false, not_false_eq_true, reduceCtorEq, zb_bz, bz_t, bz_f, Bool.true_eq_false, Bool.false_eq_true]
          · by_cases z : v / 1000 ≤ 99
            · simp (disch := omega) only [m_X10_bell, in_nI 1 15 1 15 hm rfl rfl, decide_eq_true, fa_lit, nI_nm1, nm1_nI, nI_nm1l, Nat.mul_comm _ 6, Nat.mul_comm _ 60, nI_ltI, nI_leI, nI_eq, nI_add, pk_mul, pk_sub, rm_nI, pk_div, nI_clamp, gdd_true, ix_nI, bdd_some, if_pos, if_neg, rI_wI, rI_wL, rL_wI, rL_wL, rI_cI, rI_cL, rL_cI, rL_cL, false_and, and_false, true_and, and_true, if_true, if_false, not_true_eq_false, not_false_eq_true, reduceCtorEq, zb_bz, bz_t, bz_f, Bool.true_eq_false, Bool.false_eq_true]
            · simp (disch := omega) only [m_X10_bell, in_nI 1 15 1 15 hm rfl rfl, decide_eq_true, fa_lit, nI_nm1, nm1_nI, nI_nm1l, Nat.mul_comm _ 6, Nat.mul_comm _ 60, nI_ltI, nI_leI, nI_eq, nI_add, pk_mul, pk_sub, rm_nI, pk_div, nI_clamp, gdd_true, ix_nI, bdd_some, if_pos, if_neg, rI_wI, rI_wL, rL_wI, rL_wL, rI_cI, rI_cL, rL_cI, rL_cL, false_and, and_false, true_and, and_true, if_true, if_false, not_true_eq_false, not_false_eq_true, reduceCtorEq, zb_bz, bz_t, bz_f, Bool.true_eq_false, Bool.false_eq_true]
    · refine al_.same (r := -1) hg0 ?_ ?_
      · by_cases z : m < 1
        · simp (disch := omega) only [m_X9_bell, fa_lit, nI_nm1, nm1_nI, nI_nm1l, Nat.mul_comm _ 6, Nat.mul_comm _ 60, nI_ltI, nI_leI, nI_eq, nI_add, pk_mul, pk_sub, rm_nI, pk_div, nI_clamp, gdd_true, ix_nI, bdd_some, if_pos, if_neg, rI_wI, rI_wL, rL_wI, rL_wL, rI_cI, rI_cL, rL_cI, rL_cL, false_and, and_false, true_and, and_true, if_true, if_false, not_true_eq_false, not_false_eq_true, reduceCtorEq, zb_bz, bz_t, bz_f, Bool.true_eq_false, Bool.false_eq_true]
        · simp (disch := omega) only [m_X9_bell, fa_lit, nI_nm1, nm1_nI, nI_nm1l, Nat.mul_comm _ 6, Nat.mul_comm _ 60, nI_ltI, nI_leI, nI_eq, nI_add, pk_mul, pk_sub, rm_nI, pk_div, nI_clamp, gdd_true, ix_nI, bdd_some, if_pos, if_neg, rI_wI, rI_wL, rL_wI, rL_wL, rI_cI, rI_cL, rL_cI, rL_cL, false_and, and_false, true_and, and_true, if_true, if_false, not_true_eq_false, not_false_eq_true, reduceCtorEq, zb_bz, bz_t, bz_f, Bool.true_eq_false, Bool.false_eq_true]
      · simp (disch := omega) only [m_X10_bell, in_nI 1 15 1 15 hm rfl rfl, decide_eq_false, fa_lit, nI_nm1, nm1_nI, nI_nm1l, Nat.mul_comm _ 6, Nat.mul_comm _ 60, nI_ltI, nI_leI, nI_eq, nI_add, pk_mul, pk_sub, rm_nI, pk_div, nI_clamp, gdd_true, ix_nI, bdd_some, if_pos, if_neg, rI_wI, rI_wL, rL_wI, rL_wL, rI_cI, rI_cL, rL_cI, rL_cL, false_and, and_false, true_and, and_true, if_true, if_false, not_true_eq_false, not_false_eq_true, reduceCtorEq, zb_bz, bz_t, bz_f, Bool.true_eq_false, Bool.false_eq_true]
theorem hours_in {v i : Nat} (K : Int32 → Int32 → Int32 → Mm → Option (Int32 × Mm)) (y : Int32) (hv : v ≤ i) (hi : i < 24) : ∀ (fu j : Nat) (g : Mm), 6 < j + fu → j ≤ 6 → ∃ g', m_X8_changeHours_40 K fu (nI v) y (nI i) (nI j) g = K (nI v) y (nI (i + 1)) g' ∧ (∀ c k, rdI g' c k = if c = 5 ∧ 6 * i + j ≤ k ∧ k < 6 * i + 6 then nI 0 else rdI g c k) ∧ g'.2 = g.2 := by
  intro fu
  induction fu with
  | zero => intro j g h1 h2; omega
  | succ fu ih =>
    intro j g h1 h2
    rw [m_X8_changeHours_40]
    by_cases q : j = 6
    · subst q
      refine ⟨g, ?_, fun c k => by rw [if_neg (by omega)], rfl⟩
      simp (disch := omega) only [fa_lit, nI_nm1, nm1_nI, nI_nm1l, Nat.mul_comm _ 6, Nat.mul_comm _ 60, nI_ltI, nI_leI, nI_eq, nI_add, pk_mul, pk_sub, rm_nI, pk_div, nI_clamp, gdd_true, ix_nI, bdd_some, if_pos, if_neg, rI_wI, rI_wL, rL_wI, rL_wL, rI_cI, rI_cL, rL_cI, rL_cL, false_and, and_false, true_and, and_true, if_true, if_false, not_true_eq_false, not_false_eq_true, reduceCtorEq, zb_bz, bz_t, bz_f, Bool.true_eq_false, Bool.false_eq_true]
    · obtain ⟨g', e1, e2, e3⟩ := ih (j + 1) (wrI g 5 (6 * i + j) (nI 0)) (by omega) (by omega)
      refine ⟨g', ?_, fun c k => ?_, e3⟩
      · rw [← e1]
        simp (disch := omega) only [m8_write, fa_lit, nI_nm1, nm1_nI, nI_nm1l, Nat.mul_comm _ 6, Nat.mul_comm _ 60, nI_ltI, nI_leI, nI_eq, nI_add, pk_mul, pk_sub, rm_nI, pk_div, nI_clamp, gdd_true, ix_nI, bdd_some, if_pos, if_neg, rI_wI, rI_wL, rL_wI, rL_wL, rI_cI, rI_cL, rL_cI, rL_cL, false_and, and_false, true_and, and_true, if_true, if_false, not_true_eq_false, not_false_eq_true, reduceCtorEq, zb_bz, bz_t, bz_f, Bool.true_eq_false, Bool.false_eq_true]
      · rw [e2, rI_wI]
        by_cases z : c = 5 ∧ 6 * i + j ≤ k ∧ k < 6 * i + 6
        · rw [if_pos z]
          by_cases z2 : k = 6 * i + j
          · rw [if_neg (by omega), if_pos (by omega)]
          · rw [if_pos (by omega)]
        · rw [if_neg z, if_neg (by omega), if_neg (by omega)]
theorem hours_c {v : Nat} (hv : v ≤ 24) (y : Int32) : ∀ (fu i : Nat) (g : Mm), 24 < i + fu → i ≤ 24 → ∃ g', m_X8_changeHours_8 fu (nI v) y (nI i) g = some (nI 0, wrI g' 1 1 (nI v)) ∧
    (∀ c k, rdI g' c k = if c = 6 ∧ i ≤ k ∧ k < 24 then (if v ≤ k then nI 0 else rdI g 6 k &&& y) else if c = 5 ∧ 6 * i ≤ k ∧ 6 * v ≤ k ∧ k < 144 then nI 0 else rdI g c k) ∧ g'.2 = g.2 := by
  intro fu
  induction fu with
  | zero => intro i g h1 h2; omega
  | succ fu ih =>
    intro i g h1 h2
    rw [m_X8_changeHours_8]
    by_cases q : i = 24
    · subst q
      refine ⟨g, ?_, fun c k => by rw [if_neg (by omega), if_neg (by omega)], rfl⟩
      simp (disch := omega) only [fa_lit, nI_nm1, nm1_nI, nI_nm1l, Nat.mul_comm _ 6, Nat.mul_comm _ 60, nI_ltI, nI_leI, nI_eq, nI_add, pk_mul, pk_sub, rm_nI, pk_div, nI_clamp, gdd_true, ix_nI, bdd_some, if_pos, if_neg, rI_wI, rI_wL, rL_wI, rL_wL, rI_cI, rI_cL, rL_cI, rL_cL, false_and, and_false, true_and, and_true, if_true, if_false, not_true_eq_false, not_false_eq_true, reduceCtorEq, zb_bz, bz_t, bz_f, Bool.true_eq_false, Bool.false_eq_true]
    · obtain ⟨F, eF, hF⟩ := fu_get
      by_cases z : v ≤ i
      · obtain ⟨g1, a1, a2, a3⟩ := hours_in (m_X8_changeHours_8 fu) y z (by omega) F 0 (wrI g 6 i (nI 0)) (by omega) (by omega)
        obtain ⟨g', e1, e2, e3⟩ := ih (i + 1) g1 (by omega) (by omega)
        refine ⟨g', ?_, fun c k => ?_, e3.trans a3⟩
        · rw [← e1, ← a1]
          simp (disch := omega) only [eF, fa_lit, nI_nm1, nm1_nI, nI_nm1l, Nat.mul_comm _ 6, Nat.mul_comm _ 60, nI_ltI, nI_leI, nI_eq, nI_add, pk_mul, pk_sub, rm_nI, pk_div, nI_clamp, gdd_true, ix_nI, bdd_some, if_pos, if_neg, rI_wI, rI_wL, rL_wI, rL_wL, rI_cI, rI_cL, rL_cI, rL_cL, false_and, and_false, true_and, and_true, if_true, if_false, not_true_eq_false, not_false_eq_true, reduceCtorEq, zb_bz, bz_t, bz_f, Bool.true_eq_false, Bool.false_eq_true]
        · rw [e2]
          by_cases z1 : c = 6 ∧ i ≤ k ∧ k < 24
          · rw [if_pos z1]
            by_cases z2 : k = i
            · rw [if_neg (by omega), if_neg (by omega), if_pos (by omega), a2, if_neg (by omega), rI_wI, if_pos (by omega)]
            · rw [if_pos (by omega), if_pos (by omega), if_pos (by omega)]
          · rw [if_neg z1, if_neg (by omega)]
            by_cases z2 : c = 5 ∧ 6 * i ≤ k ∧ 6 * v ≤ k ∧ k < 144
            · rw [if_pos z2]
              by_cases z3 : 6 * (i + 1) ≤ k
              · rw [if_pos (by omega)]
              · rw [if_neg (by omega), a2, if_pos (by omega)]
            · rw [if_neg z2, if_neg (by omega), a2, if_neg (by omega), rI_wI, if_neg (by omega)]
      · obtain ⟨g', e1, e2, e3⟩ := ih (i + 1) (wrI g 6 i (rdI g 6 i &&& y)) (by omega) (by omega)
        refine ⟨g', ?_, fun c k => ?_, e3⟩
        · obtain ⟨fv, rfl⟩ : ∃ fv, F = fv + 1 := ⟨F - 1, by omega⟩
          rw [← e1]
          simp (disch := omega) only [eF, m_X8_changeHours_40, fa_lit, nI_nm1, nm1_nI, nI_nm1l, Nat.mul_comm _ 6, Nat.mul_comm _ 60, nI_ltI, nI_leI, nI_eq, nI_add, pk_mul, pk_sub, rm_nI, pk_div, nI_clamp, gdd_true, ix_nI, bdd_some, if_pos, if_neg, rI_wI, rI_wL, rL_wI, rL_wL, rI_cI, rI_cL, rL_cI, rL_cL, false_and, and_false, true_and, and_true, if_true, if_false, not_true_eq_false, not_false_eq_true, reduceCtorEq, zb_bz, bz_t, bz_f, Bool.true_eq_false, Bool.false_eq_true]
        · rw [e2]
          by_cases z1 : c = 6 ∧ i ≤ k ∧ k < 24
          · rw [if_pos z1]
            by_cases z2 : k = i
            · rw [if_neg (by omega), if_neg (by omega), if_neg (by omega), rI_wI, if_pos (by omega), z2]
            · rw [if_pos (by omega), rI_wI, if_neg (show ¬ (6 = 6 ∧ k = i) by omega)]
          · rw [if_neg z1, if_neg (by omega)]
            by_cases z2 : c = 5 ∧ 6 * i ≤ k ∧ 6 * v ≤ k ∧ k < 144
            · rw [if_pos z2, if_pos (by omega)]
            · rw [if_neg z2, if_neg (by omega), rI_wI, if_neg (by omega)]
theorem hours_inM {v i : Nat} (K : Int32 → Int32 → Int32 → Mm → Option (Int32 × Mm)) (y : Int32) (hi : i < 24) : ∀ (fu j : Nat) (g : Mm), 6 < j + fu → j ≤ 6 → ∃ g', m_X10_set_102 K fu (nI v) y (nI i) (nI j) g = K (nI v) y (nI (i + 1)) g' ∧ (∀ c k, rdI g' c k = if c = 44 ∧ 6 * i + j ≤ k ∧ k < 6 * i + 6 then nI 0 else rdI g c k) ∧ g'.2 = g.2 := by
  intro fu
  induction fu with
  | zero => intro j g h1 h2; omega
  | succ fu ih =>
    intro j g h1 h2
    rw [m_X10_set_102]
    by_cases q : j = 6
    · subst q
      refine ⟨g, ?_, fun c k => by rw [if_neg (by omega)], rfl⟩
      simp (disch := omega) only [fa_lit, nI_nm1, nm1_nI, nI_nm1l, Nat.mul_comm _ 6, Nat.mul_comm _ 60, nI_ltI, nI_leI, nI_eq, nI_add, pk_mul, pk_sub, rm_nI, pk_div, nI_clamp, gdd_true, ix_nI, bdd_some, if_pos, if_neg, rI_wI, rI_wL, rL_wI, rL_wL, rI_cI, rI_cL, rL_cI, rL_cL, false_and, and_false, true_and, and_true, if_true, if_false, not_true_eq_false, not_false_eq_true, reduceCtorEq, zb_bz, bz_t, bz_f, Bool.true_eq_false, Bool.false_eq_true]
    · obtain ⟨g', e1, e2, e3⟩ := ih (j + 1) (wrI g 44 (6 * i + j) (nI 0)) (by omega) (by omega)
      refine ⟨g', ?_, fun c k => ?_, e3⟩
      · rw [← e1]
        simp (disch := omega) only [fa_lit, nI_nm1, nm1_nI, nI_nm1l, Nat.mul_comm _ 6, Nat.mul_comm _ 60, nI_ltI, nI_leI, nI_eq, nI_add, pk_mul, pk_sub, rm_nI, pk_div, nI_clamp, gdd_true, ix_nI, bdd_some, if_pos, if_neg, rI_wI, rI_wL, rL_wI, rL_wL, rI_cI, rI_cL, rL_cI, rL_cL, false_and, and_false, true_and, and_true, if_true, if_false, not_true_eq_false, not_false_eq_true, reduceCtorEq, zb_bz, bz_t, bz_f, Bool.true_eq_false, Bool.false_eq_true]
      · rw [e2, rI_wI]
        by_cases z : c = 44 ∧ 6 * i + j ≤ k ∧ k < 6 * i + 6
        · rw [if_pos z]
          by_cases z2 : k = 6 * i + j
          · rw [if_neg (by omega), if_pos (by omega)]
          · rw [if_pos (by omega)]
        · rw [if_neg z, if_neg (by omega), if_neg (by omega)]
theorem hours_m1 {v : Nat} (hv : v ≤ 24) (y : Int32) : ∀ (fu i : Nat) (g : Mm), 24 < i + fu → i ≤ 24 → ∃ g', m_X10_set_84 fu (nI v) y (nI i) g = m_X10_set_138 fuL (nI v) y (nI 0) g' ∧
    (∀ c k, rdI g' c k = if c = 45 ∧ i ≤ k ∧ k < 24 then nI 0 else if c = 44 ∧ 6 * i ≤ k ∧ k < 144 then nI 0 else rdI g c k) ∧ g'.2 = g.2 := by
  intro fu
  induction fu with
  | zero => intro i g h1 h2; omega
  | succ fu ih =>
    intro i g h1 h2
    rw [m_X10_set_84]
    by_cases q : i = 24
    · subst q
      refine ⟨g, ?_, fun c k => by rw [if_neg (by omega), if_neg (by omega)], rfl⟩
      obtain ⟨F, eF, hF⟩ := fu_get
      simp (disch := omega) only [eF, fa_lit, nI_nm1, nm1_nI, nI_nm1l, Nat.mul_comm _ 6, Nat.mul_comm _ 60, nI_ltI, nI_leI, nI_eq, nI_add, pk_mul, pk_sub, rm_nI, pk_div, nI_clamp, gdd_true, ix_nI, bdd_some, if_pos, if_neg, rI_wI, rI_wL, rL_wI, rL_wL, rI_cI, rI_cL, rL_cI, rL_cL, false_and, and_false, true_and, and_true, if_true, if_false, not_true_eq_false, not_false_eq_true, reduceCtorEq, zb_bz, bz_t, bz_f, Bool.true_eq_false, Bool.false_eq_true]
    · obtain ⟨F, eF, hF⟩ := fu_get
      obtain ⟨g1, a1, a2, a3⟩ := hours_inM (v := v) (m_X10_set_84 fu) y (show i < 24 by omega) F 0 (wrI g 45 i (nI 0)) (by omega) (by omega)
      obtain ⟨g', e1, e2, e3⟩ := ih (i + 1) g1 (by omega) (by omega)
      refine ⟨g', ?_, fun c k => ?_, e3.trans a3⟩
      · rw [← e1, ← a1]
        simp (disch := omega) only [eF, fa_lit, nI_nm1, nm1_nI, nI_nm1l, Nat.mul_comm _ 6, Nat.mul_comm _ 60, nI_ltI, nI_leI, nI_eq, nI_add, pk_mul, pk_sub, rm_nI, pk_div, nI_clamp, gdd_true, ix_nI, bdd_some, if_pos, if_neg, rI_wI, rI_wL, rL_wI, rL_wL, rI_cI, rI_cL, rL_cI, rL_cL, false_and, and_false, true_and, and_true, if_true, if_false, not_true_eq_false, not_false_eq_true, reduceCtorEq, zb_bz, bz_t, bz_f, Bool.true_eq_false, Bool.false_eq_true]
      · rw [e2]
        by_cases z1 : c = 45 ∧ i ≤ k ∧ k < 24
        · rw [if_pos z1]
          by_cases z2 : k = i
          · rw [if_neg (by omega), if_neg (by omega), a2, if_neg (by omega), rI_wI, if_pos (by omega)]
          · rw [if_pos (by omega)]
        · rw [if_neg z1, if_neg (by omega)]
          by_cases z2 : c = 44 ∧ 6 * i ≤ k ∧ k < 144
          · rw [if_pos z2]
            by_cases z3 : 6 * (i + 1) ≤ k
            · rw [if_pos (by omega)]
            · rw [if_neg (by omega), a2, if_pos (by omega)]
          · rw [if_neg z2, if_neg (by omega), a2, if_neg (by omega), rI_wI, if_neg (by omega)]
theorem hours_m2 {v : Nat} (hv : v ≤ 24) (y : Int32) : ∀ (fu i : Nat) (g : Mm), v < i + fu → i ≤ v → ∃ g', m_X10_set_138 fu (nI v) y (nI i) g = some (y, g') ∧
    (∀ c k, rdI g' c k = if c = 45 ∧ i ≤ k ∧ k < v then rdI g 45 k &&& (shlI (1 : Int32) (nI v) - 1) else rdI g c k) ∧ g'.2 = g.2 := by
  intro fu
  induction fu with
  | zero => intro i g h1 h2; omega
  | succ fu ih =>
    intro i g h1 h2
    rw [m_X10_set_138]
    by_cases q : i = v
    · subst q
      refine ⟨g, ?_, fun c k => by rw [if_neg (by omega)], rfl⟩
      simp (disch := omega) only [fa_lit, nI_nm1, nm1_nI, nI_nm1l, Nat.mul_comm _ 6, Nat.mul_comm _ 60, nI_ltI, nI_leI, nI_eq, nI_add, pk_mul, pk_sub, rm_nI, pk_div, nI_clamp, gdd_true, ix_nI, bdd_some, if_pos, if_neg, rI_wI, rI_wL, rL_wI, rL_wL, rI_cI, rI_cL, rL_cI, rL_cL, false_and, and_false, true_and, and_true, if_true, if_false, not_true_eq_false, not_false_eq_true, reduceCtorEq, zb_bz, bz_t, bz_f, Bool.true_eq_false, Bool.false_eq_true]
    · obtain ⟨g', e1, e2, e3⟩ := ih (i + 1) (wrI g 45 i (rdI g 45 i &&& (shlI (1 : Int32) (nI v) - 1))) (by omega) (by omega)
      refine ⟨g', ?_, fun c k => ?_, e3⟩
      · rw [← e1, if_neg (show ¬ nI v ≤ nI i by rw [nI_leI (by omega) (by omega)]; omega), nI_1, ix_nI (by omega) (by omega), gdd_true, gdd_true, nI_clamp (by omega)]
      · rw [e2]
        by_cases z1 : c = 45 ∧ i ≤ k ∧ k < v
        · rw [if_pos z1]
          by_cases z2 : k = i
          · rw [if_neg (by omega), rI_wI, if_pos (by omega), z2]
          · rw [if_pos (by omega), rI_wI, if_neg (by omega)]
        · rw [if_neg z1, if_neg (by omega), rI_wI, if_neg (by omega)]
theorem mask_nI {v : Nat} (hv : v ≤ 24) (k : Nat) : nI k &&& (shlI (1 : Int32) (nI v) - 1) = nI (k % 2 ^ v) := by
  have hp : 0 < 2 ^ v := Nat.two_pow_pos v
  rw [shl_1 (by omega), show nI (2 ^ v) - (1 : Int32) = nI (2 ^ v - 1) from pk_sub (b := 1) hp, nI_and, Nat.and_two_pow_sub_one_eq_mod]
set_option maxHeartbeats 1000000 in
theorem op_set (a0 a1 : Int32) {g : Mm} (hg : gv_ g) : al_ (m_X9_set a0 a1) (m_X10_set a0 a1) g := by
  have hg0 := hg
  obtain ⟨nb, nh, hd, cd, ck, tl, rt, nn, na, ra, f, hT, hX, hC, hP, hL, hE, hA, hS⟩ := hg
  obtain ⟨⟨b1, b2, b3, b4, b5⟩, ⟨t1, t2, t3, t4, t5, t6⟩, t7, t8, t9, t10⟩ := id hT
  rcases i_cases a0 with h | ⟨w, hw, rfl⟩
  · refine al_.same (r := -1) hg0 ?_ ?_
    · have hn : ∀ n : Nat, n < 2 ^ 31 → ¬ a0 = nI n := fun n hn q => by rw [q, nI_toInt hn] at h; omega
      rw [m_X9_set, if_neg (show ¬ a0 = 0 from hn 0 (by decide)), m_X9_set_40, if_neg (show ¬ a0 = 1 from hn 1 (by decide))]
    · rw [m_X10_set, in_neg h (by decide), bdd_some, if_pos (show bz false = 0 from rfl)]
  · by_cases hw0 : w = 0
    · subst hw0
      rcases i_cases a1 with h | ⟨v, hv, rfl⟩
      · refine al_.same (r := -1) hg0 ?_ ?_
        · rw [m_X9_set, if_pos (show nI 0 = 0 from rfl), if_pos (show a1 < (2 : Int32) from neg_lt (k := 2) h (by decide)), m_X9_set_40, if_neg (show ¬ nI 0 = 1 by decide)]
        · rw [m_X10_set, in_nI 0 1 0 1 hw rfl rfl, bdd_some, if_neg (show ¬ bz (decide (0 ≤ 0 ∧ 0 ≤ 1)) = 0 by decide), if_pos (show nI 0 = 0 from rfl), m_X10_set_23, if_pos (show nI 0 = 0 from rfl), m_X10_set_36, in_neg h (by decide), bdd_some, if_pos (show bz false = 0 from rfl)]
      · by_cases hr : 2 ≤ v ∧ v ≤ 24
        · obtain ⟨F, eF, hF⟩ := fu_get
          obtain ⟨gA, p1, p2, p3⟩ := hours_c hr.2 (shlI (1 : Int32) (nI v) - 1) F 0 g (by omega) (by omega)
          have kA : ∀ x j, x ≠ 5 → x ≠ 6 → x ≠ 1 → x ≠ 7 → rdI (wrI (wrI (wrI gA 1 1 (nI v)) 7 3 (nI 0)) 7 4 (nI 0)) x j = rdI g x j := fun x j q1 q2 q3 q4 => by
            rw [rI_wI, if_neg (by omega), rI_wI, if_neg (by omega), rI_wI, if_neg (by omega), p2, if_neg (by omega), if_neg (by omega)]
          obtain ⟨gB, o1, o2, o3⟩ := hours_m1 hr.2 (nI nh) F v (wrI (wrI (wrI (wrI (wrI (wrI gA 1 1 (nI v)) 7 3 (nI 0)) 7 4 (nI 0)) 40 12 (nI 0)) 40 13 (nI 0)) 40 5 (nI v)) (by omega) (by omega)
          obtain ⟨gC, r1, r2, r3⟩ := hours_m2 hr.2 (nI nh) F 0 gB (by omega) (by omega)
          have hmm : ∀ c k, rdI gC c k = if (c = 6 ∨ c = 45) ∧ k < 24 then (if v ≤ k then nI 0 else rdI g 6 k &&& (shlI (1 : Int32) (nI v) - 1)) else if (c = 5 ∨ c = 44) ∧ 6 * v ≤ k ∧ k < 144 then nI 0 else if (c = 1 ∧ k = 1) ∨ (c = 40 ∧ k = 5) then nI v else if (c = 7 ∧ (k = 3 ∨ k = 4)) ∨ (c = 40 ∧ (k = 12 ∨ k = 13)) then nI 0 else rdI g c k := by
            intro c k
            have base : rdI (wrI (wrI (wrI (wrI (wrI (wrI gA 1 1 (nI v)) 7 3 (nI 0)) 7 4 (nI 0)) 40 12 (nI 0)) 40 13 (nI 0)) 40 5 (nI v)) c k = if c = 6 ∧ k < 24 then (if v ≤ k then nI 0 else rdI g 6 k &&& (shlI (1 : Int32) (nI v) - 1)) else if c = 5 ∧ 6 * v ≤ k ∧ k < 144 then nI 0 else if (c = 1 ∧ k = 1) ∨ (c = 40 ∧ k = 5) then nI v else if (c = 7 ∧ (k = 3 ∨ k = 4)) ∨ (c = 40 ∧ (k = 12 ∨ k = 13)) then nI 0 else rdI g c k := by
              rw [rI_wI]
              by_cases y1 : c = 40 ∧ k = 5
              · rw [if_pos y1, if_neg (by omega), if_neg (by omega), if_pos (by omega)]
              · rw [if_neg y1, rI_wI]
                by_cases y2 : c = 40 ∧ k = 13
                · rw [if_pos y2, if_neg (by omega), if_neg (by omega), if_neg (by omega), if_pos (by omega)]
                · rw [if_neg y2, rI_wI]
                  by_cases y3 : c = 40 ∧ k = 12
                  · rw [if_pos y3, if_neg (by omega), if_neg (by omega), if_neg (by omega), if_pos (by omega)]
                  · rw [if_neg y3, rI_wI]
                    by_cases y4 : c = 7 ∧ k = 4
                    · rw [if_pos y4, if_neg (by omega), if_neg (by omega), if_neg (by omega), if_pos (by omega)]
                    · rw [if_neg y4, rI_wI]
                      by_cases y5 : c = 7 ∧ k = 3
                      · rw [if_pos y5, if_neg (by omega), if_neg (by omega), if_neg (by omega), if_pos (by omega)]
                      · rw [if_neg y5, rI_wI]
                        by_cases y6 : c = 1 ∧ k = 1
                        · rw [if_pos y6, if_neg (by omega), if_neg (by omega), if_pos (by omega)]
                        · rw [if_neg y6, p2]
                          by_cases y7 : c = 6 ∧ k < 24
                          · rw [if_pos (by omega), if_pos y7]
                          · rw [if_neg (by omega), if_neg y7]
                            by_cases y8 : c = 5 ∧ 6 * v ≤ k ∧ k < 144
                            · rw [if_pos (by omega), if_pos y8]
                            · rw [if_neg (by omega), if_neg y8, if_neg (by omega), if_neg (by omega)]
            rw [r2]
            by_cases y1 : c = 45 ∧ 0 ≤ k ∧ k < v
            · rw [if_pos y1, if_pos (by omega), if_neg (by omega), o2, if_neg (by omega), if_neg (by omega), rI_wI, if_neg (by omega), rI_wI, if_neg (by omega), rI_wI, if_neg (by omega), kA _ _ (by omega) (by omega) (by omega) (by omega), hX.1 k (by omega)]
            · rw [if_neg y1, o2]
              by_cases y2 : c = 45 ∧ v ≤ k ∧ k < 24
              · rw [if_pos y2, if_pos (by omega), if_pos (by omega)]
              · rw [if_neg y2]
                by_cases y3 : c = 44 ∧ 6 * v ≤ k ∧ k < 144
                · rw [if_pos y3, if_neg (by omega), if_pos (by omega)]
                · rw [if_neg y3, base]
                  by_cases y4 : c = 6 ∧ k < 24
                  · rw [if_pos y4, if_pos (show (c = 6 ∨ c = 45) ∧ k < 24 by omega)]
                  · rw [if_neg y4, if_neg (show ¬ ((c = 6 ∨ c = 45) ∧ k < 24) by omega)]
                    by_cases y5 : c = 5 ∧ 6 * v ≤ k ∧ k < 144
                    · rw [if_pos y5, if_pos (by omega)]
                    · rw [if_neg y5, if_neg (show ¬ ((c = 5 ∨ c = 44) ∧ 6 * v ≤ k ∧ k < 144) by omega)]
          have hL2 : gC.2 = g.2 := by
            rw [r3, o3]
            exact p3
          have ro : ∀ c k, c ≠ 6 → c ≠ 45 → c ≠ 5 → c ≠ 44 → ¬ (c = 1 ∧ k = 1) → ¬ (c = 40 ∧ k = 5) → ¬ ((c = 7 ∧ (k = 3 ∨ k = 4)) ∨ (c = 40 ∧ (k = 12 ∨ k = 13))) → rdI gC c k = rdI g c k := fun c k q1 q2 q3 q4 q5 q6 q7 => by
            rw [hmm, if_neg (by omega), if_neg (by omega), if_neg (by omega), if_neg q7]
          refine ⟨nI nh, wrI (wrI (wrI gA 1 1 (nI v)) 7 3 (nI 0)) 7 4 (nI 0), gC, ?_, ?_, ?_⟩
          · simp (disch := omega) only [m_X9_set, m_X8_changeHours, eF, fa_lit, nI_nm1, nm1_nI, nI_nm1l, Nat.mul_comm _ 6, Nat.mul_comm _ 60, nI_ltI, nI_leI, nI_eq, nI_add, pk_mul, pk_sub, rm_nI, pk_div, nI_clamp, gdd_true, ix_nI, bdd_some, if_pos, if_neg, rI_wI, rI_wL, rL_wI, rL_wL, rI_cI, rI_cL, rL_cI, rL_cL, false_and, and_false, true_and, and_true, if_true, if_false, not_true_eq_false, not_false_eq_true, reduceCtorEq, zb_bz, bz_t, bz_f, Bool.true_eq_false, Bool.false_eq_true]
            rw [show shlI (nI 1) (nI v) - nI 1 = shlI (1 : Int32) (nI v) - 1 from rfl, p1, bdd_some]
            simp (disch := omega) only [m_X1_forgetAll, t2, fa_lit, nI_nm1, nm1_nI, nI_nm1l, Nat.mul_comm _ 6, Nat.mul_comm _ 60, nI_ltI, nI_leI, nI_eq, nI_add, pk_mul, pk_sub, rm_nI, pk_div, nI_clamp, gdd_true, ix_nI, bdd_some, if_pos, if_neg, rI_wI, rI_wL, rL_wI, rL_wL, rI_cI, rI_cL, rL_cI, rL_cL, false_and, and_false, true_and, and_true, if_true, if_false, not_true_eq_false, not_false_eq_true, reduceCtorEq, zb_bz, bz_t, bz_f, Bool.true_eq_false, Bool.false_eq_true]
          · have t5A : rdI (wrI (wrI (wrI gA 1 1 (nI v)) 7 3 (nI 0)) 7 4 (nI 0)) 40 5 = nI nh := by rw [kA _ _ (by omega) (by omega) (by omega) (by omega), t5]
            generalize wrI (wrI (wrI gA 1 1 (nI v)) 7 3 (nI 0)) 7 4 (nI 0) = g1 at *
            rw [m_X10_set, in_nI 0 1 0 1 hw rfl rfl, bdd_some, if_neg (show ¬ bz (decide (0 ≤ 0 ∧ 0 ≤ 1)) = 0 by decide), if_pos (show nI 0 = 0 from rfl), m_X10_set_23, if_pos (show nI 0 = 0 from rfl), m_X10_set_36, in_nI 2 24 2 24 hv rfl rfl, decide_eq_true hr, bdd_some, if_neg (show ¬ bz true = 0 by decide), if_pos (show nI 0 = 0 from rfl), t5A, m_X10_set_59, if_neg (show ¬ nI 0 = 1 by decide), m_X10_forgets, bdd_some, eF]
            rw [eF] at o1
            exact o1.trans r1
          · refine gv_fin (nb' := nb) (nh' := v) (hd' := hd) (cd := 0) (ck := 0) hP hL hE hA hS (Nat.le_refl _) ?_ ?_ ?_ ?_ hL2
            · refine ⟨⟨b1, hr.1, hr.2, b4, b5⟩, ⟨?_, ?_, ?_, ?_, ?_, ?_⟩, fun b hb => ?_, fun b hb => ?_, fun k hk => ?_, fun x b hx hb q => ?_⟩
              · rw [ro _ _ (by omega) (by omega) (by omega) (by omega) (by omega) (by omega) (by omega)]; exact t1
              · rw [hmm, if_neg (by omega), if_neg (by omega), if_pos (by omega)]
              · rw [ro _ _ (by omega) (by omega) (by omega) (by omega) (by omega) (by omega) (by omega)]; exact t3
              · rw [ro _ _ (by omega) (by omega) (by omega) (by omega) (by omega) (by omega) (by omega)]; exact t4
              · rw [hmm, if_neg (by omega), if_neg (by omega), if_pos (by omega)]
              · rw [ro _ _ (by omega) (by omega) (by omega) (by omega) (by omega) (by omega) (by omega)]; exact t6
              · rw [ro 41 _ (by omega) (by omega) (by omega) (by omega) (by omega) (by omega) (by omega), ro 42 _ (by omega) (by omega) (by omega) (by omega) (by omega) (by omega) (by omega), ro 43 _ (by omega) (by omega) (by omega) (by omega) (by omega) (by omega) (by omega), ro 2 _ (by omega) (by omega) (by omega) (by omega) (by omega) (by omega) (by omega), ro 3 _ (by omega) (by omega) (by omega) (by omega) (by omega) (by omega) (by omega), ro 4 _ (by omega) (by omega) (by omega) (by omega) (by omega) (by omega) (by omega)]
                exact t7 b hb
              · rw [ro 2 _ (by omega) (by omega) (by omega) (by omega) (by omega) (by omega) (by omega), ro 3 _ (by omega) (by omega) (by omega) (by omega) (by omega) (by omega) (by omega), ro 4 _ (by omega) (by omega) (by omega) (by omega) (by omega) (by omega) (by omega)]
                exact t8 b hb
              · have e44 : rdI gC 44 k = if 6 * v ≤ k then nI 0 else rdI g 44 k := by
                  rw [hmm, if_neg (by omega)]
                  by_cases q : 6 * v ≤ k
                  · rw [if_pos (by omega), if_pos q]
                  · rw [if_neg (by omega), if_neg (by omega), if_neg (by omega), if_neg q]
                have e5 : rdI gC 5 k = if 6 * v ≤ k then nI 0 else rdI g 5 k := by
                  rw [hmm, if_neg (by omega)]
                  by_cases q : 6 * v ≤ k
                  · rw [if_pos (by omega), if_pos q]
                  · rw [if_neg (by omega), if_neg (by omega), if_neg (by omega), if_neg q]
                rw [e44, e5]
                by_cases q : 6 * v ≤ k
                · rw [if_pos q, if_pos q]
                  exact ⟨rfl, 0, by omega, rfl⟩
                · rw [if_neg q, if_neg q]
                  exact t9 k hk
              · rw [hmm 5, if_neg (by omega)]
                by_cases q2 : 6 * v ≤ 6 * x + b
                · rw [if_pos (by omega)]
                · rw [if_neg (by omega), if_neg (by omega), if_neg (by omega)]
                  exact t10 x b hx hb (by omega)
            · obtain ⟨x1, x2, x3⟩ := id hX
              have row : ∀ h, h < 24 → ∃ m, m < 2 ^ 24 ∧ rdI g 6 h = nI m := fun h hh => by
                obtain ⟨m, hm, em, -⟩ := x2 h hh
                exact ⟨m, nI_lt2 hm b3, em⟩
              have bit : ∀ i j, i < 24 → j < 24 → mx_ gC i j = (decide (i < v) && (decide (j < v) && mx_ g i j)) := by
                intro i j hi hj
                obtain ⟨m, hm, em⟩ := row i hi
                rw [mx_, hmm, if_pos (by omega), mx_, em, nI_clamp (by omega)]
                by_cases q : v ≤ i
                · rw [if_pos q, decide_eq_false (by omega), Bool.false_and, nI_clamp (by omega), Nat.zero_testBit]
                · have hlt : m % 2 ^ v < 2 ^ 31 := Nat.lt_of_le_of_lt (Nat.mod_le _ _) (by omega)
                  rw [if_neg q, decide_eq_true (by omega), Bool.true_and, mask_nI hr.2, nI_clamp hlt, Nat.testBit_mod_two_pow]
              refine ⟨fun h hh => ?_, fun h hh => ?_, fun i j hi hj => ?_⟩
              · rw [hmm 45, if_pos (by omega), hmm 6, if_pos (show (6 = 6 ∨ 6 = 45) ∧ h < 24 by omega)]
              · rw [hmm 6, if_pos (by omega)]
                by_cases q : v ≤ h
                · rw [if_pos q]
                  exact ⟨0, Nat.two_pow_pos v, rfl, fun _ => rfl⟩
                · obtain ⟨m, hm, em⟩ := row h hh
                  rw [if_neg q, em, mask_nI hr.2]
                  exact ⟨_, Nat.mod_lt _ (Nat.two_pow_pos v), rfl, fun z => absurd z q⟩
              · rw [bit i j hi hj, bit j i hj hi, x3 i j hi hj]
                cases decide (i < v) <;> cases decide (j < v) <;> rfl
            · refine ⟨⟨Nat.le_refl _, by omega⟩, ⟨?_, ?_, ?_, ?_⟩, fun k hk => by omega⟩
              · rw [hmm, if_neg (by omega), if_neg (by omega), if_neg (by omega), if_pos (by omega)]
              · rw [hmm, if_neg (by omega), if_neg (by omega), if_neg (by omega), if_pos (by omega)]
              · rw [hmm, if_neg (by omega), if_neg (by omega), if_neg (by omega), if_pos (by omega)]
              · rw [hmm, if_neg (by omega), if_neg (by omega), if_neg (by omega), if_pos (by omega)]
            · intro c i q1 q2 q3
              simp only [pl_t, pl_x, pl_c, Bool.or_eq_false_iff, Bool.and_eq_false_iff, beq_eq_false_iff_ne] at q1 q2 q3
              exact ro c i (by omega) (by omega) (by omega) (by omega) (by omega) (by omega) (by omega)
        · refine al_.same (r := -1) hg0 ?_ ?_
          · by_cases z : v < 2
            · simp (disch := omega) only [m_X9_set, m_X9_set_40, fa_lit, nI_nm1, nm1_nI, nI_nm1l, Nat.mul_comm _ 6, Nat.mul_comm _ 60, nI_ltI, nI_leI, nI_eq, nI_add, pk_mul, pk_sub, rm_nI, pk_div, nI_clamp, gdd_true, ix_nI, bdd_some, if_pos, if_neg, rI_wI, rI_wL, rL_wI, rL_wL, rI_cI, rI_cL, rL_cI, rL_cL, false_and, and_false, true_and, and_true, if_true, if_false, not_true_eq_false, not_false_eq_true, reduceCtorEq, zb_bz, bz_t, bz_f, Bool.true_eq_false, Bool.false_eq_true]
            · simp (disch := omega) only [m_X9_set, m_X9_set_40, fa_lit, nI_nm1, nm1_nI, nI_nm1l, Nat.mul_comm _ 6, Nat.mul_comm _ 60, nI_ltI, nI_leI, nI_eq, nI_add, pk_mul, pk_sub, rm_nI, pk_div, nI_clamp, gdd_true, ix_nI, bdd_some, if_pos, if_neg, rI_wI, rI_wL, rL_wI, rL_wL, rI_cI, rI_cL, rL_cI, rL_cL, false_and, and_false, true_and, and_true, if_true, if_false, not_true_eq_false, not_false_eq_true, reduceCtorEq, zb_bz, bz_t, bz_f, Bool.true_eq_false, Bool.false_eq_true]
          · rw [m_X10_set, in_nI 0 1 0 1 hw rfl rfl, bdd_some, if_neg (show ¬ bz (decide (0 ≤ 0 ∧ 0 ≤ 1)) = 0 by decide), if_pos (show nI 0 = 0 from rfl), m_X10_set_23, if_pos (show nI 0 = 0 from rfl), m_X10_set_36, in_nI 2 24 2 24 hv rfl rfl, decide_eq_false hr, bdd_some, if_pos (show bz false = 0 from rfl)]
    · by_cases hw1 : w = 1
      · subst hw1
        rcases i_cases a1 with h | ⟨v, hv, rfl⟩
        · refine al_.same (r := -1) hg0 ?_ ?_
          · rw [m_X9_set, if_neg (show ¬ nI 1 = 0 by decide), m_X9_set_40, if_pos (show nI 1 = 1 from rfl), if_pos (show a1 < (1 : Int32) from neg_lt (k := 1) h (by decide))]
          · rw [m_X10_set, in_nI 0 1 0 1 hw rfl rfl, bdd_some, if_neg (show ¬ bz (decide (0 ≤ 1 ∧ 1 ≤ 1)) = 0 by decide), if_neg (show ¬ nI 1 = 0 by decide), m_X10_set_23, if_neg (show ¬ nI 1 = 0 by decide), m_X10_set_36, in_neg h (by decide), bdd_some, if_pos (show bz false = 0 from rfl)]
        · by_cases hr : 1 ≤ v ∧ v ≤ 6
          · refine ⟨nI hd, wrI g 1 2 (nI v), wrI (wrI g 1 2 (nI v)) 40 6 (nI v), ?_, ?_, nb, nh, v, cd, ck, tl, rt, nn, na, ra, f, ?_, hX.cong (kp_w rfl (kp_w rfl kp_rf)), hC.cong (kp_w rfl (kp_w rfl kp_rf)), hP.cong (kp_w rfl (kp_w rfl kp_rf)), ?_, hE.cong (kp_w rfl (kp_w rfl kp_rf)), hA.cong (kp_w rfl (kp_w rfl kp_rf)), hS.cong (kp_w rfl (kp_w rfl kp_rf)) (fun i => ⟨rfl, rfl⟩)⟩
            · simp (disch := omega) only [m_X9_set, m_X9_set_40, t3, fa_lit, nI_nm1, nm1_nI, nI_nm1l, Nat.mul_comm _ 6, Nat.mul_comm _ 60, nI_ltI, nI_leI, nI_eq, nI_add, pk_mul, pk_sub, rm_nI, pk_div, nI_clamp, gdd_true, ix_nI, bdd_some, if_pos, if_neg, rI_wI, rI_wL, rL_wI, rL_wL, rI_cI, rI_cL, rL_cI, rL_cL, false_and, and_false, true_and, and_true, if_true, if_false, not_true_eq_false, not_false_eq_true, reduceCtorEq, zb_bz, bz_t, bz_f, Bool.true_eq_false, Bool.false_eq_true]
            · rw [m_X10_set, in_nI 0 1 0 1 hw rfl rfl, bdd_some, if_neg (show ¬ bz (decide (0 ≤ 1 ∧ 1 ≤ 1)) = 0 by decide), if_neg (show ¬ nI 1 = 0 by decide), m_X10_set_23, if_neg (show ¬ nI 1 = 0 by decide), m_X10_set_36, in_nI 1 6 1 6 hv rfl rfl, decide_eq_true hr, bdd_some, if_neg (show ¬ bz true = 0 by decide), if_neg (show ¬ nI 1 = 0 by decide), m_X10_set_59, if_pos (show nI 1 = 1 from rfl), rI_wI, if_neg (by omega), t6]
            · refine ⟨⟨b1, b2, b3, hr.1, hr.2⟩, ⟨?_, ?_, ?_, ?_, ?_, ?_⟩, fun b hb => ?_, fun b hb => ?_, fun k hk => ?_, fun x b hx hb q => ?_⟩
              · simp (disch := omega) only [t1, fa_lit, nI_nm1, nm1_nI, nI_nm1l, Nat.mul_comm _ 6, Nat.mul_comm _ 60, nI_ltI, nI_leI, nI_eq, nI_add, pk_mul, pk_sub, rm_nI, pk_div, nI_clamp, gdd_true, ix_nI, bdd_some, if_pos, if_neg, rI_wI, rI_wL, rL_wI, rL_wL, rI_cI, rI_cL, rL_cI, rL_cL, false_and, and_false, true_and, and_true, if_true, if_false, not_true_eq_false, not_false_eq_true, reduceCtorEq, zb_bz, bz_t, bz_f, Bool.true_eq_false, Bool.false_eq_true]
              · simp (disch := omega) only [t2, fa_lit, nI_nm1, nm1_nI, nI_nm1l, Nat.mul_comm _ 6, Nat.mul_comm _ 60, nI_ltI, nI_leI, nI_eq, nI_add, pk_mul, pk_sub, rm_nI, pk_div, nI_clamp, gdd_true, ix_nI, bdd_some, if_pos, if_neg, rI_wI, rI_wL, rL_wI, rL_wL, rI_cI, rI_cL, rL_cI, rL_cL, false_and, and_false, true_and, and_true, if_true, if_false, not_true_eq_false, not_false_eq_true, reduceCtorEq, zb_bz, bz_t, bz_f, Bool.true_eq_false, Bool.false_eq_true]
              · simp (disch := omega) only [fa_lit, nI_nm1, nm1_nI, nI_nm1l, Nat.mul_comm _ 6, Nat.mul_comm _ 60, nI_ltI, nI_leI, nI_eq, nI_add, pk_mul, pk_sub, rm_nI, pk_div, nI_clamp, gdd_true, ix_nI, bdd_some, if_pos, if_neg, rI_wI, rI_wL, rL_wI, rL_wL, rI_cI, rI_cL, rL_cI, rL_cL, false_and, and_false, true_and, and_true, if_true, if_false, not_true_eq_false, not_false_eq_true, reduceCtorEq, zb_bz, bz_t, bz_f, Bool.true_eq_false, Bool.false_eq_true]
              · simp (disch := omega) only [t4, fa_lit, nI_nm1, nm1_nI, nI_nm1l, Nat.mul_comm _ 6, Nat.mul_comm _ 60, nI_ltI, nI_leI, nI_eq, nI_add, pk_mul, pk_sub, rm_nI, pk_div, nI_clamp, gdd_true, ix_nI, bdd_some, if_pos, if_neg, rI_wI, rI_wL, rL_wI, rL_wL, rI_cI, rI_cL, rL_cI, rL_cL, false_and, and_false, true_and, and_true, if_true, if_false, not_true_eq_false, not_false_eq_true, reduceCtorEq, zb_bz, bz_t, bz_f, Bool.true_eq_false, Bool.false_eq_true]
              · simp (disch := omega) only [t5, fa_lit, nI_nm1, nm1_nI, nI_nm1l, Nat.mul_comm _ 6, Nat.mul_comm _ 60, nI_ltI, nI_leI, nI_eq, nI_add, pk_mul, pk_sub, rm_nI, pk_div, nI_clamp, gdd_true, ix_nI, bdd_some, if_pos, if_neg, rI_wI, rI_wL, rL_wI, rL_wL, rI_cI, rI_cL, rL_cI, rL_cL, false_and, and_false, true_and, and_true, if_true, if_false, not_true_eq_false, not_false_eq_true, reduceCtorEq, zb_bz, bz_t, bz_f, Bool.true_eq_false, Bool.false_eq_true]
              · simp (disch := omega) only [fa_lit, nI_nm1, nm1_nI, nI_nm1l, Nat.mul_comm _ 6, Nat.mul_comm _ 60, nI_ltI, nI_leI, nI_eq, nI_add, pk_mul, pk_sub, rm_nI, pk_div, nI_clamp, gdd_true, ix_nI, bdd_some, if_pos, if_neg, rI_wI, rI_wL, rL_wI, rL_wL, rI_cI, rI_cL, rL_cI, rL_cL, false_and, and_false, true_and, and_true, if_true, if_false, not_true_eq_false, not_false_eq_true, reduceCtorEq, zb_bz, bz_t, bz_f, Bool.true_eq_false, Bool.false_eq_true]
              · simp (disch := omega) only [fa_lit, nI_nm1, nm1_nI, nI_nm1l, Nat.mul_comm _ 6, Nat.mul_comm _ 60, nI_ltI, nI_leI, nI_eq, nI_add, pk_mul, pk_sub, rm_nI, pk_div, nI_clamp, gdd_true, ix_nI, bdd_some, if_pos, if_neg, rI_wI, rI_wL, rL_wI, rL_wL, rI_cI, rI_cL, rL_cI, rL_cL, false_and, and_false, true_and, and_true, if_true, if_false, not_true_eq_false, not_false_eq_true, reduceCtorEq, zb_bz, bz_t, bz_f, Bool.true_eq_false, Bool.false_eq_true]
                exact t7 b hb
              · simp (disch := omega) only [fa_lit, nI_nm1, nm1_nI, nI_nm1l, Nat.mul_comm _ 6, Nat.mul_comm _ 60, nI_ltI, nI_leI, nI_eq, nI_add, pk_mul, pk_sub, rm_nI, pk_div, nI_clamp, gdd_true, ix_nI, bdd_some, if_pos, if_neg, rI_wI, rI_wL, rL_wI, rL_wL, rI_cI, rI_cL, rL_cI, rL_cL, false_and, and_false, true_and, and_true, if_true, if_false, not_true_eq_false, not_false_eq_true, reduceCtorEq, zb_bz, bz_t, bz_f, Bool.true_eq_false, Bool.false_eq_true]
                exact t8 b hb
              · simp (disch := omega) only [fa_lit, nI_nm1, nm1_nI, nI_nm1l, Nat.mul_comm _ 6, Nat.mul_comm _ 60, nI_ltI, nI_leI, nI_eq, nI_add, pk_mul, pk_sub, rm_nI, pk_div, nI_clamp, gdd_true, ix_nI, bdd_some, if_pos, if_neg, rI_wI, rI_wL, rL_wI, rL_wL, rI_cI, rI_cL, rL_cI, rL_cL, false_and, and_false, true_and, and_true, if_true, if_false, not_true_eq_false, not_false_eq_true, reduceCtorEq, zb_bz, bz_t, bz_f, Bool.true_eq_false, Bool.false_eq_true]
                exact t9 k hk
              · simp (disch := omega) only [fa_lit, nI_nm1, nm1_nI, nI_nm1l, Nat.mul_comm _ 6, Nat.mul_comm _ 60, nI_ltI, nI_leI, nI_eq, nI_add, pk_mul, pk_sub, rm_nI, pk_div, nI_clamp, gdd_true, ix_nI, bdd_some, if_pos, if_neg, rI_wI, rI_wL, rL_wI, rL_wL, rI_cI, rI_cL, rL_cI, rL_cL, false_and, and_false, true_and, and_true, if_true, if_false, not_true_eq_false, not_false_eq_true, reduceCtorEq, zb_bz, bz_t, bz_f, Bool.true_eq_false, Bool.false_eq_true]
                exact t10 x b hx hb q
            · refine hL.cong ?_
              rcases hL.1 with ⟨rfl, -⟩ | ⟨rfl, -⟩ <;> exact (kp_w rfl (kp_w rfl kp_rf))
          · refine al_.same (r := -1) hg0 ?_ ?_
            · by_cases z : v < 1
              · simp (disch := omega) only [m_X9_set, m_X9_set_40, fa_lit, nI_nm1, nm1_nI, nI_nm1l, Nat.mul_comm _ 6, Nat.mul_comm _ 60, nI_ltI, nI_leI, nI_eq, nI_add, pk_mul, pk_sub, rm_nI, pk_div, nI_clamp, gdd_true, ix_nI, bdd_some, if_pos, if_neg, rI_wI, rI_wL, rL_wI, rL_wL, rI_cI, rI_cL, rL_cI, rL_cL, false_and, and_false, true_and, and_true, if_true, if_false, not_true_eq_false, not_false_eq_true, reduceCtorEq, zb_bz, bz_t, bz_f, Bool.true_eq_false, Bool.false_eq_true]
              · simp (disch := omega) only [m_X9_set, m_X9_set_40, fa_lit, nI_nm1, nm1_nI, nI_nm1l, Nat.mul_comm _ 6, Nat.mul_comm _ 60, nI_ltI, nI_leI, nI_eq, nI_add, pk_mul, pk_sub, rm_nI, pk_div, nI_clamp, gdd_true, ix_nI, bdd_some, if_pos, if_neg, rI_wI, rI_wL, rL_wI, rL_wL, rI_cI, rI_cL, rL_cI, rL_cL, false_and, and_false, true_and, and_true, if_true, if_false, not_true_eq_false, not_false_eq_true, reduceCtorEq, zb_bz, bz_t, bz_f, Bool.true_eq_false, Bool.false_eq_true]
            · rw [m_X10_set, in_nI 0 1 0 1 hw rfl rfl, bdd_some, if_neg (show ¬ bz (decide (0 ≤ 1 ∧ 1 ≤ 1)) = 0 by decide), if_neg (show ¬ nI 1 = 0 by decide), m_X10_set_23, if_neg (show ¬ nI 1 = 0 by decide), m_X10_set_36, in_nI 1 6 1 6 hv rfl rfl, decide_eq_false hr, bdd_some, if_pos (show bz false = 0 from rfl)]
      · refine al_.same (r := -1) hg0 ?_ ?_
        · simp (disch := omega) only [m_X9_set, m_X9_set_40, fa_lit, nI_nm1, nm1_nI, nI_nm1l, Nat.mul_comm _ 6, Nat.mul_comm _ 60, nI_ltI, nI_leI, nI_eq, nI_add, pk_mul, pk_sub, rm_nI, pk_div, nI_clamp, gdd_true, ix_nI, bdd_some, if_pos, if_neg, rI_wI, rI_wL, rL_wI, rL_wL, rI_cI, rI_cL, rL_cI, rL_cL, false_and, and_false, true_and, and_true, if_true, if_false, not_true_eq_false, not_false_eq_true, reduceCtorEq, zb_bz, bz_t, bz_f, Bool.true_eq_false, Bool.false_eq_true]
        · simp (disch := omega) only [m_X10_set, in_nI 0 1 0 1 hw rfl rfl, decide_eq_false, fa_lit, nI_nm1, nm1_nI, nI_nm1l, Nat.mul_comm _ 6, Nat.mul_comm _ 60, nI_ltI, nI_leI, nI_eq, nI_add, pk_mul, pk_sub, rm_nI, pk_div, nI_clamp, gdd_true, ix_nI, bdd_some, if_pos, if_neg, rI_wI, rI_wL, rL_wI, rL_wL, rI_cI, rI_cL, rL_cI, rL_cL, false_and, and_false, true_and, and_true, if_true, if_false, not_true_eq_false, not_false_eq_true, reduceCtorEq, zb_bz, bz_t, bz_f, Bool.true_eq_false, Bool.false_eq_true]
