/-! sum -/
theorem sum_loop {nh b d e M : Nat} {D E : Nat → Nat} (hh : nh ≤ 24) (hb : b < 6) (hd : d < 6) (he : e < 6) (hbd : d ≠ b) (hbe : e ≠ b) (hM : M ≤ 15) (hD : ∀ h, h < nh → D h ≤ 15) (hE : ∀ h, h < nh → E h ≤ 15) : ∀ (fu i : Nat) (g : Mm), nh < i + fu → i ≤ nh → rdI g 1 1 = nI nh → rdI g 2 b = nI M → (∀ h, h < nh → rdI g 5 (6 * h + d) = nI (D h) ∧ rdI g 5 (6 * h + e) = nI (E h)) →
    ∃ g', m_X9_sum_73 fu (nI b) (nI d) (nI e) (nI i) g = m_X9_sum_73 1 (nI b) (nI d) (nI e) (nI nh) g' ∧ (∀ x j, rdI g' x j = if x = 5 ∧ j % 6 = b ∧ i ≤ j / 6 ∧ j / 6 < nh then nI ((D (j / 6) + E (j / 6)) % (M + 1)) else rdI g x j) ∧ g'.2 = g.2 := by
  intro fu
  induction fu with
  | zero => intro i g h1 h2; omega
  | succ fu ih =>
    intro i g h1 h2 t2 tM hC
    by_cases q : i = nh
    · subst q
      refine ⟨g, ?_, fun x j => by rw [if_neg (by omega)], rfl⟩
      simp (disch := omega) only [m_X9_sum_73, t2, fa_lit, nI_nm1, nm1_nI, nI_nm1l, Nat.mul_comm _ 6, Nat.mul_comm _ 60, nI_ltI, nI_leI, nI_eq, nI_add, pk_mul, pk_sub, rm_nI, pk_div, nI_clamp, gdd_true, ix_nI, bdd_some, if_pos, if_neg, rI_wI, rI_wL, rL_wI, rL_wL, rI_cI, rI_cL, rL_cI, rL_cL, false_and, and_false, true_and, and_true, if_true, if_false, not_true_eq_false, not_false_eq_true, reduceCtorEq, zb_bz, bz_t, bz_f, Bool.true_eq_false, Bool.false_eq_true]
    · obtain ⟨g', e1, e2, e3⟩ := ih (i + 1) (wrI g 5 (6 * i + b) (nI ((D i + E i) % (M + 1)))) (by omega) (by omega) (by rw [rI_wI, if_neg (by omega), t2]) (by rw [rI_wI, if_neg (by omega), tM]) (fun h hh => by rw [rI_wI, if_neg (by omega), rI_wI, if_neg (by omega)]; exact hC h hh)
      have hDi := hD i (by omega)
      have hEi := hE i (by omega)
      obtain ⟨c1, c2⟩ := hC i (by omega)
      refine ⟨g', ?_, fun x j => ?_, e3⟩
      · rw [← e1, m_X9_sum_73]
        simp (disch := omega) only [t2, tM, m8_struck, m8_write, c1, c2, decide_eq_true, fa_lit, nI_nm1, nm1_nI, nI_nm1l, Nat.mul_comm _ 6, Nat.mul_comm _ 60, nI_ltI, nI_leI, nI_eq, nI_add, pk_mul, pk_sub, rm_nI, pk_div, nI_clamp, gdd_true, ix_nI, bdd_some, if_pos, if_neg, rI_wI, rI_wL, rL_wI, rL_wL, rI_cI, rI_cL, rL_cI, rL_cL, false_and, and_false, true_and, and_true, if_true, if_false, not_true_eq_false, not_false_eq_true, reduceCtorEq, zb_bz, bz_t, bz_f, Bool.true_eq_false, Bool.false_eq_true]
        rfl
      · rw [e2, rI_wI]
        by_cases z : x = 5 ∧ j % 6 = b ∧ i ≤ j / 6 ∧ j / 6 < nh
        · rw [if_pos z]
          by_cases z2 : j / 6 = i
          · rw [if_neg (by omega), if_pos (by omega), z2]
          · rw [if_pos (by omega)]
        · rw [if_neg z, if_neg (by omega), if_neg (by omega)]
theorem sum_loopM {nh b d e M : Nat} {D E : Nat → Nat} (hh : nh ≤ 24) (hb : b < 6) (hd : d < 6) (he : e < 6) (hbd : d ≠ b) (hbe : e ≠ b) (hM : M ≤ 15) (hD : ∀ h, h < nh → D h ≤ 15) (hE : ∀ h, h < nh → E h ≤ 15) : ∀ (fu i : Nat) (g : Mm), nh < i + fu → i ≤ nh → rdI g 40 5 = nI nh → rdI g 41 b = nI M → (∀ h, h < nh → rdI g 44 (6 * h + d) = nI (D h) ∧ rdI g 44 (6 * h + e) = nI (E h)) →
    ∃ g', m_X10_sum_73 fu (nI b) (nI d) (nI e) (nI i) g = m_X10_sum_73 1 (nI b) (nI d) (nI e) (nI nh) g' ∧ (∀ x j, rdI g' x j = if x = 44 ∧ j % 6 = b ∧ i ≤ j / 6 ∧ j / 6 < nh then nI ((D (j / 6) + E (j / 6)) % (M + 1)) else rdI g x j) ∧ g'.2 = g.2 := by
  intro fu
  induction fu with
  | zero => intro i g h1 h2; omega
  | succ fu ih =>
    intro i g h1 h2 t2 tM hC
    by_cases q : i = nh
    · subst q
      refine ⟨g, ?_, fun x j => by rw [if_neg (by omega)], rfl⟩
      simp (disch := omega) only [m_X10_sum_73, t2, fa_lit, nI_nm1, nm1_nI, nI_nm1l, Nat.mul_comm _ 6, Nat.mul_comm _ 60, nI_ltI, nI_leI, nI_eq, nI_add, pk_mul, pk_sub, rm_nI, pk_div, nI_clamp, gdd_true, ix_nI, bdd_some, if_pos, if_neg, rI_wI, rI_wL, rL_wI, rL_wL, rI_cI, rI_cL, rL_cI, rL_cL, false_and, and_false, true_and, and_true, if_true, if_false, not_true_eq_false, not_false_eq_true, reduceCtorEq, zb_bz, bz_t, bz_f, Bool.true_eq_false, Bool.false_eq_true]
    · obtain ⟨g', e1, e2, e3⟩ := ih (i + 1) (wrI g 44 (6 * i + b) (nI ((D i + E i) % (M + 1)))) (by omega) (by omega) (by rw [rI_wI, if_neg (by omega), t2]) (by rw [rI_wI, if_neg (by omega), tM]) (fun h hh => by rw [rI_wI, if_neg (by omega), rI_wI, if_neg (by omega)]; exact hC h hh)
      have hDi := hD i (by omega)
      have hEi := hE i (by omega)
      obtain ⟨c1, c2⟩ := hC i (by omega)
      refine ⟨g', ?_, fun x j => ?_, e3⟩
      · rw [← e1, m_X10_sum_73]
        simp (disch := omega) only [t2, tM, c1, c2, decide_eq_true, fa_lit, nI_nm1, nm1_nI, nI_nm1l, Nat.mul_comm _ 6, Nat.mul_comm _ 60, nI_ltI, nI_leI, nI_eq, nI_add, pk_mul, pk_sub, rm_nI, pk_div, nI_clamp, gdd_true, ix_nI, bdd_some, if_pos, if_neg, rI_wI, rI_wL, rL_wI, rL_wL, rI_cI, rI_cL, rL_cI, rL_cL, false_and, and_false, true_and, and_true, if_true, if_false, not_true_eq_false, not_false_eq_true, reduceCtorEq, zb_bz, bz_t, bz_f, Bool.true_eq_false, Bool.false_eq_true]
        rfl
      · rw [e2, rI_wI]
        by_cases z : x = 44 ∧ j % 6 = b ∧ i ≤ j / 6 ∧ j / 6 < nh
        · rw [if_pos z]
          by_cases z2 : j / 6 = i
          · rw [if_neg (by omega), if_pos (by omega), z2]
          · rw [if_pos (by omega)]
        · rw [if_neg z, if_neg (by omega), if_neg (by omega)]
/-- what column b became in both, and that the changes are forgotten -/
theorem col_read {nh b : Nat} {F : Nat → Nat} {g gA gB : Mm} (p2 : ∀ x j, rdI gA x j = if x = 5 ∧ j % 6 = b ∧ 0 ≤ j / 6 ∧ j / 6 < nh then nI (F (j / 6)) else rdI g x j)
    (o2 : ∀ x j, rdI gB x j = if x = 44 ∧ j % 6 = b ∧ 0 ≤ j / 6 ∧ j / 6 < nh then nI (F (j / 6)) else rdI (wrI (wrI (wrI (wrI gA 7 3 (nI 0)) 7 4 (nI 0)) 40 12 (nI 0)) 40 13 (nI 0)) x j) (x j : Nat) :
    rdI gB x j = if (x = 5 ∨ x = 44) ∧ decide (j % 6 = b ∧ j / 6 < nh) = true then nI (F (j / 6)) else if (x = 7 ∧ (j = 3 ∨ j = 4)) ∨ (x = 40 ∧ (j = 12 ∨ j = 13)) then nI 0 else rdI g x j := by
  rw [o2]
  simp only [decide_eq_true_eq]
  by_cases z1 : x = 44 ∧ j % 6 = b ∧ 0 ≤ j / 6 ∧ j / 6 < nh
  · rw [if_pos z1, if_pos (by omega)]
  · rw [if_neg z1, rI_wI, rI_wI]
    by_cases z2 : x = 5 ∧ j % 6 = b ∧ j / 6 < nh
    · rw [if_neg (by omega), if_neg (by omega), if_pos (by omega), rI_wI, if_neg (by omega), rI_wI, if_neg (by omega), p2, if_pos (by omega)]
    · rw [if_neg (show ¬ ((x = 5 ∨ x = 44) ∧ j % 6 = b ∧ j / 6 < nh) by omega)]
      by_cases z3 : (x = 7 ∧ (j = 3 ∨ j = 4)) ∨ (x = 40 ∧ (j = 12 ∨ j = 13))
      · rw [if_pos z3]
        by_cases z4 : x = 40 ∧ j = 13
        · rw [if_pos z4]
        · rw [if_neg z4]
          by_cases z5 : x = 40 ∧ j = 12
          · rw [if_pos z5]
          · rw [if_neg z5, rI_wI]
            by_cases z6 : x = 7 ∧ j = 4
            · rw [if_pos z6]
            · rw [if_neg z6, rI_wI, if_pos (by omega)]
      · rw [if_neg z3, if_neg (by omega), if_neg (by omega), rI_wI, if_neg (by omega), rI_wI, if_neg (by omega), p2, if_neg (by omega)]
set_option maxHeartbeats 1000000 in
theorem op_sum (a0 a1 : Int32) {g : Mm} (hg : gv_ g) : al_ (m_X9_sum a0 a1) (m_X10_sum a0 a1) g := by
  have hg0 := hg
  obtain ⟨nb, nh, hd, cd, ck, tl, rt, nn, na, ra, f, hT, hX, hC, hP, hL, hE, hA, hS⟩ := hg
  obtain ⟨⟨b1, b2, b3, b4, b5⟩, ⟨t1, t2, t3, t4, t5, t6⟩, t7, t8, t9, t10⟩ := id hT
  cases hbl : lt_n a0 nb with
  | false =>
    refine al_.same (r := -1) hg0 ?_ ?_
    · simp (disch := omega) only [m_X9_sum, m8_hasBell t1 (by omega), hbl, fa_lit, nI_nm1, nm1_nI, nI_nm1l, Nat.mul_comm _ 6, Nat.mul_comm _ 60, nI_ltI, nI_leI, nI_eq, nI_add, pk_mul, pk_sub, rm_nI, pk_div, nI_clamp, gdd_true, ix_nI, bdd_some, if_pos, if_neg, rI_wI, rI_wL, rL_wI, rL_wL, rI_cI, rI_cL, rL_cI, rL_cL, false_and, and_false, true_and, and_true, if_true, if_false, not_true_eq_false, not_false_eq_true, reduceCtorEq, zb_bz, bz_t, bz_f, Bool.true_eq_false, Bool.false_eq_true]
    · simp (disch := omega) only [m_X10_sum, m10_isBell t4 (by omega), hbl, fa_lit, nI_nm1, nm1_nI, nI_nm1l, Nat.mul_comm _ 6, Nat.mul_comm _ 60, nI_ltI, nI_leI, nI_eq, nI_add, pk_mul, pk_sub, rm_nI, pk_div, nI_clamp, gdd_true, ix_nI, bdd_some, if_pos, if_neg, rI_wI, rI_wL, rL_wI, rL_wL, rI_cI, rI_cL, rL_cI, rL_cL, false_and, and_false, true_and, and_true, if_true, if_false, not_true_eq_false, not_false_eq_true, reduceCtorEq, zb_bz, bz_t, bz_f, Bool.true_eq_false, Bool.false_eq_true]
  | true =>
    obtain ⟨b, hb, rfl⟩ := lt_nI hbl (by omega)
    obtain ⟨⟨M, hM1, hM2, hM⟩, -, -⟩ := t8 b hb
    obtain ⟨s1, -, -⟩ := t7 b (by omega)
    rcases i_cases a1 with h | ⟨v, hv, rfl⟩
    · refine al_.same (r := -1) hg0 ?_ ?_
      · rw [m_X9_sum, m8_hasBell t1 (by omega), hbl, bdd_some, if_neg (show ¬ bz true = 0 by decide), if_pos (neg_lt0 h)]
      · rw [m_X10_sum, m10_isBell t4 (by omega), hbl, bdd_some, if_neg (show ¬ bz true = 0 by decide), if_pos (neg_lt0 h)]
    · by_cases hr1 : v / 10 < nb
      · by_cases hr2 : v % 10 < nb
        · by_cases hr3 : v / 10 = v % 10
          · refine al_.same (r := -1) hg0 ?_ ?_
            · simp (disch := omega) only [m_X9_sum, m8_hasBell t1 (show nb < 2 ^ 31 by omega), lt_n_nI, decide_eq_true, fa_lit, nI_nm1, nm1_nI, nI_nm1l, Nat.mul_comm _ 6, Nat.mul_comm _ 60, nI_ltI, nI_leI, nI_eq, nI_add, pk_mul, pk_sub, rm_nI, pk_div, nI_clamp, gdd_true, ix_nI, bdd_some, if_pos, if_neg, rI_wI, rI_wL, rL_wI, rL_wL, rI_cI, rI_cL, rL_cI, rL_cL, false_and, and_false, true_and, and_true, if_true, if_false, not_true_eq_false, not_false_eq_true, reduceCtorEq, zb_bz, bz_t, bz_f, Bool.true_eq_false, Bool.false_eq_true]
            · simp (disch := omega) only [m_X10_sum, m10_isBell t4 (show nb < 2 ^ 31 by omega), lt_n_nI, decide_eq_true, fa_lit, nI_nm1, nm1_nI, nI_nm1l, Nat.mul_comm _ 6, Nat.mul_comm _ 60, nI_ltI, nI_leI, nI_eq, nI_add, pk_mul, pk_sub, rm_nI, pk_div, nI_clamp, gdd_true, ix_nI, bdd_some, if_pos, if_neg, rI_wI, rI_wL, rL_wI, rL_wL, rI_cI, rI_cL, rL_cI, rL_cL, false_and, and_false, true_and, and_true, if_true, if_false, not_true_eq_false, not_false_eq_true, reduceCtorEq, zb_bz, bz_t, bz_f, Bool.true_eq_false, Bool.false_eq_true]
          · by_cases hr4 : v / 10 = b
            · refine al_.same (r := -1) hg0 ?_ ?_
              · simp (disch := omega) only [m_X9_sum, m8_hasBell t1 (show nb < 2 ^ 31 by omega), lt_n_nI, decide_eq_true, fa_lit, nI_nm1, nm1_nI, nI_nm1l, Nat.mul_comm _ 6, Nat.mul_comm _ 60, nI_ltI, nI_leI, nI_eq, nI_add, pk_mul, pk_sub, rm_nI, pk_div, nI_clamp, gdd_true, ix_nI, bdd_some, if_pos, if_neg, rI_wI, rI_wL, rL_wI, rL_wL, rI_cI, rI_cL, rL_cI, rL_cL, false_and, and_false, true_and, and_true, if_true, if_false, not_true_eq_false, not_false_eq_true, reduceCtorEq, zb_bz, bz_t, bz_f, Bool.true_eq_false, Bool.false_eq_true]
              · simp (disch := omega) only [m_X10_sum, m10_isBell t4 (show nb < 2 ^ 31 by omega), lt_n_nI, decide_eq_true, fa_lit, nI_nm1, nm1_nI, nI_nm1l, Nat.mul_comm _ 6, Nat.mul_comm _ 60, nI_ltI, nI_leI, nI_eq, nI_add, pk_mul, pk_sub, rm_nI, pk_div, nI_clamp, gdd_true, ix_nI, bdd_some, if_pos, if_neg, rI_wI, rI_wL, rL_wI, rL_wL, rI_cI, rI_cL, rL_cI, rL_cL, false_and, and_false, true_and, and_true, if_true, if_false, not_true_eq_false, not_false_eq_true, reduceCtorEq, zb_bz, bz_t, bz_f, Bool.true_eq_false, Bool.false_eq_true]
            · by_cases hr5 : v % 10 = b
              · refine al_.same (r := -1) hg0 ?_ ?_
                · simp (disch := omega) only [m_X9_sum, m8_hasBell t1 (show nb < 2 ^ 31 by omega), lt_n_nI, decide_eq_true, fa_lit, nI_nm1, nm1_nI, nI_nm1l, Nat.mul_comm _ 6, Nat.mul_comm _ 60, nI_ltI, nI_leI, nI_eq, nI_add, pk_mul, pk_sub, rm_nI, pk_div, nI_clamp, gdd_true, ix_nI, bdd_some, if_pos, if_neg, rI_wI, rI_wL, rL_wI, rL_wL, rI_cI, rI_cL, rL_cI, rL_cL, false_and, and_false, true_and, and_true, if_true, if_false, not_true_eq_false, not_false_eq_true, reduceCtorEq, zb_bz, bz_t, bz_f, Bool.true_eq_false, Bool.false_eq_true]
                · simp (disch := omega) only [m_X10_sum, m10_isBell t4 (show nb < 2 ^ 31 by omega), lt_n_nI, decide_eq_true, fa_lit, nI_nm1, nm1_nI, nI_nm1l, Nat.mul_comm _ 6, Nat.mul_comm _ 60, nI_ltI, nI_leI, nI_eq, nI_add, pk_mul, pk_sub, rm_nI, pk_div, nI_clamp, gdd_true, ix_nI, bdd_some, if_pos, if_neg, rI_wI, rI_wL, rL_wI, rL_wL, rI_cI, rI_cL, rL_cI, rL_cL, false_and, and_false, true_and, and_true, if_true, if_false, not_true_eq_false, not_false_eq_true, reduceCtorEq, zb_bz, bz_t, bz_f, Bool.true_eq_false, Bool.false_eq_true]
              · obtain ⟨d, e, hd1, he1, rfl⟩ : ∃ d e, d < nb ∧ e < nb ∧ v = 10 * d + e := ⟨v / 10, v % 10, hr1, hr2, by omega⟩
                have d1 : (10 * d + e) / 10 = d := by omega
                have d2 : (10 * d + e) % 10 = e := by omega
                rw [d1] at hr3 hr4
                rw [d2] at hr3 hr5
                have hcell : ∀ k, k < 6 → ∃ D : Nat → Nat, ∀ h, h < nh → rdI g 5 (6 * h + k) = nI (D h) ∧ D h ≤ 15 := fun k hk => ⟨fun h => (rdI g 5 (6 * h + k)).toNatClampNeg, fun h hh => by
                  obtain ⟨-, u, hu, eu⟩ := t9 (6 * h + k) (by omega)
                  show rdI g 5 (6 * h + k) = nI (rdI g 5 (6 * h + k)).toNatClampNeg ∧ (rdI g 5 (6 * h + k)).toNatClampNeg ≤ 15
                  rw [eu, nI_clamp (by omega)]
                  exact ⟨rfl, hu⟩⟩
                obtain ⟨D, hD⟩ := hcell d (by omega)
                obtain ⟨E, hE'⟩ := hcell e (by omega)
                obtain ⟨F, eF, hF⟩ := fu_get
                obtain ⟨gA, p1, p2, p3⟩ := sum_loop b3 (show b < 6 by omega) (show d < 6 by omega) (show e < 6 by omega) hr4 hr5 hM2 (fun h hh => (hD h hh).2) (fun h hh => (hE' h hh).2) F 0 g (by omega) (by omega) t2 hM (fun h hh => ⟨(hD h hh).1, (hE' h hh).1⟩)
                have q5 : ∀ h, h < nh → rdI (wrI (wrI gA 7 3 (nI 0)) 7 4 (nI 0)) 5 (6 * h + b) = nI ((D h + E h) % (M + 1)) := fun h hh => by
                  rw [rI_wI, if_neg (by omega), rI_wI, if_neg (by omega), p2, if_pos (by omega), show (6 * h + b) / 6 = h by omega]
                have hs1 := bell_sum (g := wrI (wrI gA 7 3 (nI 0)) 7 4 (nI 0)) (F := fun h => (D h + E h) % (M + 1)) (by rw [rI_wI, if_neg (by omega), rI_wI, if_neg (by omega), p2, if_neg (by omega), t2]) b3 (show b < 6 by omega) q5
                have kA : ∀ x j, x ≠ 5 → ¬ (x = 7 ∧ (j = 3 ∨ j = 4)) → rdI (wrI (wrI gA 7 3 (nI 0)) 7 4 (nI 0)) x j = rdI g x j := fun x j q1 q2 => by
                  rw [rI_wI, if_neg (by omega), rI_wI, if_neg (by omega), p2, if_neg (by omega)]
                have kB : ∀ x j, x ≠ 5 → ¬ (x = 7 ∧ (j = 3 ∨ j = 4)) → x ≠ 40 → rdI (wrI (wrI (wrI (wrI gA 7 3 (nI 0)) 7 4 (nI 0)) 40 12 (nI 0)) 40 13 (nI 0)) x j = rdI g x j := fun x j q1 q2 q3 => by
                  rw [rI_wI, if_neg (by omega), rI_wI, if_neg (by omega), kA x j q1 q2]
                obtain ⟨gB, o1, o2, o3⟩ := sum_loopM (D := D) (E := E) b3 (show b < 6 by omega) (show d < 6 by omega) (show e < 6 by omega) hr4 hr5 hM2 (fun h hh => (hD h hh).2) (fun h hh => (hE' h hh).2) F 0 (wrI (wrI (wrI (wrI gA 7 3 (nI 0)) 7 4 (nI 0)) 40 12 (nI 0)) 40 13 (nI 0)) (by omega) (by omega) (by rw [rI_wI, if_neg (by omega), rI_wI, if_neg (by omega), kA _ _ (by omega) (by omega), t5]) (by rw [kB _ _ (by omega) (by omega) (by omega), s1, hM])
                  (fun h hh => by rw [kB _ _ (by omega) (by omega) (by omega), kB _ _ (by omega) (by omega) (by omega), (t9 _ (by omega)).1, (t9 _ (by omega)).1]; exact ⟨(hD h hh).1, (hE' h hh).1⟩)
                have q44 : ∀ h, h < nh → rdI gB 44 (6 * h + b) = nI ((D h + E h) % (M + 1)) := fun h hh => by
                  rw [o2, if_pos (by omega), show (6 * h + b) / 6 = h by omega]
                have t5B : rdI gB 40 5 = nI nh := by rw [o2, if_neg (by omega), rI_wI, if_neg (by omega), rI_wI, if_neg (by omega), kA _ _ (by omega) (by omega), t5]
                have hs2 := bell_sumM (g := gB) (F := fun h => (D h + E h) % (M + 1)) t5B b3 (show b < 6 by omega) q44
                have t2A : rdI gA 1 1 = nI nh := by rw [p2, if_neg (by omega), t2]
                have t4A : rdI (wrI (wrI gA 7 3 (nI 0)) 7 4 (nI 0)) 40 4 = nI nb := by rw [kA _ _ (by omega) (by omega), t4]
                refine ⟨nI (sm (fun h => (D h + E h) % (M + 1)) nh), wrI (wrI gA 7 3 (nI 0)) 7 4 (nI 0), gB, ?_, ?_, ?_⟩
                · simp (disch := omega) only [m_X9_sum, m8_hasBell t1 (show nb < 2 ^ 31 by omega), lt_n_nI, decide_eq_true, eF, d1, d2, fa_lit, nI_nm1, nm1_nI, nI_nm1l, Nat.mul_comm _ 6, Nat.mul_comm _ 60, nI_ltI, nI_leI, nI_eq, nI_add, pk_mul, pk_sub, rm_nI, pk_div, nI_clamp, gdd_true, ix_nI, bdd_some, if_pos, if_neg, rI_wI, rI_wL, rL_wI, rL_wL, rI_cI, rI_cL, rL_cI, rL_cL, false_and, and_false, true_and, and_true, if_true, if_false, not_true_eq_false, not_false_eq_true, reduceCtorEq, zb_bz, bz_t, bz_f, Bool.true_eq_false, Bool.false_eq_true]
                  rw [p1, m_X9_sum_73]
                  simp (disch := omega) only [t2A, m_X1_forgetAll, hs1, fa_lit, nI_leI, if_pos, bdd_some]
                · generalize wrI (wrI gA 7 3 (nI 0)) 7 4 (nI 0) = g1 at *
                  simp (disch := omega) only [m_X10_sum, m10_isBell t4A (show nb < 2 ^ 31 by omega), lt_n_nI, decide_eq_true, m_X10_forgets, eF, d1, d2, fa_lit, nI_nm1, nm1_nI, nI_nm1l, Nat.mul_comm _ 6, Nat.mul_comm _ 60, nI_ltI, nI_leI, nI_eq, nI_add, pk_mul, pk_sub, rm_nI, pk_div, nI_clamp, gdd_true, ix_nI, bdd_some, if_pos, if_neg, rI_wI, rI_wL, rL_wI, rL_wL, rI_cI, rI_cL, rL_cI, rL_cL, false_and, and_false, true_and, and_true, if_true, if_false, not_true_eq_false, not_false_eq_true, reduceCtorEq, zb_bz, bz_t, bz_f, Bool.true_eq_false, Bool.false_eq_true]
                  rw [o1, m_X10_sum_73]
                  simp (disch := omega) only [t5B, hs2, fa_lit, nI_nm1, nm1_nI, nI_nm1l, Nat.mul_comm _ 6, Nat.mul_comm _ 60, nI_ltI, nI_leI, nI_eq, nI_add, pk_mul, pk_sub, rm_nI, pk_div, nI_clamp, gdd_true, ix_nI, bdd_some, if_pos, if_neg, rI_wI, rI_wL, rL_wI, rL_wL, rI_cI, rI_cL, rL_cI, rL_cL, false_and, and_false, true_and, and_true, if_true, if_false, not_true_eq_false, not_false_eq_true, reduceCtorEq, zb_bz, bz_t, bz_f, Bool.true_eq_false, Bool.false_eq_true]
                · refine gv_tabw hT hX hP hL hE hA hS (fun i => decide (i % 6 = b ∧ i / 6 < nh)) (fun i => (D (i / 6) + E (i / 6)) % (M + 1)) (fun i hi => ?_) (fun x j => col_read (F := fun h => (D h + E h) % (M + 1)) p2 o2 x j) ?_
                  · have hi := of_decide_eq_true hi
                    refine ⟨hi.2, by omega, ?_⟩
                    have := Nat.mod_lt (D (i / 6) + E (i / 6)) (show 0 < M + 1 by omega)
                    show (D (i / 6) + E (i / 6)) % (M + 1) ≤ 15
                    omega
                  · rw [o3]
                    exact p3
        · refine al_.same (r := -1) hg0 ?_ ?_
          · simp (disch := omega) only [m_X9_sum, m8_hasBell t1 (show nb < 2 ^ 31 by omega), lt_n_nI, decide_eq_true, decide_eq_false, fa_lit, nI_nm1, nm1_nI, nI_nm1l, Nat.mul_comm _ 6, Nat.mul_comm _ 60, nI_ltI, nI_leI, nI_eq, nI_add, pk_mul, pk_sub, rm_nI, pk_div, nI_clamp, gdd_true, ix_nI, bdd_some, if_pos, if_neg, rI_wI, rI_wL, rL_wI, rL_wL, rI_cI, rI_cL, rL_cI, rL_cL, false_and, and_false, true_and, and_true, if_true, if_false, not_true_eq_false, not_false_eq_true, reduceCtorEq, zb_bz, bz_t, bz_f, Bool.true_eq_false, Bool.false_eq_true]
          · simp (disch := omega) only [m_X10_sum, m10_isBell t4 (show nb < 2 ^ 31 by omega), lt_n_nI, decide_eq_true, decide_eq_false, fa_lit, nI_nm1, nm1_nI, nI_nm1l, Nat.mul_comm _ 6, Nat.mul_comm _ 60, nI_ltI, nI_leI, nI_eq, nI_add, pk_mul, pk_sub, rm_nI, pk_div, nI_clamp, gdd_true, ix_nI, bdd_some, if_pos, if_neg, rI_wI, rI_wL, rL_wI, rL_wL, rI_cI, rI_cL, rL_cI, rL_cL, false_and, and_false, true_and, and_true, if_true, if_false, not_true_eq_false, not_false_eq_true, reduceCtorEq, zb_bz, bz_t, bz_f, Bool.true_eq_false, Bool.false_eq_true]
      · refine al_.same (r := -1) hg0 ?_ ?_
        · simp (disch := omega) only [m_X9_sum, m8_hasBell t1 (show nb < 2 ^ 31 by omega), lt_n_nI, decide_eq_true, decide_eq_false, fa_lit, nI_nm1, nm1_nI, nI_nm1l, Nat.mul_comm _ 6, Nat.mul_comm _ 60, nI_ltI, nI_leI, nI_eq, nI_add, pk_mul, pk_sub, rm_nI, pk_div, nI_clamp, gdd_true, ix_nI, bdd_some, if_pos, if_neg, rI_wI, rI_wL, rL_wI, rL_wL, rI_cI, rI_cL, rL_cI, rL_cL, false_and, and_false, true_and, and_true, if_true, if_false, not_true_eq_false, not_false_eq_true, reduceCtorEq, zb_bz, bz_t, bz_f, Bool.true_eq_false, Bool.false_eq_true]
        · simp (disch := omega) only [m_X10_sum, m10_isBell t4 (show nb < 2 ^ 31 by omega), lt_n_nI, decide_eq_true, decide_eq_false, fa_lit, nI_nm1, nm1_nI, nI_nm1l, Nat.mul_comm _ 6, Nat.mul_comm _ 60, nI_ltI, nI_leI, nI_eq, nI_add, pk_mul, pk_sub, rm_nI, pk_div, nI_clamp, gdd_true, ix_nI, bdd_some, if_pos, if_neg, rI_wI, rI_wL, rL_wI, rL_wL, rI_cI, rI_cL, rL_cI, rL_cL, false_and, and_false, true_and, and_true, if_true, if_false, not_true_eq_false, not_false_eq_true, reduceCtorEq, zb_bz, bz_t, bz_f, Bool.true_eq_false, Bool.false_eq_true]
