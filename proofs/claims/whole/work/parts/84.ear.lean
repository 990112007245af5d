/-! alone, which, night -/
def mxN (f : Nat → Nat) : Nat → Nat
  | 0 => 0
  | n + 1 => max (mxN f n) (f n)
theorem mxN_le {f : Nat → Nat} {M : Nat} (h : ∀ i, f i ≤ M) (n : Nat) : mxN f n ≤ M := by
  induction n with
  | zero => exact Nat.zero_le _
  | succ n ih => exact Nat.max_le.mpr ⟨ih, h n⟩
theorem pc24_le {n : Nat} (hn : n < 2 ^ 24) : pc24 n ≤ 24 := by
  have h1 := s2_le (n % 256) (by omega)
  have h2 := s2_le (n / 256 % 256) (by omega)
  have h3 := s2_le (n / 65536) (by omega)
  unfold pc24
  omega
theorem bm24 (p : Nat → Bool) {n : Nat} (hn : n ≤ 24) : bm p n < 2 ^ 24 := nI_lt2 (bm_lt p n) hn
theorem op_alone (a0 a1 : Int32) {g : Mm} (hg : gv_ g) : al_ (m_X9_alone a0 a1) (m_X10_alone a0 a1) g := by
  have hg0 := hg
  obtain ⟨nb, nh, hd, cd, ck, tl, rt, nn, na, ra, f, hT, hX, hC, hP, hL, hE, hA, hS⟩ := hg
  obtain ⟨⟨b1, b2, b3, b4, b5⟩, ⟨t1, t2, t3, t4, t5, t6⟩, t7, t8, t9, t10⟩ := id hT
  cases hbl : lt_n a0 nb with
  | false =>
    refine al_.same (r := -1) hg0 ?_ ?_
    · simp (disch := omega) only [m_X9_alone, m8_hasBell t1 (by omega), hbl, fa_lit, nI_nm1, nm1_nI, nI_nm1l, Nat.mul_comm _ 6, Nat.mul_comm _ 60, nI_ltI, nI_leI, nI_eq, nI_add, pk_mul, pk_sub, rm_nI, pk_div, nI_clamp, gdd_true, ix_nI, bdd_some, if_pos, if_neg, rI_wI, rI_wL, rL_wI, rL_wL, rI_cI, rI_cL, rL_cI, rL_cL, false_and, and_false, true_and, and_true, if_true, if_false, not_true_eq_false, not_false_eq_true, reduceCtorEq, zb_bz, bz_t, bz_f, Bool.true_eq_false, Bool.false_eq_true]
    · simp (disch := omega) only [m_X10_alone, m10_isBell t4 (by omega), hbl, fa_lit, nI_nm1, nm1_nI, nI_nm1l, Nat.mul_comm _ 6, Nat.mul_comm _ 60, nI_ltI, nI_leI, nI_eq, nI_add, pk_mul, pk_sub, rm_nI, pk_div, nI_clamp, gdd_true, ix_nI, bdd_some, if_pos, if_neg, rI_wI, rI_wL, rL_wI, rL_wL, rI_cI, rI_cL, rL_cI, rL_cL, false_and, and_false, true_and, and_true, if_true, if_false, not_true_eq_false, not_false_eq_true, reduceCtorEq, zb_bz, bz_t, bz_f, Bool.true_eq_false, Bool.false_eq_true]
  | true =>
    obtain ⟨b, hb, rfl⟩ := lt_nI hbl (by omega)
    rcases i_cases a1 with h | ⟨v, hv, rfl⟩
    · by_cases h1 : a1.toInt = -1
      · rw [eq_m1 h1]
        have le : ∀ v, pc24 (bm (fun h => decide (tv g h b = v)) nh) ≤ 24 := fun v => pc24_le (bm24 _ b3)
        have hmx : ∀ n, mxN (fun v => pc24 (bm (fun h => decide (tv g h b = v)) nh)) n ≤ 24 := mxN_le le
        have kc : ∀ (fu i : Nat), 16 < i + fu → i ≤ 16 → m_X9_alone_43 fu (nI b) (nI (mxN (fun v => pc24 (bm (fun h => decide (tv g h b = v)) nh)) i)) (nI i) g = some (nI (mxN (fun v => pc24 (bm (fun h => decide (tv g h b = v)) nh)) 16), g) := by
          intro fu
          induction fu with
          | zero => intro i h1 h2; omega
          | succ fu ih =>
            intro i h1 h2
            rw [m_X9_alone_43]
            by_cases q : i = 16
            · subst q
              rw [if_pos (show (15 : Int32) < nI 16 by decide)]
            · have e := ih (i + 1) (by omega) (by omega)
              rw [if_neg (show ¬ (15 : Int32) < nI i by show ¬ nI 15 < nI i; rw [nI_ltI (by omega) (by omega)]; omega), striking_c hT (by omega) (by omega), bdd_some, bitCount_nI (bm24 _ b3), bdd_some, m_J9_max_7cf53]
              have l1 := hmx i
              have l2 := le i
              by_cases z : mxN (fun v => pc24 (bm (fun h => decide (tv g h b = v)) nh)) i < pc24 (bm (fun h => decide (tv g h b = i)) nh)
              · rw [if_pos (by rw [nI_ltI (by omega) (by omega)]; exact z), bdd_some, nI_1]
                rw [mxN, Nat.max_eq_right (by omega)] at e
                exact e
              · rw [if_neg (by rw [nI_ltI (by omega) (by omega)]; exact z), bdd_some, nI_1]
                rw [mxN, Nat.max_eq_left (by omega)] at e
                exact e
        have km : ∀ (fu i : Nat), 16 < i + fu → i ≤ 16 → m_X10_alone_40 fu (nI b) (nI (mxN (fun v => pc24 (bm (fun h => decide (tv g h b = v)) nh)) i)) (nI i) g = some (nI (mxN (fun v => pc24 (bm (fun h => decide (tv g h b = v)) nh)) 16), g) := by
          intro fu
          induction fu with
          | zero => intro i h1 h2; omega
          | succ fu ih =>
            intro i h1 h2
            rw [m_X10_alone_40]
            by_cases q : i = 16
            · subst q
              rw [if_pos (show (15 : Int32) < nI 16 by decide)]
            · have e := ih (i + 1) (by omega) (by omega)
              rw [if_neg (show ¬ (15 : Int32) < nI i by show ¬ nI 15 < nI i; rw [nI_ltI (by omega) (by omega)]; omega), striking_m hT (by omega) (by omega), bdd_some, bitsOf_nI (bm24 _ b3), bdd_some]
              have l1 := hmx i
              have l2 := le i
              by_cases z : pc24 (bm (fun h => decide (tv g h b = i)) nh) ≤ mxN (fun v => pc24 (bm (fun h => decide (tv g h b = v)) nh)) i
              · rw [if_pos (by rw [nI_leI (by omega) (by omega)]; exact z), nI_1]
                rw [mxN, Nat.max_eq_left (by omega)] at e
                exact e
              · rw [if_neg (by rw [nI_leI (by omega) (by omega)]; exact z), nI_1]
                rw [mxN, Nat.max_eq_right (by omega)] at e
                exact e
        obtain ⟨F, eF, hF⟩ := fu_get
        refine al_.same (r := nI (mxN (fun v => pc24 (bm (fun h => decide (tv g h b = v)) nh)) 16)) hg0 ?_ ?_
        · rw [m_X9_alone, m8_hasBell t1 (by omega), hbl, bdd_some, if_neg (show ¬ bz true = 0 by decide), if_neg (by decide), if_pos (by decide), if_pos (by decide), eF]
          exact kc F 0 (by omega) (by omega)
        · rw [m_X10_alone, m10_isBell t4 (by omega), hbl, bdd_some, if_neg (show ¬ bz true = 0 by decide), in_m1t, bdd_some, if_neg (show ¬ bz true = 0 by decide), if_pos (by decide), eF]
          exact km F 0 (by omega) (by omega)
      · refine al_.same (r := -1) hg0 ?_ ?_
        · rw [m_X9_alone, m8_hasBell t1 (by omega), hbl, bdd_some, if_neg (show ¬ bz true = 0 by decide), if_pos (lt_m1 (by omega))]
        · rw [m_X10_alone, m10_isBell t4 (by omega), hbl, bdd_some, if_neg (show ¬ bz true = 0 by decide), in_m1 (by omega), bdd_some, if_pos (show bz false = 0 from rfl)]
    · have nm1 : ¬ nI v < (-1 : Int32) := by rw [fa_lt, nI_toInt hv, show (-1 : Int32).toInt = -1 from rfl]; omega
      have n0 : ¬ nI v < (0 : Int32) := by rw [fa_lt, nI_toInt hv, show (0 : Int32).toInt = 0 from rfl]; omega
      by_cases h8 : v ≤ 15
      · refine al_.same (r := nI (bm (fun h => decide (tv g h b = v)) nh)) hg0 ?_ ?_
        · rw [m_X9_alone, m8_hasBell t1 (by omega), hbl, bdd_some, if_neg (show ¬ bz true = 0 by decide), if_neg nm1, if_pos (show nI v ≤ (15 : Int32) from (nI_leI (b := 15) hv (by omega)).mpr h8), if_neg n0, striking_c hT (by omega) hv, bdd_some]
        · rw [m_X10_alone, m10_isBell t4 (by omega), hbl, bdd_some, if_neg (show ¬ bz true = 0 by decide), in_m1n hv, decide_eq_true h8, bdd_some, if_neg (show ¬ bz true = 0 by decide), if_neg n0, striking_m hT (by omega) hv, bdd_some]
      · refine al_.same (r := -1) hg0 ?_ ?_
        · rw [m_X9_alone, m8_hasBell t1 (by omega), hbl, bdd_some, if_neg (show ¬ bz true = 0 by decide), if_neg nm1, if_neg (show ¬ nI v ≤ (15 : Int32) from fun z => h8 ((nI_leI (b := 15) hv (by omega)).mp z))]
        · rw [m_X10_alone, m10_isBell t4 (by omega), hbl, bdd_some, if_neg (show ¬ bz true = 0 by decide), in_m1n hv, decide_eq_false h8, bdd_some, if_pos (show bz false = 0 from rfl)]
/-- may be: all of a row's strokes as the table has them, or not heard -/
theorem maybe_c {nb n1 a off h : Nat} {g : Mm} (t1 : rdI g 1 0 = nI nb) (hb : nb ≤ 6) (hh : h < 24) (ho : off + nb ≤ n1) (hn : n1 < 2 ^ 30) : m_X2_mayBe a n1 (nI off) (nI h) g = some (bz (alN (fun b => decide (rdI g a (off + b) = -1) || decide (rdI g a (off + b) = rdI g 5 (6 * h + b))) nb), g) := by
  have key : ∀ (fu i : Nat), nb < i + fu → i ≤ nb → alN (fun b => decide (rdI g a (off + b) = -1) || decide (rdI g a (off + b) = rdI g 5 (6 * h + b))) i = true → m_X2_mayBe_3 a n1 fu (nI off) (nI h) (nI i) g = some (bz (alN (fun b => decide (rdI g a (off + b) = -1) || decide (rdI g a (off + b) = rdI g 5 (6 * h + b))) nb), g) := by
    intro fu
    induction fu with
    | zero => intro i h1 h2; omega
    | succ fu ih =>
      intro i h1 h2 h3
      rw [m_X2_mayBe_3, t1]
      by_cases q : i = nb
      · subst q
        rw [if_pos (by rw [nI_leI (by omega) (by omega)]; omega), h3]
        rfl
      · rw [if_neg (by rw [nI_leI (by omega) (by omega)]; omega), nI_add, ix_nI (by omega) (by omega), gdd_true, nI_clamp (by omega), nI_1]
        have e := ih (i + 1) (by omega) (by omega)
        rw [alN, h3, Bool.true_and] at e
        by_cases z1 : rdI g a (off + i) = -1
        · rw [if_pos z1]
          exact e (by rw [decide_eq_true z1, Bool.true_or])
        · rw [if_neg z1, m8_struck hh (by omega), bdd_some]
          by_cases z2 : rdI g a (off + i) = rdI g 5 (6 * h + i)
          · rw [if_pos z2]
            exact e (by rw [decide_eq_true z2, Bool.or_true])
          · rw [if_neg z2, alN_no (i := i) (by omega) (by rw [decide_eq_false z1, decide_eq_false z2]; rfl)]
            rfl
  obtain ⟨F, eF, hF⟩ := fu_get
  rw [m_X2_mayBe, eF]
  exact key F 0 (by omega) (by omega) rfl
theorem told_loop : ∀ (fu i : Nat) (g : Mm), 6 < i + fu → i ≤ 6 → ∃ g', m_X2_forgetTold_2 fu (nI i) g = some (nI 0, wrI g' 29 3 (nI 0)) ∧ (∀ c k, rdI g' c k = if c = 30 ∧ i ≤ k ∧ k < 6 then -1 else rdI g c k) ∧ g'.2 = g.2 := by
  intro fu
  induction fu with
  | zero => intro i g h1 h2; omega
  | succ fu ih =>
    intro i g h1 h2
    rw [m_X2_forgetTold_2]
    by_cases q : i = 6
    · subst q
      exact ⟨g, by rw [if_pos (by decide)]; rfl, fun c k => by rw [if_neg (by omega)], rfl⟩
    · obtain ⟨g', e1, e2, e3⟩ := ih (i + 1) (wrI g 30 i (-1)) (by omega) (by omega)
      refine ⟨g', ?_, fun c k => ?_, e3⟩
      · rw [← e1, if_neg (show ¬ (6 : Int32) ≤ nI i from fun z => by have := (nI_leI (a := 6) (b := i) (by omega) (by omega)).mp z; omega), ix_nI (by omega) (by omega), gdd_true, nI_clamp (by omega), nI_1]
      · rw [e2, rI_wI]
        by_cases z : c = 30 ∧ i ≤ k ∧ k < 6
        · rw [if_pos z]
          by_cases z2 : k = i
          · rw [if_neg (by omega), if_pos (by omega)]
          · rw [if_pos (by omega)]
        · rw [if_neg z, if_neg (by omega), if_neg (by omega)]
set_option maxHeartbeats 1000000 in
theorem op_which {g : Mm} (hg : gv_ g) : al_ m_X9_which m_X10_which g := by
  have hg0 := hg
  obtain ⟨nb, nh, hd, cd, ck, tl, rt, nn, na, ra, f, hT, hX, hC, hP, hL, hE, hA, hS⟩ := hg
  obtain ⟨⟨b1, b2, b3, b4, b5⟩, ⟨t1, t2, t3, t4, t5, t6⟩, t7, t8, t9, t10⟩ := id hT
  obtain ⟨⟨hrt, hnn⟩, ⟨e1, e2, e3, e4⟩, e5, e6⟩ := id hE
  obtain ⟨F, eF, hF⟩ := fu_get
  -- the class
  have kc : ∀ (fu i : Nat), nh < i + fu → i ≤ nh → m_X2_hoursHeard_4 fu (nI (bm (fun h => alN (fun b => decide (rdI g 30 (0 + b) = -1) || decide (rdI g 30 (0 + b) = rdI g 5 (6 * h + b))) nb) i)) (nI i) g = some (nI (bm (fun h => alN (fun b => decide (rdI g 30 (0 + b) = -1) || decide (rdI g 30 (0 + b) = rdI g 5 (6 * h + b))) nb) nh), g) := by
    intro fu
    induction fu with
    | zero => intro i h1 h2; omega
    | succ fu ih =>
      intro i h1 h2
      rw [m_X2_hoursHeard_4, t2]
      by_cases q : i = nh
      · subst q
        rw [if_pos (by rw [nI_leI (by omega) (by omega)]; omega)]
      · have e := ih (i + 1) (by omega) (by omega)
        rw [if_neg (by rw [nI_leI (by omega) (by omega)]; omega), show (0 : Int32) = nI 0 from rfl, maybe_c t1 b1 (by omega) (by omega) (by omega), bdd_some, nI_1]
        cases z : alN (fun b => decide (rdI g 30 (0 + b) = -1) || decide (rdI g 30 (0 + b) = rdI g 5 (6 * i + b))) nb with
        | false =>
          rw [if_pos (show bz false = nI 0 from rfl)]
          rw [bm, z] at e
          rw [show (if false = true then 2 ^ i else 0) = 0 from rfl, Nat.or_zero] at e
          exact e
        | true =>
          rw [if_neg (show ¬ bz true = nI 0 by decide), bm_t (p := fun h => alN (fun b => decide (rdI g 30 (0 + b) = -1) || decide (rdI g 30 (0 + b) = rdI g 5 (6 * h + b))) nb) (by omega) z]
          exact e
  obtain ⟨gA, p1, p2, p3⟩ := told_loop F 0 g (by omega) (by omega)
  -- the reference, over what the class left
  have kA : ∀ c i, c ≠ 30 → c ≠ 29 → rdI (wrI gA 29 3 (nI 0)) c i = rdI g c i := fun c i q1 q2 => by rw [rI_wI, if_neg (by omega), p2, if_neg (by omega)]
  have hrow : ∀ h, h < nh → alN (fun b => decide (rdI g 30 (0 + b) = -1) || decide (rdI g 30 (0 + b) = rdI g 5 (6 * h + b))) nb = alN (fun b => decide (rdI g 51 b < 0) || decide (rdI g 51 b = rdI g 44 (6 * h + b))) rt := by
    intro h hh
    refine alN_eq ⟨fun z b hb => ?_, fun z b hb => ?_⟩
    · have z1 := z b (by omega)
      obtain ⟨r1, r2⟩ := (e5 b (by omega)).1 hb
      simp only [Bool.or_eq_true, decide_eq_true_eq, Nat.zero_add] at z1 ⊢
      rw [r1, (t9 (6 * h + b) (by omega)).1]
      rcases z1 with z1 | z1
      · exact Or.inl (by rw [z1]; decide)
      · exact Or.inr z1
    · simp only [Bool.or_eq_true, decide_eq_true_eq, Nat.zero_add]
      by_cases q : b < rt
      · have z1 := z b q
        obtain ⟨r1, r2⟩ := (e5 b (by omega)).1 q
        simp only [Bool.or_eq_true, decide_eq_true_eq] at z1
        rw [r1, (t9 (6 * h + b) (by omega)).1] at z1
        rcases z1 with z1 | z1
        · rcases r2 with r2 | ⟨v, hv, r2⟩
          · exact Or.inl r2
          · rw [r2, fa_lt, nI_toInt (by omega), show (0 : Int32).toInt = 0 from rfl] at z1
            omega
        · exact Or.inr z1
      · exact Or.inl ((e5 b (by omega)).2 (by omega))
  have ki : ∀ (K : Int32 → Int32 → Mm → Option (Int32 × Mm)) (g1 : Mm) (h x : Nat), h < nh → (∀ c i, c ≠ 30 → c ≠ 29 → rdI g1 c i = rdI g c i) → ∀ (fu i : Nat), rt < i + fu → i ≤ rt → m_X10_which_17 K fu (nI x) (nI h) (bz (alN (fun b => decide (rdI g 51 b < 0) || decide (rdI g 51 b = rdI g 44 (6 * h + b))) i)) (nI i) g1 = K (nI x ||| shlI (bz (alN (fun b => decide (rdI g 51 b < 0) || decide (rdI g 51 b = rdI g 44 (6 * h + b))) rt)) (nI h)) (nI (h + 1)) g1 := by
    intro K g1 h x hh hk fu
    induction fu with
    | zero => intro i h1 h2; omega
    | succ fu ih =>
      intro i h1 h2
      rw [m_X10_which_17, hk 40 33 (by omega) (by omega), e3]
      by_cases q : i = rt
      · subst q
        rw [if_pos (by rw [nI_leI (by omega) (by omega)]; omega), nI_1]
        cases alN (fun b => decide (rdI g 51 b < 0) || decide (rdI g 51 b = rdI g 44 (6 * h + b))) i
        · rw [if_pos (show bz false = 0 from rfl)]
          rfl
        · rw [if_neg (show ¬ bz true = 0 by decide)]
          rfl
      · have e := ih (i + 1) (by omega) (by omega)
        rw [if_neg (by rw [nI_leI (by omega) (by omega)]; omega)]
        cases z : alN (fun b => decide (rdI g 51 b < 0) || decide (rdI g 51 b = rdI g 44 (6 * h + b))) i with
        | false =>
          rw [alN, z, Bool.false_and] at e
          rw [if_pos (show bz false = 0 from rfl), nI_1]
          exact e
        | true =>
          rw [alN, z, Bool.true_and] at e
          have hix : (6 : Int32) * nI h + nI i = nI (6 * h + i) := by
            rw [show (6 : Int32) = nI 6 from rfl, pk_mul, nI_add]
          rw [if_neg (show ¬ bz true = 0 by decide), hix, ix_nI (by omega) (by omega), gdd_true, nI_clamp (by omega), hk 51 i (by omega) (by omega), nI_1, gdd_true, ix_nI (by omega) (by omega), gdd_true, nI_clamp (by omega), hk 44 _ (by omega) (by omega)]
          by_cases z1 : rdI g 51 i < 0
          · rw [if_pos z1]
            rw [decide_eq_true z1, Bool.true_or] at e
            exact e
          · rw [if_neg z1]
            rw [decide_eq_false z1, Bool.false_or] at e
            by_cases z2 : rdI g 51 i = rdI g 44 (6 * h + i)
            · rw [if_pos z2]
              rw [decide_eq_true z2] at e
              exact e
            · rw [if_neg z2]
              rw [decide_eq_false z2] at e
              exact e
  have km : ∀ (g1 : Mm), (∀ c i, c ≠ 30 → c ≠ 29 → rdI g1 c i = rdI g c i) → ∀ (fu i : Nat), nh < i + fu → i ≤ nh → m_X10_which_4 fu (nI (bm (fun h => alN (fun b => decide (rdI g 51 b < 0) || decide (rdI g 51 b = rdI g 44 (6 * h + b))) rt) i)) (nI i) g1 = some (nI (bm (fun h => alN (fun b => decide (rdI g 51 b < 0) || decide (rdI g 51 b = rdI g 44 (6 * h + b))) rt) nh), wrI g1 40 33 0) := by
    intro g1 hk fu
    induction fu with
    | zero => intro i h1 h2; omega
    | succ fu ih =>
      intro i h1 h2
      rw [m_X10_which_4, hk 40 5 (by omega) (by omega), t5]
      by_cases q : i = nh
      · subst q
        rw [if_pos (by rw [nI_leI (by omega) (by omega)]; omega)]
      · have e := ih (i + 1) (by omega) (by omega)
        have e9 := ki (m_X10_which_4 fu) g1 i (bm (fun h => alN (fun b => decide (rdI g 51 b < 0) || decide (rdI g 51 b = rdI g 44 (6 * h + b))) rt) i) (by omega) hk F 0 (by omega) (by omega)
        rw [if_neg (by rw [nI_leI (by omega) (by omega)]; omega), eF]
        refine Eq.trans e9 ?_
        cases z : alN (fun b => decide (rdI g 51 b < 0) || decide (rdI g 51 b = rdI g 44 (6 * i + b))) rt with
        | false =>
          have h := bm_f (p := fun h => alN (fun b => decide (rdI g 51 b < 0) || decide (rdI g 51 b = rdI g 44 (6 * h + b))) rt) (n := i) (by omega) z
          rw [show bz false = (0 : Int32) from rfl, h]
          exact e
        | true =>
          have h := bm_t (p := fun h => alN (fun b => decide (rdI g 51 b < 0) || decide (rdI g 51 b = rdI g 44 (6 * h + b))) rt) (n := i) (by omega) z
          rw [show bz true = (1 : Int32) from rfl, h]
          exact e
  have hm := km (wrI gA 29 3 (nI 0)) kA F 0 (by omega) (by omega)
  have kp : ∀ P : Nat → Nat → Bool, (∀ i, P 30 i = false) → P 29 3 = false → P 40 33 = false → kp_ P g (wrI (wrI gA 29 3 (nI 0)) 40 33 0) := fun P q1 q2 q3 => kp_w q3 (kp_w q2 (fun c i hc => by
    rw [p2, if_neg]
    rintro ⟨rfl, -⟩
    rw [q1] at hc
    cases hc))
  refine ⟨nI (bm (fun h => alN (fun b => decide (rdI g 51 b < 0) || decide (rdI g 51 b = rdI g 44 (6 * h + b))) rt) nh), wrI gA 29 3 (nI 0), wrI (wrI gA 29 3 (nI 0)) 40 33 0, ?_, ?_, nb, nh, hd, cd, ck, tl, 0, nn, na, ra, f, hT.cong (kp _ (fun _ => rfl) rfl rfl), hX.cong (kp _ (fun _ => rfl) rfl rfl), hC.cong (kp _ (fun _ => rfl) rfl rfl), hP.cong (kp _ (fun _ => rfl) rfl rfl), ?_, ?_, hA.cong (kp _ (fun _ => rfl) rfl rfl), hS.cong (kp _ (fun _ => rfl) rfl rfl) (fun i => by unfold rdL; rw [show (wrI (wrI gA 29 3 (nI 0)) 40 33 0).2 = gA.2 from rfl, p3]; exact ⟨rfl, rfl⟩)⟩
  · have hc := kc F 0 (by omega) (by omega)
    rw [m_X9_which, m_X2_hoursHeard, eF]
    rw [show m_X2_hoursHeard_4 F 0 0 g = some (nI (bm (fun h => alN (fun b => decide (rdI g 30 (0 + b) = -1) || decide (rdI g 30 (0 + b) = rdI g 5 (6 * h + b))) nb) nh), g) from hc, bdd_some, m_X2_forgetTold, eF]
    rw [show m_X2_forgetTold_2 F 0 g = some (nI 0, wrI gA 29 3 (nI 0)) from p1, bdd_some, bm_congr hrow]
  · rw [m_X10_which, eF]
    exact hm
  · refine hL.cong ?_
    rcases hL.1 with ⟨rfl, -⟩ | ⟨rfl, -⟩ <;> exact kp _ (fun _ => rfl) rfl rfl
  · refine ⟨⟨Nat.zero_le _, hnn⟩, ⟨?_, ?_, ?_, ?_⟩, fun k hk => ⟨fun h => by omega, fun _ => ?_⟩, fun k hk => ?_⟩
    · rw [rI_wI, if_neg (by omega), rI_wI, if_pos ⟨rfl, rfl⟩]
    · rw [rI_wI, if_neg (by omega), rI_wI, if_neg (by omega), p2, if_neg (by omega)]; exact e2
    · rw [rI_wI, if_pos ⟨rfl, rfl⟩]; rfl
    · rw [rI_wI, if_neg (by omega), rI_wI, if_neg (by omega), p2, if_neg (by omega)]; exact e4
    · rw [rI_wI, if_neg (by omega), rI_wI, if_neg (by omega), p2, if_pos (by omega)]
    · rw [rI_wI, if_neg (by omega), rI_wI, if_neg (by omega), p2, if_neg (by omega), rI_wI, if_neg (by omega), rI_wI, if_neg (by omega), p2, if_neg (by omega)]
      exact e6 k hk
theorem night_loop {rt nn : Nat} (hrt : rt ≤ 6) (hnn : nn < 12) : ∀ (fu i : Nat) (g : Mm), 6 < i + fu → i ≤ 6 → rdI g 40 33 = nI rt → rdI g 40 38 = nI nn → ∃ g', m_X10_night_37 fu (nI i) g = some (nI (nn + 1), wrI (wrI g' 40 33 (nI 0)) 40 38 (nI (nn + 1))) ∧
    (∀ c k, rdI g' c k = if c = 55 ∧ 6 * nn + i ≤ k ∧ k < 6 * nn + 6 then (if k < 6 * nn + rt then rdI g 51 (k - 6 * nn) else -1) else rdI g c k) ∧ g'.2 = g.2 := by
  intro fu
  induction fu with
  | zero => intro i g h1 h2; omega
  | succ fu ih =>
    intro i g h1 h2 h3 h4
    rw [m_X10_night_37]
    by_cases q : i = 6
    · subst q
      refine ⟨g, ?_, fun c k => by rw [if_neg (by omega)], rfl⟩
      simp (disch := omega) only [h4, fa_lit, nI_nm1, nm1_nI, nI_nm1l, Nat.mul_comm _ 6, Nat.mul_comm _ 60, nI_ltI, nI_leI, nI_eq, nI_add, pk_mul, pk_sub, rm_nI, pk_div, nI_clamp, gdd_true, ix_nI, bdd_some, if_pos, if_neg, rI_wI, rI_wL, rL_wI, rL_wL, rI_cI, rI_cL, rL_cI, rL_cL, false_and, and_false, true_and, and_true, if_true, if_false, not_true_eq_false, not_false_eq_true, reduceCtorEq, zb_bz, bz_t, bz_f, Bool.true_eq_false, Bool.false_eq_true]
    · obtain ⟨g', e1, e2, e3⟩ := ih (i + 1) (wrI g 55 (6 * nn + i) (if i < rt then rdI g 51 i else -1)) (by omega) (by omega) (by rw [rI_wI, if_neg (by omega), h3]) (by rw [rI_wI, if_neg (by omega), h4])
      refine ⟨g', ?_, fun c k => ?_, e3⟩
      · rw [← e1]
        by_cases z : i < rt
        · simp (disch := omega) only [h3, h4, fa_lit, nI_nm1, nm1_nI, nI_nm1l, Nat.mul_comm _ 6, Nat.mul_comm _ 60, nI_ltI, nI_leI, nI_eq, nI_add, pk_mul, pk_sub, rm_nI, pk_div, nI_clamp, gdd_true, ix_nI, bdd_some, if_pos, if_neg, rI_wI, rI_wL, rL_wI, rL_wL, rI_cI, rI_cL, rL_cI, rL_cL, false_and, and_false, true_and, and_true, if_true, if_false, not_true_eq_false, not_false_eq_true, reduceCtorEq, zb_bz, bz_t, bz_f, Bool.true_eq_false, Bool.false_eq_true]
        · rw [if_neg (show ¬ i < rt from z)]
          simp (disch := omega) only [h3, h4, fa_lit, nI_nm1, nm1_nI, nI_nm1l, Nat.mul_comm _ 6, Nat.mul_comm _ 60, nI_ltI, nI_leI, nI_eq, nI_add, pk_mul, pk_sub, rm_nI, pk_div, nI_clamp, gdd_true, ix_nI, bdd_some, if_pos, if_neg, rI_wI, rI_wL, rL_wI, rL_wL, rI_cI, rI_cL, rL_cI, rL_cL, false_and, and_false, true_and, and_true, if_true, if_false, not_true_eq_false, not_false_eq_true, reduceCtorEq, zb_bz, bz_t, bz_f, Bool.true_eq_false, Bool.false_eq_true]
      · rw [e2, rI_wI, rI_wI, if_neg (show ¬ (51 = 55 ∧ k - 6 * nn = 6 * nn + i) by omega)]
        by_cases z : c = 55 ∧ 6 * nn + i ≤ k ∧ k < 6 * nn + 6
        · rw [if_pos z]
          by_cases z2 : k = 6 * nn + i
          · rw [if_neg (by omega), if_pos (by omega)]
            subst z2
            by_cases z3 : i < rt
            · rw [if_pos z3, if_pos (by omega), show 6 * nn + i - 6 * nn = i by omega]
            · rw [if_neg z3, if_neg (by omega)]
          · rw [if_pos (by omega)]
        · rw [if_neg z, if_neg (by omega), if_neg (by omega)]
set_option maxHeartbeats 1000000 in
theorem op_night (a0 : Int32) {g : Mm} (hg : gv_ g) : al_ (m_X9_night a0) (m_X10_night a0) g := by
  have hg0 := hg
  obtain ⟨nb, nh, hd, cd, ck, tl, rt, nn, na, ra, f, hT, hX, hC, hP, hL, hE, hA, hS⟩ := hg
  obtain ⟨⟨b1, b2, b3, b4, b5⟩, ⟨t1, t2, t3, t4, t5, t6⟩, t7, t8, t9, t10⟩ := id hT
  obtain ⟨⟨hrt, hnn⟩, ⟨e1, e2, e3, e4⟩, e5, e6⟩ := id hE
  rcases i_cases a0 with h | ⟨v, hv, rfl⟩
  · refine al_.same (r := -1) hg0 ?_ ?_
    · rw [m_X9_night, if_pos (neg_lt0 h)]
    · rw [m_X10_night, in_neg h (by decide), bdd_some, if_pos (show bz false = 0 from rfl)]
  · by_cases hv1 : v ≤ 1
    · by_cases hv0 : v = 0
      · subst hv0
        refine ⟨nI 0, wrI g 29 4 (nI 0), wrI (wrI g 29 4 (nI 0)) 40 38 (nI 0), ?_, ?_, nb, nh, hd, cd, ck, tl, rt, 0, na, ra, f, hT.cong (kp_w rfl (kp_w rfl kp_rf)), hX.cong (kp_w rfl (kp_w rfl kp_rf)), hC.cong (kp_w rfl (kp_w rfl kp_rf)), hP.cong (kp_w rfl (kp_w rfl kp_rf)), ?_, ?_, hA.cong (kp_w rfl (kp_w rfl kp_rf)), hS.cong (kp_w rfl (kp_w rfl kp_rf)) (fun i => ⟨rfl, rfl⟩)⟩
        · simp (disch := omega) only [m_X9_night, fa_lit, nI_nm1, nm1_nI, nI_nm1l, Nat.mul_comm _ 6, Nat.mul_comm _ 60, nI_ltI, nI_leI, nI_eq, nI_add, pk_mul, pk_sub, rm_nI, pk_div, nI_clamp, gdd_true, ix_nI, bdd_some, if_pos, if_neg, rI_wI, rI_wL, rL_wI, rL_wL, rI_cI, rI_cL, rL_cI, rL_cL, false_and, and_false, true_and, and_true, if_true, if_false, not_true_eq_false, not_false_eq_true, reduceCtorEq, zb_bz, bz_t, bz_f, Bool.true_eq_false, Bool.false_eq_true]
        · simp (disch := omega) only [m_X10_night, in_nI 0 1 0 1 hv rfl rfl, decide_eq_true, fa_lit, nI_nm1, nm1_nI, nI_nm1l, Nat.mul_comm _ 6, Nat.mul_comm _ 60, nI_ltI, nI_leI, nI_eq, nI_add, pk_mul, pk_sub, rm_nI, pk_div, nI_clamp, gdd_true, ix_nI, bdd_some, if_pos, if_neg, rI_wI, rI_wL, rL_wI, rL_wL, rI_cI, rI_cL, rL_cI, rL_cL, false_and, and_false, true_and, and_true, if_true, if_false, not_true_eq_false, not_false_eq_true, reduceCtorEq, zb_bz, bz_t, bz_f, Bool.true_eq_false, Bool.false_eq_true]
        · refine hL.cong ?_
          rcases hL.1 with ⟨rfl, -⟩ | ⟨rfl, -⟩ <;> exact (kp_w rfl (kp_w rfl kp_rf))
        · refine ⟨⟨hrt, Nat.zero_le _⟩, ⟨?_, ?_, ?_, ?_⟩, fun k hk => ?_, fun k hk => by omega⟩
          · simp (disch := omega) only [e1, fa_lit, nI_nm1, nm1_nI, nI_nm1l, Nat.mul_comm _ 6, Nat.mul_comm _ 60, nI_ltI, nI_leI, nI_eq, nI_add, pk_mul, pk_sub, rm_nI, pk_div, nI_clamp, gdd_true, ix_nI, bdd_some, if_pos, if_neg, rI_wI, rI_wL, rL_wI, rL_wL, rI_cI, rI_cL, rL_cI, rL_cL, false_and, and_false, true_and, and_true, if_true, if_false, not_true_eq_false, not_false_eq_true, reduceCtorEq, zb_bz, bz_t, bz_f, Bool.true_eq_false, Bool.false_eq_true]
          · simp (disch := omega) only [fa_lit, nI_nm1, nm1_nI, nI_nm1l, Nat.mul_comm _ 6, Nat.mul_comm _ 60, nI_ltI, nI_leI, nI_eq, nI_add, pk_mul, pk_sub, rm_nI, pk_div, nI_clamp, gdd_true, ix_nI, bdd_some, if_pos, if_neg, rI_wI, rI_wL, rL_wI, rL_wL, rI_cI, rI_cL, rL_cI, rL_cL, false_and, and_false, true_and, and_true, if_true, if_false, not_true_eq_false, not_false_eq_true, reduceCtorEq, zb_bz, bz_t, bz_f, Bool.true_eq_false, Bool.false_eq_true]
          · simp (disch := omega) only [e3, fa_lit, nI_nm1, nm1_nI, nI_nm1l, Nat.mul_comm _ 6, Nat.mul_comm _ 60, nI_ltI, nI_leI, nI_eq, nI_add, pk_mul, pk_sub, rm_nI, pk_div, nI_clamp, gdd_true, ix_nI, bdd_some, if_pos, if_neg, rI_wI, rI_wL, rL_wI, rL_wL, rI_cI, rI_cL, rL_cI, rL_cL, false_and, and_false, true_and, and_true, if_true, if_false, not_true_eq_false, not_false_eq_true, reduceCtorEq, zb_bz, bz_t, bz_f, Bool.true_eq_false, Bool.false_eq_true]
          · simp (disch := omega) only [fa_lit, nI_nm1, nm1_nI, nI_nm1l, Nat.mul_comm _ 6, Nat.mul_comm _ 60, nI_ltI, nI_leI, nI_eq, nI_add, pk_mul, pk_sub, rm_nI, pk_div, nI_clamp, gdd_true, ix_nI, bdd_some, if_pos, if_neg, rI_wI, rI_wL, rL_wI, rL_wL, rI_cI, rI_cL, rL_cI, rL_cL, false_and, and_false, true_and, and_true, if_true, if_false, not_true_eq_false, not_false_eq_true, reduceCtorEq, zb_bz, bz_t, bz_f, Bool.true_eq_false, Bool.false_eq_true]
          · simp (disch := omega) only [fa_lit, nI_nm1, nm1_nI, nI_nm1l, Nat.mul_comm _ 6, Nat.mul_comm _ 60, nI_ltI, nI_leI, nI_eq, nI_add, pk_mul, pk_sub, rm_nI, pk_div, nI_clamp, gdd_true, ix_nI, bdd_some, if_pos, if_neg, rI_wI, rI_wL, rL_wI, rL_wL, rI_cI, rI_cL, rL_cI, rL_cL, false_and, and_false, true_and, and_true, if_true, if_false, not_true_eq_false, not_false_eq_true, reduceCtorEq, zb_bz, bz_t, bz_f, Bool.true_eq_false, Bool.false_eq_true]
            exact e5 k hk
      · have hv11 : v = 1 := by omega
        subst hv11
        by_cases hf : nn = 12
        · subst hf
          refine al_.same (r := -3) hg0 ?_ ?_
          · simp (disch := omega) only [m_X9_night, m_X2_keepTold, e2, fa_lit, nI_nm1, nm1_nI, nI_nm1l, Nat.mul_comm _ 6, Nat.mul_comm _ 60, nI_ltI, nI_leI, nI_eq, nI_add, pk_mul, pk_sub, rm_nI, pk_div, nI_clamp, gdd_true, ix_nI, bdd_some, if_pos, if_neg, rI_wI, rI_wL, rL_wI, rL_wL, rI_cI, rI_cL, rL_cI, rL_cL, false_and, and_false, true_and, and_true, if_true, if_false, not_true_eq_false, not_false_eq_true, reduceCtorEq, zb_bz, bz_t, bz_f, Bool.true_eq_false, Bool.false_eq_true]
          · simp (disch := omega) only [m_X10_night, in_nI 0 1 0 1 hv rfl rfl, decide_eq_true, e4, fa_lit, nI_nm1, nm1_nI, nI_nm1l, Nat.mul_comm _ 6, Nat.mul_comm _ 60, nI_ltI, nI_leI, nI_eq, nI_add, pk_mul, pk_sub, rm_nI, pk_div, nI_clamp, gdd_true, ix_nI, bdd_some, if_pos, if_neg, rI_wI, rI_wL, rL_wI, rL_wL, rI_cI, rI_cL, rL_cI, rL_cL, false_and, and_false, true_and, and_true, if_true, if_false, not_true_eq_false, not_false_eq_true, reduceCtorEq, zb_bz, bz_t, bz_f, Bool.true_eq_false, Bool.false_eq_true]
        · obtain ⟨F, eF, hF⟩ := fu_get
          obtain ⟨gA, p1, p2, p3⟩ := told_loop F 0 (wrI (cpI g 30 0 31 (6 * nn) 6) 29 4 (nI (nn + 1))) (by omega) (by omega)
          have kA : ∀ c i, c ≠ 30 → c ≠ 29 → c ≠ 31 → rdI (wrI gA 29 3 (nI 0)) c i = rdI g c i := fun c i q1 q2 q3 => by
            rw [rI_wI, if_neg (by omega), p2, if_neg (by omega), rI_wI, if_neg (by omega), rI_cI, if_neg (by omega)]
          obtain ⟨gB, o1, o2, o3⟩ := night_loop (rt := rt) (nn := nn) (by omega) (by omega) F 0 (wrI gA 29 3 (nI 0)) (by omega) (by omega) (by rw [kA _ _ (by omega) (by omega) (by omega), e3]) (by rw [kA _ _ (by omega) (by omega) (by omega), e4])
          have kp : ∀ P : Nat → Nat → Bool, (∀ i, P 30 i = false) → (∀ i, P 29 i = false) → (∀ i, P 31 i = false) → (∀ i, P 55 i = false) → P 40 33 = false → P 40 38 = false → kp_ P g (wrI (wrI gB 40 33 (nI 0)) 40 38 (nI (nn + 1))) := fun P q1 q2 q3 q4 q5 q6 => kp_w q6 (kp_w q5 (fun c i hc => by
            have r1 : c ≠ 30 := by rintro rfl; rw [q1] at hc; cases hc
            have r2 : c ≠ 29 := by rintro rfl; rw [q2] at hc; cases hc
            have r3 : c ≠ 31 := by rintro rfl; rw [q3] at hc; cases hc
            have r4 : c ≠ 55 := by rintro rfl; rw [q4] at hc; cases hc
            rw [o2, if_neg (by omega), kA c i r1 r2 r3]))
          have hacp : acp (nI (6 * nn)) (6 : Int32) 72 = true := by
            have hall : ∀ n, n < 12 → acp (nI (6 * n)) (6 : Int32) 72 = true := by decide +kernel
            exact hall nn (by omega)
          refine ⟨nI (nn + 1), wrI gA 29 3 (nI 0), wrI (wrI gB 40 33 (nI 0)) 40 38 (nI (nn + 1)), ?_, ?_, nb, nh, hd, cd, ck, tl, 0, nn + 1, na, ra, f, hT.cong (kp _ (fun _ => rfl) (fun _ => rfl) (fun _ => rfl) (fun _ => rfl) rfl rfl), hX.cong (kp _ (fun _ => rfl) (fun _ => rfl) (fun _ => rfl) (fun _ => rfl) rfl rfl), hC.cong (kp _ (fun _ => rfl) (fun _ => rfl) (fun _ => rfl) (fun _ => rfl) rfl rfl), hP.cong (kp _ (fun _ => rfl) (fun _ => rfl) (fun _ => rfl) (fun _ => rfl) rfl rfl), ?_, ?_, hA.cong (kp _ (fun _ => rfl) (fun _ => rfl) (fun _ => rfl) (fun _ => rfl) rfl rfl), hS.cong (kp _ (fun _ => rfl) (fun _ => rfl) (fun _ => rfl) (fun _ => rfl) rfl rfl) (fun i => by unfold rdL; rw [show (wrI (wrI gB 40 33 (nI 0)) 40 38 (nI (nn + 1))).2 = gB.2 from rfl, o3, show (wrI gA 29 3 (nI 0)).2 = gA.2 from rfl, p3]; exact ⟨rfl, rfl⟩)⟩
          · have e6n : nI nn * (6 : Int32) = nI (6 * nn) := by rw [show (6 : Int32) = nI 6 from rfl, pk_mul, Nat.mul_comm]
            have e0n : (0 : Int32).toNatClampNeg = 0 := rfl
            have e66 : (6 : Int32).toNatClampNeg = 6 := rfl
            have r294 : rdI (cpI g 30 0 31 (6 * nn) 6) 29 4 = nI nn := by rw [rI_cI, if_neg (by omega), e2]
            have r2 : rdI (wrI gA 29 3 (nI 0)) 29 4 = nI (nn + 1) := by rw [rI_wI, if_neg (by omega), p2, if_neg (by omega), rI_wI, if_pos ⟨rfl, rfl⟩]
            rw [m_X9_night, if_neg (by decide), if_pos (by decide), if_neg (by decide), m_X2_keepTold, e2, if_pos (show nI nn < (12 : Int32) from (nI_ltI (b := 12) (by omega) (by omega)).mpr (by omega)), show acp (0 : Int32) (6 : Int32) 6 = true by decide, gdd_true, e6n, hacp, gdd_true, e0n, e66, nI_clamp (show 6 * nn < 2 ^ 31 by omega), r294, nI_1, m_X2_forgetTold, eF]
            rw [show m_X2_forgetTold_2 F 0 (wrI (cpI g 30 0 31 (6 * nn) 6) 29 4 (nI (nn + 1))) = some (nI 0, wrI gA 29 3 (nI 0)) from p1, bdd_some, bdd_some, if_neg (by decide), r2]
          · rw [m_X10_night, in_nI 0 1 0 1 hv rfl rfl, decide_eq_true (by omega), bdd_some, if_neg (show ¬ bz true = 0 by decide), if_neg (by decide), kA _ _ (by omega) (by omega) (by omega), e4, if_neg (show ¬ nI nn = (12 : Int32) from fun z => hf ((nI_eq (b := 12) (by omega) (by omega)).mp z)), eF]
            exact o1
          · refine hL.cong ?_
            rcases hL.1 with ⟨rfl, -⟩ | ⟨rfl, -⟩ <;> exact kp _ (fun _ => rfl) (fun _ => rfl) (fun _ => rfl) (fun _ => rfl) rfl rfl
          · refine ⟨⟨Nat.zero_le _, by omega⟩, ⟨?_, ?_, ?_, ?_⟩, fun k hk => ⟨fun h => by omega, fun _ => ?_⟩, fun k hk => ?_⟩
            · rw [rI_wI, if_neg (by omega), rI_wI, if_neg (by omega), o2, if_neg (by omega), rI_wI, if_pos ⟨rfl, rfl⟩]
            · rw [rI_wI, if_neg (by omega), rI_wI, if_neg (by omega), o2, if_neg (by omega), rI_wI, if_neg (by omega), p2, if_neg (by omega), rI_wI, if_pos ⟨rfl, rfl⟩]
            · rw [rI_wI, if_neg (by omega), rI_wI, if_pos ⟨rfl, rfl⟩]
            · rw [rI_wI, if_pos ⟨rfl, rfl⟩]
            · rw [rI_wI, if_neg (by omega), rI_wI, if_neg (by omega), o2, if_neg (by omega), rI_wI, if_neg (by omega), p2, if_pos (by omega)]
            · have c31 : rdI (wrI (wrI gB 40 33 (nI 0)) 40 38 (nI (nn + 1))) 31 k = if 6 * nn ≤ k ∧ k < 6 * nn + 6 then rdI g 30 (k - 6 * nn) else rdI g 31 k := by
                rw [rI_wI, if_neg (by omega), rI_wI, if_neg (by omega), o2, if_neg (by omega), rI_wI, if_neg (by omega), p2, if_neg (by omega), rI_wI, if_neg (by omega), rI_cI]
                simp only [true_and, Nat.zero_add]
              have c55 : rdI (wrI (wrI gB 40 33 (nI 0)) 40 38 (nI (nn + 1))) 55 k = if 6 * nn ≤ k ∧ k < 6 * nn + 6 then (if k < 6 * nn + rt then rdI g 51 (k - 6 * nn) else -1) else rdI g 55 k := by
                rw [rI_wI, if_neg (by omega), rI_wI, if_neg (by omega), o2, kA 51 _ (by omega) (by omega) (by omega), kA 55 _ (by omega) (by omega) (by omega)]
                simp only [true_and, Nat.add_zero]
              rw [c31, c55]
              by_cases z : 6 * nn ≤ k ∧ k < 6 * nn + 6
              · rw [if_pos z, if_pos z]
                obtain ⟨r1, r2⟩ := e5 (k - 6 * nn) (by omega)
                by_cases z2 : k < 6 * nn + rt
                · rw [if_pos z2]
                  exact r1 (by omega)
                · rw [if_neg z2, r2 (by omega)]
                  exact ⟨rfl, Or.inl rfl⟩
              · rw [if_neg z, if_neg z]
                exact e6 k (by omega)
    · refine al_.same (r := -1) hg0 ?_ ?_
      · simp (disch := omega) only [m_X9_night, fa_lit, nI_nm1, nm1_nI, nI_nm1l, Nat.mul_comm _ 6, Nat.mul_comm _ 60, nI_ltI, nI_leI, nI_eq, nI_add, pk_mul, pk_sub, rm_nI, pk_div, nI_clamp, gdd_true, ix_nI, bdd_some, if_pos, if_neg, rI_wI, rI_wL, rL_wI, rL_wL, rI_cI, rI_cL, rL_cI, rL_cL, false_and, and_false, true_and, and_true, if_true, if_false, not_true_eq_false, not_false_eq_true, reduceCtorEq, zb_bz, bz_t, bz_f, Bool.true_eq_false, Bool.false_eq_true]
      · simp (disch := omega) only [m_X10_night, in_nI 0 1 0 1 hv rfl rfl, decide_eq_false, fa_lit, nI_nm1, nm1_nI, nI_nm1l, Nat.mul_comm _ 6, Nat.mul_comm _ 60, nI_ltI, nI_leI, nI_eq, nI_add, pk_mul, pk_sub, rm_nI, pk_div, nI_clamp, gdd_true, ix_nI, bdd_some, if_pos, if_neg, rI_wI, rI_wL, rL_wI, rL_wL, rI_cI, rI_cL, rL_cI, rL_cL, false_and, and_false, true_and, and_true, if_true, if_false, not_true_eq_false, not_false_eq_true, reduceCtorEq, zb_bz, bz_t, bz_f, Bool.true_eq_false, Bool.false_eq_true]
