theorem op_least (a0 : Int32) {g : Mm} (hg : gv_ g) : al_ (m_X9_least a0) (m_X10_least a0) g := by
  have hg0 := hg
  obtain ⟨nb, nh, hd, cd, ck, tl, rt, nn, na, ra, f, hT, hX, hC, hP, hL, hE, hA, hS⟩ := hg
  obtain ⟨⟨b1, b2, b3, b4, b5⟩, ⟨t1, t2, t3, t4, t5, t6⟩, t7, t8, t9, t10⟩ := id hT
  obtain ⟨x1, x2, x3⟩ := id hX
  by_cases hhb : hb_ nb nh a0
  · have hcell : ∀ a b, a < nh → b < nb → cell_ nb nh (nI (10 * a + b)) = true := fun a b ha hb => by
      unfold cell_
      rw [nI_toInt (by omega), decide_eq_true (by omega), Bool.true_and, Bool.and_eq_true, decide_eq_true_eq, decide_eq_true_eq]
      omega
    have hc : m_X9_least a0 g = m_X9_least_18 a0 g := by
      rw [m_X9_least]
      rcases hhb with rfl | ⟨a, b, ha, hb, rfl⟩
      · rw [if_pos rfl]
      · rw [if_neg (hb_1 (by omega) (by omega)), m8_hasCell t1 t2 b1 b3, hcell a b ha hb, bdd_some, if_neg (show ¬ bz true = 0 by decide)]
    have hm : ∀ g1, rdI g1 40 4 = nI nb → rdI g1 40 5 = nI nh → m_X10_least a0 g1 = m_X10_least_15 a0 g1 := by
      intro g1 u1 u2
      rw [m_X10_least]
      rcases hhb with rfl | ⟨a, b, ha, hb, rfl⟩
      · rw [if_pos rfl]
      · rw [if_neg (hb_1 (by omega) (by omega)), m10_isCell u1 u2 b1 b3, hcell a b ha hb, bdd_some, if_neg (show ¬ bz true = 0 by decide)]
    by_cases n13 : 1 ≤ nb ∧ nb ≤ 3
    · obtain ⟨nb1, n3⟩ := n13
      have mo2 : ∀ b, b < nb → rdI g 2 b = nI (rdI g 2 b).toNatClampNeg ∧ rdI g 41 b = nI (rdI g 2 b).toNatClampNeg ∧ (rdI g 2 b).toNatClampNeg ≤ 15 := fun b hb => by
        obtain ⟨⟨k, k1, k2, e⟩, -⟩ := t8 b hb
        rw [(t7 b (by omega)).1, e, nI_clamp (by omega)]
        exact ⟨rfl, rfl, k2⟩
      have hsb : sb_ nb nh hd (fun b => (rdI g 2 b).toNatClampNeg) g := ⟨⟨nb1, n3, b3, b4, b5⟩, ⟨t1, t2, t3⟩, fun b hb => ⟨(mo2 b hb).1, (mo2 b hb).2.2⟩⟩
      have hsr0 : sr_ nb nh hd (fun b => (rdI g 2 b).toNatClampNeg) g := ⟨⟨nb1, n3, b3, b4, b5⟩, ⟨t4, t5, t6⟩, fun b hb => ⟨(mo2 b hb).2.1, (mo2 b hb).2.2⟩⟩
      have hnb0 : ¬ nI nb = (0 : Int32) := fun w => by have := (nI_eq (b := 0) (by omega) (by omega)).mp w; omega
      have hnb3 : ¬ (3 : Int32) < nI nb := fun w => by have := (nI_ltI (a := 3) (by omega) (by omega)).mp w; omega
      by_cases n4 : nh ≤ 4
      · have hnh4 : ¬ (4 : Int32) < nI nh := fun w => by have := (nI_ltI (a := 4) (by omega) (by omega)).mp w; omega
        by_cases hfew : pw_ (fun b => (rdI g 2 b).toNatClampNeg) nb ^ nh ≤ 65536
        · have hpos := pw_pos (fun b => (rdI g 2 b).toNatClampNeg) nb
          have hpp : 0 < pw_ (fun b => (rdI g 2 b).toNatClampNeg) nb ^ nh := Nat.pow_pos hpos
          have hmr : mrv 6 (fun a => (rdI g 6 a).toNatClampNeg) g := fun a ha => by
            obtain ⟨m, m1, m2, -⟩ := x2 a ha
            have := nI_lt2 m1 b3
            show rdI g 6 a = nI (rdI g 6 a).toNatClampNeg ∧ (rdI g 6 a).toNatClampNeg < 2 ^ 24
            rw [m2, nI_clamp (by omega)]
            exact ⟨rfl, this⟩
          have hM : mxv 45 (mx_ g) g := fun a ha => by
            refine ⟨(rdI g 6 a).toNatClampNeg, (hmr a ha).2, ?_, fun b _ => rfl⟩
            rw [x1 a ha]
            exact (hmr a ha).1
          obtain ⟨F, eF, hF⟩ := fu_get
          -- the class
          have f0 : fr_ pCl g (wrI g 25 4 (-1)) := fr_.rf.w _ rfl
          have hst0 : st_ nb nh hd (fun b => (rdI g 2 b).toNatClampNeg) (fun a => (rdI g 6 a).toNatClampNeg) 0 0 none (wrI g 25 4 (-1)) := by
            refine ⟨hsb.fr f0 (fun _ => rfl) (fun _ => rfl), fun a ha => by rw [f0.1 6 a rfl]; exact hmr a ha, fun a b ha => absurd ha (Nat.not_lt_zero _), ?_, fun X hX => by cases hX⟩
            rw [rI_wI, if_pos ⟨rfl, rfl⟩]
            rfl
          obtain ⟨r, g1, c1, c2, c3, c4⟩ := fill_c (nb := nb) (nh := nh) (hd := hd) (mo := fun b => (rdI g 2 b).toNatClampNeg) (mr := fun a => (rdI g 6 a).toNatClampNeg) (M := mx_ g) (fun a b _ _ => rfl) x3 n4 nh 0 0 14 none _ (Nat.zero_add _) (by omega) (by rw [Nat.pow_zero]; omega) hst0 (fun a ha => absurd ha (Nat.not_lt_zero _)) (fun Y hY => by rw [Nat.zero_mul] at hY; exact absurd hY (Nat.not_lt_zero _)) (fun _ X hX => by cases hX)
          rw [Nat.zero_add, Nat.one_mul] at c3
          have f1 := f0.tr c4
          have s1 : sc_ g g1 := fr_sc f1 (fun c i z => by
            unfold pCl at z
            rw [decide_eq_true_eq] at z
            exact (by unfold scr; rw [decide_eq_true (show 23 ≤ c ∧ c ≤ 28 by omega)]; rfl))
          -- the reference
          obtain ⟨g2, e2, e3, e4⟩ := aside_m F 0 g1 (by omega) (by omega)
          obtain ⟨g3, e5, e6, e7⟩ := zero_m a0 F 0 g2 (by omega) (by omega)
          have k3 : ∀ c i, c ≠ 52 → ¬ (c = 44 ∧ i < 144) → rdI g3 c i = rdI g1 c i := fun c i q1 q2 => by rw [e6, if_neg (by omega), e3, if_neg (by omega)]
          have hms : ms_ nb nh hd (fun b => (rdI g 2 b).toNatClampNeg) (mx_ g) 0 none g3 := by
            refine ⟨⟨⟨nb1, n3, b3, b4, b5⟩, ⟨?_, ?_, ?_⟩, fun b hb => ⟨?_, (mo2 b hb).2.2⟩⟩, fun a ha => ?_, fun a b ha hb => ?_, fun X hX => by cases hX⟩
            · rw [k3 40 4 (by omega) (by omega), f1.1 40 4 rfl]; exact t4
            · rw [k3 40 5 (by omega) (by omega), f1.1 40 5 rfl]; exact t5
            · rw [k3 40 6 (by omega) (by omega), f1.1 40 6 rfl]; exact t6
            · rw [k3 41 b (by omega) (by omega), f1.1 41 b rfl]; exact (mo2 b hb).2.1
            · obtain ⟨m, m1, m2, m3⟩ := hM a ha
              exact ⟨m, m1, by rw [k3 45 a (by omega) (by omega), f1.1 45 a rfl]; exact m2, m3⟩
            · rw [e6, if_pos ⟨rfl, Nat.zero_le _, by omega⟩, TN, cdg_0, rdig_0]
              rfl
          obtain ⟨r', g4, d1, d2, d3, d4⟩ := le79 (nb := nb) (nh := nh) (hd := hd) (mo := fun b => (rdI g 2 b).toNatClampNeg) (M := mx_ g) b2 a0 F 0 none g3 (by omega) hpp hms (fun Y hY => absurd hY (Nat.not_lt_zero _))
          have er := lb_uniq c3 d1
          subst er
          obtain ⟨g5, e8, e9, e10⟩ := back_m F 0 g4 (by omega) (by omega)
          have s5 : sc_ g g5 := by
            refine ⟨fun c i z => ?_, (((e10.trans d3.2).trans e7).trans e4).trans f1.2⟩
            rw [e9]
            by_cases w : c = 44 ∧ 0 ≤ i ∧ i < 144
            · rw [if_pos w, d3.1 52 i (decide_eq_false (by omega)), e6, if_neg (by omega), e3, if_pos (by omega), w.1, f1.1 44 i rfl]
            · have hz := z
              unfold scr at hz
              rw [Bool.or_eq_false_iff, Bool.or_eq_false_iff, decide_eq_false_iff_not, decide_eq_false_iff_not, decide_eq_false_iff_not] at hz
              rw [if_neg w, d3.1 c i (decide_eq_false (by omega)), e6, if_neg (by omega), e3, if_neg (by omega), s1.1 c i z]
          have lb : m_X10_laysBack g4 = some (0, g5) := by
            rw [m_X10_laysBack, eF]
            exact e8
          have xm : m_X10_least a0 g1 = fin79 a0 (gp_o (r.map (tot_ nb nh (fun b => (rdI g 2 b).toNatClampNeg)))) g4 := by
            have u4 : rdI g1 40 4 = nI nb := by rw [f1.1 40 4 rfl]; exact t4
            have u5 : rdI g1 40 5 = nI nh := by rw [f1.1 40 5 rfl]; exact t5
            have hsr1 : sr_ nb nh hd (fun b => (rdI g 2 b).toNatClampNeg) g1 := hsr0.fr f1 rfl rfl rfl (fun _ => rfl)
            rw [hm g1 u4 u5, m_X10_least_15, u4, if_neg hnb0, if_neg hnb3, u5, if_neg hnh4, few_m hsr1, decide_eq_true hfew, bdd_some, if_neg (show ¬ bz true = 0 by decide), m_X10_laysAside, eF]
            rw [show m_X10_laysAside_2 F 0 g1 = some (0, g2) from e2, bdd_some]
            rw [show m_X10_least_54 F a0 0 g2 = _ from e5, eF]
            exact d2
          have xc : m_X9_least_18 a0 g = (if (0 : Int32) ≤ gc_ nb nh (fun b => (rdI g 2 b).toNatClampNeg) r then bdd (m_X5_answerOf a0 (gc_ nb nh (fun b => (rdI g 2 b).toNatClampNeg) r) g1) (fun ra9 ga10 => some (ra9, ga10)) else some ((-2 : Int32), g1)) := by
            rw [m_X9_least_18, tables_c hsb n4, decide_eq_true hfew, bdd_some, if_neg (show ¬ bz true = 0 by decide), m_X5_leastTable]
            rw [show gs_ 14 0 0 0 0 0 (wrI g 25 4 (-1)) = some (0, g1) from c1, bdd_some, bdd_some, c2.2.2.2.1]
          have htot : ∀ Y, tot_ nb nh (fun b => (rdI g 2 b).toNatClampNeg) Y < 5000 := fun Y => by
            have := tot_le (nh := nh) n3 (fun b hb => (mo2 b hb).2.2) Y
            omega
          cases r with
          | none =>
            refine ⟨-2, g1, g5, ?_, ?_, s5.gv hg0⟩
            · rw [hc, xc, if_neg (show ¬ (0 : Int32) ≤ gc_ nb nh (fun b => (rdI g 2 b).toNatClampNeg) none from (by decide : ¬ (0 : Int32) ≤ -1))]
            · rw [xm, fin79, lb, bdd_some, gp_none, if_pos rfl]
          | some X =>
            have hX := htot X
            have hmain : ∃ v, bdd (m_X5_answerOf a0 (nI (tot_ nb nh (fun b => (rdI g 2 b).toNatClampNeg) X)) g1) (fun ra9 ga10 => some (ra9, ga10)) = some (v, g1) ∧ fin79 a0 (nI (tot_ nb nh (fun b => (rdI g 2 b).toNatClampNeg) X)) g4 = some (v, g5) := by
              rw [fin79, lb, bdd_some, if_neg (nn2 (by omega))]
              rcases hhb with rfl | ⟨a, b, ha, hb, rfl⟩
              · exact ⟨nI (tot_ nb nh (fun b => (rdI g 2 b).toNatClampNeg) X), by rw [m_X5_answerOf, if_pos rfl, bdd_some], by rw [if_pos rfl]⟩
              · refine ⟨nI (TN nb nh (fun b => (rdI g 2 b).toNatClampNeg) X a b), ?_, ?_⟩
                · rw [m_X5_answerOf, if_neg (hb_1 (by omega) (by omega)), (hb_ix (by omega) (by omega)).1, ix_nI (by omega) (by omega), gdd_true, nI_clamp (by omega), c2.2.2.2.2 X rfl a b ha hb, bdd_some]
                · rw [if_neg (hb_1 (by omega) (by omega)), (hb_ix (by omega) (by omega)).2, ix_nI (by omega) (by omega), gdd_true, nI_clamp (by omega), e9, if_neg (by omega), d4 X rfl a b ha hb]
            obtain ⟨v, v1, v2⟩ := hmain
            refine ⟨v, g1, g5, ?_, ?_, s5.gv hg0⟩
            · rw [hc, xc]
              show (if (0 : Int32) ≤ nI (tot_ nb nh (fun b => (rdI g 2 b).toNatClampNeg) X) then _ else _) = _
              rw [if_pos (nI_pos' (by omega))]
              exact v1
            · rw [xm]
              exact v2
        · refine al_.same (r := -5) hg0 ?_ ?_
          · rw [hc, m_X9_least_18, tables_c hsb n4, decide_eq_false hfew, bdd_some, if_pos (show bz false = 0 from rfl)]
          · rw [hm g t4 t5, m_X10_least_15, t4, if_neg hnb0, if_neg hnb3, t5, if_neg hnh4, few_m hsr0, decide_eq_false hfew, bdd_some, if_pos (show bz false = 0 from rfl)]
      · refine al_.same (r := -5) hg0 ?_ ?_
        · rw [hc, m_X9_least_18, m_X5_mayTryAllTables, rows_c t1 b1, decide_eq_true ⟨nb1, n3⟩, bdd_some, if_neg (show ¬ bz true = 0 by decide), t2, if_neg (show ¬ nI nh ≤ (4 : Int32) from fun w => n4 ((nI_leI (b := 4) (by omega) (by omega)).mp w)), bdd_some, if_pos rfl]
        · rw [hm g t4 t5, m_X10_least_15, t4, if_neg hnb0, if_neg hnb3, t5, if_pos (show (4 : Int32) < nI nh from (nI_ltI (a := 4) (by omega) (by omega)).mpr (by omega))]
    · refine al_.same (r := -5) hg0 ?_ ?_
      · rw [hc, m_X9_least_18, m_X5_mayTryAllTables, rows_c t1 b1, decide_eq_false n13, bdd_some, if_pos (show bz false = 0 from rfl), bdd_some, if_pos rfl]
      · rw [hm g t4 t5, m_X10_least_15, t4]
        by_cases n0 : nb = 0
        · rw [if_pos (show nI nb = (0 : Int32) by rw [n0]; rfl)]
        · rw [if_neg (show ¬ nI nb = (0 : Int32) from fun w => n0 ((nI_eq (b := 0) (by omega) (by omega)).mp w)), if_pos (show (3 : Int32) < nI nb from (nI_ltI (a := 3) (by omega) (by omega)).mpr (by omega))]
  · have h1 : ¬ a0 = -1 := fun w => hhb (Or.inl w)
    have hcell : cell_ nb nh a0 = false := by
      cases z : cell_ nb nh a0 with
      | false => rfl
      | true =>
        obtain ⟨a, b, ha, hb, e, -⟩ := cell_get z b1
        exact absurd (Or.inr ⟨a, b, ha, hb, e⟩) hhb
    refine al_.same (r := -1) hg0 ?_ ?_
    · rw [m_X9_least, if_neg h1, m8_hasCell t1 t2 b1 b3, hcell, bdd_some, if_pos (show bz false = 0 from rfl)]
    · rw [m_X10_least, if_neg h1, m10_isCell t4 t5 b1 b3, hcell, bdd_some, if_pos (show bz false = 0 from rfl)]
