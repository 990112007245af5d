/-! most, undo, redo -/
theorem gv_t.most {nb nh hd : Nat} {g g' : Mm} (hT : gv_t nb nh hd g) {b v : Nat} (hb : b < nb) (hv1 : 1 ≤ v) (hv : v ≤ 15)
    (h : ∀ c i, pl_t c i = true → rdI g' c i = if (c = 2 ∨ c = 41) ∧ i = b then nI v else rdI g c i) : gv_t nb nh hd g' := by
  obtain ⟨h1, ⟨a1, a2, a3, a4, a5, a6⟩, h3, h4, h5, h6⟩ := hT
  have e : ∀ c i, pl_t c i = true → c ≠ 2 → c ≠ 41 → rdI g' c i = rdI g c i := fun c i hc q1 q2 => by rw [h c i hc, if_neg (by omega)]
  refine ⟨h1, ⟨?_, ?_, ?_, ?_, ?_, ?_⟩, fun x hx => ?_, fun x hx => ?_, fun k hk => ?_, fun x y hx hy q => ?_⟩
  · rw [e 1 0 rfl (by omega) (by omega)]; exact a1
  · rw [e 1 1 rfl (by omega) (by omega)]; exact a2
  · rw [e 1 2 rfl (by omega) (by omega)]; exact a3
  · rw [e 40 4 rfl (by omega) (by omega)]; exact a4
  · rw [e 40 5 rfl (by omega) (by omega)]; exact a5
  · rw [e 40 6 rfl (by omega) (by omega)]; exact a6
  · rw [e 42 x rfl (by omega) (by omega), e 43 x rfl (by omega) (by omega), e 3 x rfl (by omega) (by omega), e 4 x rfl (by omega) (by omega), h 41 x rfl, h 2 x rfl]
    by_cases q : x = b
    · rw [if_pos ⟨Or.inr rfl, q⟩, if_pos ⟨Or.inl rfl, q⟩]
      exact ⟨rfl, (h3 x hx).2⟩
    · rw [if_neg (fun z => q z.2), if_neg (fun z => q z.2)]
      exact h3 x hx
  · rw [e 3 x rfl (by omega) (by omega), e 4 x rfl (by omega) (by omega), h 2 x rfl]
    by_cases q : x = b
    · rw [if_pos ⟨Or.inl rfl, q⟩]
      exact ⟨⟨v, hv1, hv, rfl⟩, (h4 x hx).2⟩
    · rw [if_neg (fun z => q z.2)]
      exact h4 x hx
  · rw [e 44 k rfl (by omega) (by omega), e 5 k rfl (by omega) (by omega)]; exact h5 k hk
  · rw [e 5 _ rfl (by omega) (by omega)]; exact h6 x y hx hy q
theorem great_loop {nh b : Nat} {g : Mm} (t2 : rdI g 1 1 = nI nh) (hh : nh ≤ 24) (hb : b < 6) (hT : ∀ h, h < 24 → ∃ u, u ≤ 15 ∧ rdI g 5 (6 * h + b) = nI u) : ∀ (fu i m : Nat), nh < i + fu → i ≤ nh → m ≤ 15 → ∃ r, m_X8_greatestOf_4 fu (nI b) (nI m) (nI i) g = some (nI r, g) ∧ r ≤ 15 ∧ ∀ v, v ≤ 15 → (r ≤ v ↔ m ≤ v ∧ ∀ h u, i ≤ h → h < nh → u ≤ 15 → rdI g 5 (6 * h + b) = nI u → u ≤ v) := by
  intro fu
  induction fu with
  | zero => intro i m h1 h2; omega
  | succ fu ih =>
    intro i m h1 h2 h3
    rw [m_X8_greatestOf_4]
    by_cases q : nh ≤ i
    · refine ⟨m, by simp (disch := omega) only [t2, fa_lit, nI_nm1, nm1_nI, nI_nm1l, Nat.mul_comm _ 6, Nat.mul_comm _ 60, nI_ltI, nI_leI, nI_eq, nI_add, pk_mul, pk_sub, rm_nI, pk_div, nI_clamp, gdd_true, ix_nI, bdd_some, if_pos, if_neg, rI_wI, rI_wL, rL_wI, rL_wL, rI_cI, rI_cL, rL_cI, rL_cL, false_and, and_false, true_and, and_true, if_true, if_false, not_true_eq_false, not_false_eq_true, reduceCtorEq, zb_bz, bz_t, bz_f, Bool.true_eq_false, Bool.false_eq_true], h3, fun v _ => ⟨fun z => ⟨z, fun h u z1 z2 => by omega⟩, fun z => z.1⟩⟩
    · obtain ⟨u, hu, e⟩ := hT i (by omega)
      obtain ⟨r, e1, e2, e3⟩ := ih (i + 1) (max m u) (by omega) (by omega) (by omega)
      refine ⟨r, ?_, e2, fun v hv => ?_⟩
      · by_cases z : m < u
        · rw [show max m u = u by omega] at e1
          simp (disch := omega) only [t2, m8_struck, m_J9_max_7cf53, e, fa_lit, nI_nm1, nm1_nI, nI_nm1l, Nat.mul_comm _ 6, Nat.mul_comm _ 60, nI_ltI, nI_leI, nI_eq, nI_add, pk_mul, pk_sub, rm_nI, pk_div, nI_clamp, gdd_true, ix_nI, bdd_some, if_pos, if_neg, rI_wI, rI_wL, rL_wI, rL_wL, rI_cI, rI_cL, rL_cI, rL_cL, false_and, and_false, true_and, and_true, if_true, if_false, not_true_eq_false, not_false_eq_true, reduceCtorEq, zb_bz, bz_t, bz_f, Bool.true_eq_false, Bool.false_eq_true]
          exact e1
        · rw [show max m u = m by omega] at e1
          simp (disch := omega) only [t2, m8_struck, m_J9_max_7cf53, e, fa_lit, nI_nm1, nm1_nI, nI_nm1l, Nat.mul_comm _ 6, Nat.mul_comm _ 60, nI_ltI, nI_leI, nI_eq, nI_add, pk_mul, pk_sub, rm_nI, pk_div, nI_clamp, gdd_true, ix_nI, bdd_some, if_pos, if_neg, rI_wI, rI_wL, rL_wI, rL_wL, rI_cI, rI_cL, rL_cI, rL_cL, false_and, and_false, true_and, and_true, if_true, if_false, not_true_eq_false, not_false_eq_true, reduceCtorEq, zb_bz, bz_t, bz_f, Bool.true_eq_false, Bool.false_eq_true]
          exact e1
      · rw [e3 v hv]
        constructor
        · rintro ⟨z1, z2⟩
          refine ⟨by omega, fun h w y1 y2 y3 y4 => ?_⟩
          by_cases y : h = i
          · subst y
            rw [e, nI_eq (by omega) (by omega)] at y4
            omega
          · exact z2 h w (by omega) y2 y3 y4
        · rintro ⟨z1, z2⟩
          have := z2 i u (Nat.le_refl _) (by omega) hu e
          exact ⟨by omega, fun h w y1 y2 y3 y4 => z2 h w (by omega) y2 y3 y4⟩
theorem most_loop {nh b v : Nat} {g : Mm} (t5 : rdI g 40 5 = nI nh) (hh : nh ≤ 24) (hb : b < 6) (hv : v ≤ 15) (hT : ∀ h, h < 24 → ∃ u, u ≤ 15 ∧ rdI g 44 (6 * h + b) = nI u) : ∀ (fu i : Nat), nh < i + fu → i ≤ nh →
    ((∀ h u, i ≤ h → h < nh → u ≤ 15 → rdI g 44 (6 * h + b) = nI u → u ≤ v) → m_X10_most_24 fu (nI b) (nI v) (nI i) g = (if rdI g 41 b = nI v then some (rdI g 41 b, wrI g 41 b (nI v)) else bdd (m_X10_keeps (nI (1000 + b)) (rdI g 41 b) (nI v) (wrI g 41 b (nI v))) (fun _ ga6 => some (rdI g 41 b, ga6)))) ∧
    ((¬ ∀ h u, i ≤ h → h < nh → u ≤ 15 → rdI g 44 (6 * h + b) = nI u → u ≤ v) → m_X10_most_24 fu (nI b) (nI v) (nI i) g = some (-1, g)) := by
  intro fu
  induction fu with
  | zero => intro i h1 h2; omega
  | succ fu ih =>
    intro i h1 h2
    rw [m_X10_most_24]
    by_cases q : nh ≤ i
    · refine ⟨fun _ => by simp (disch := omega) only [t5, fa_lit, nI_nm1, nm1_nI, nI_nm1l, Nat.mul_comm _ 6, Nat.mul_comm _ 60, nI_ltI, nI_leI, nI_eq, nI_add, pk_mul, pk_sub, rm_nI, pk_div, nI_clamp, gdd_true, ix_nI, bdd_some, if_pos, if_neg, rI_wI, rI_wL, rL_wI, rL_wL, rI_cI, rI_cL, rL_cI, rL_cL, false_and, and_false, true_and, and_true, if_true, if_false, not_true_eq_false, not_false_eq_true, reduceCtorEq, zb_bz, bz_t, bz_f, Bool.true_eq_false, Bool.false_eq_true], fun z => absurd (fun h u z1 z2 => by omega) z⟩
    · obtain ⟨u, hu, e⟩ := hT i (by omega)
      obtain ⟨e1, e2⟩ := ih (i + 1) (by omega) (by omega)
      by_cases z : u ≤ v
      · have iff : (∀ h w, i ≤ h → h < nh → w ≤ 15 → rdI g 44 (6 * h + b) = nI w → w ≤ v) ↔ (∀ h w, i + 1 ≤ h → h < nh → w ≤ 15 → rdI g 44 (6 * h + b) = nI w → w ≤ v) := by
          constructor
          · exact fun y h w y1 y2 y3 y4 => y h w (by omega) y2 y3 y4
          · intro y h w y1 y2 y3 y4
            by_cases x : h = i
            · subst x
              rw [e, nI_eq (by omega) (by omega)] at y4
              omega
            · exact y h w (by omega) y2 y3 y4
        rw [iff]
        refine ⟨fun y => ?_, fun y => ?_⟩
        · rw [← e1 y]
          simp (disch := omega) only [t5, e, fa_lit, nI_nm1, nm1_nI, nI_nm1l, Nat.mul_comm _ 6, Nat.mul_comm _ 60, nI_ltI, nI_leI, nI_eq, nI_add, pk_mul, pk_sub, rm_nI, pk_div, nI_clamp, gdd_true, ix_nI, bdd_some, if_pos, if_neg, rI_wI, rI_wL, rL_wI, rL_wL, rI_cI, rI_cL, rL_cI, rL_cL, false_and, and_false, true_and, and_true, if_true, if_false, not_true_eq_false, not_false_eq_true, reduceCtorEq, zb_bz, bz_t, bz_f, Bool.true_eq_false, Bool.false_eq_true]
        · rw [← e2 y]
          simp (disch := omega) only [t5, e, fa_lit, nI_nm1, nm1_nI, nI_nm1l, Nat.mul_comm _ 6, Nat.mul_comm _ 60, nI_ltI, nI_leI, nI_eq, nI_add, pk_mul, pk_sub, rm_nI, pk_div, nI_clamp, gdd_true, ix_nI, bdd_some, if_pos, if_neg, rI_wI, rI_wL, rL_wI, rL_wL, rI_cI, rI_cL, rL_cI, rL_cL, false_and, and_false, true_and, and_true, if_true, if_false, not_true_eq_false, not_false_eq_true, reduceCtorEq, zb_bz, bz_t, bz_f, Bool.true_eq_false, Bool.false_eq_true]
      · refine ⟨fun y => absurd (y i u (Nat.le_refl _) (by omega) hu e) z, fun _ => ?_⟩
        simp (disch := omega) only [t5, e, fa_lit, nI_nm1, nm1_nI, nI_nm1l, Nat.mul_comm _ 6, Nat.mul_comm _ 60, nI_ltI, nI_leI, nI_eq, nI_add, pk_mul, pk_sub, rm_nI, pk_div, nI_clamp, gdd_true, ix_nI, bdd_some, if_pos, if_neg, rI_wI, rI_wL, rL_wI, rL_wL, rI_cI, rI_cL, rL_cI, rL_cL, false_and, and_false, true_and, and_true, if_true, if_false, not_true_eq_false, not_false_eq_true, reduceCtorEq, zb_bz, bz_t, bz_f, Bool.true_eq_false, Bool.false_eq_true]
set_option maxHeartbeats 1000000 in
theorem op_most (a0 a1 : Int32) {g : Mm} (hg : gv_ g) : al_ (m_X9_most a0 a1) (m_X10_most a0 a1) g := by
  have hg0 := hg
  obtain ⟨nb, nh, hd, cd, ck, tl, rt, nn, na, ra, f, hT, hX, hC, hP, hL, hE, hA, hS⟩ := hg
  obtain ⟨⟨b1, b2, b3, b4, b5⟩, ⟨t1, t2, t3, t4, t5, t6⟩, t7, t8, t9, t10⟩ := id hT
  cases hbl : lt_n a0 nb with
  | false =>
    refine al_.same (r := -1) hg0 ?_ ?_
    · simp (disch := omega) only [m_X9_most, m8_hasBell t1 (by omega), hbl, fa_lit, nI_nm1, nm1_nI, nI_nm1l, Nat.mul_comm _ 6, Nat.mul_comm _ 60, nI_ltI, nI_leI, nI_eq, nI_add, pk_mul, pk_sub, rm_nI, pk_div, nI_clamp, gdd_true, ix_nI, bdd_some, if_pos, if_neg, rI_wI, rI_wL, rL_wI, rL_wL, rI_cI, rI_cL, rL_cI, rL_cL, false_and, and_false, true_and, and_true, if_true, if_false, not_true_eq_false, not_false_eq_true, reduceCtorEq, zb_bz, bz_t, bz_f, Bool.true_eq_false, Bool.false_eq_true]
    · simp (disch := omega) only [m_X10_most, m10_isBell t4 (by omega), hbl, fa_lit, nI_nm1, nm1_nI, nI_nm1l, Nat.mul_comm _ 6, Nat.mul_comm _ 60, nI_ltI, nI_leI, nI_eq, nI_add, pk_mul, pk_sub, rm_nI, pk_div, nI_clamp, gdd_true, ix_nI, bdd_some, if_pos, if_neg, rI_wI, rI_wL, rL_wI, rL_wL, rI_cI, rI_cL, rL_cI, rL_cL, false_and, and_false, true_and, and_true, if_true, if_false, not_true_eq_false, not_false_eq_true, reduceCtorEq, zb_bz, bz_t, bz_f, Bool.true_eq_false, Bool.false_eq_true]
  | true =>
    obtain ⟨b, hb, rfl⟩ := lt_nI hbl (by omega)
    obtain ⟨⟨M, hM1, hM2, hM⟩, -, -⟩ := t8 b hb
    obtain ⟨s1, -, -⟩ := t7 b (by omega)
    rcases i_cases a1 with h | ⟨v, hv, rfl⟩
    · refine al_.same (r := -1) hg0 ?_ ?_
      · rw [m_X9_most, m8_hasBell t1 (by omega), hbl, bdd_some, if_neg (show ¬ bz true = 0 by decide), if_pos (show a1 < (1 : Int32) from neg_lt (k := 1) h (by decide))]
      · rw [m_X10_most, m10_isBell t4 (by omega), hbl, bdd_some, if_neg (show ¬ bz true = 0 by decide), in_neg h (by decide), bdd_some, if_pos (show bz false = 0 from rfl)]
    · by_cases hr : 1 ≤ v ∧ v ≤ 15
      · have hT5 : ∀ h, h < 24 → ∃ u, u ≤ 15 ∧ rdI g 5 (6 * h + b) = nI u := fun h hh => (t9 _ (by omega)).2
        have hT44 : ∀ h, h < 24 → rdI g 44 (6 * h + b) = rdI g 5 (6 * h + b) := fun h hh => (t9 _ (by omega)).1
        obtain ⟨F, eF, hF⟩ := fu_get
        obtain ⟨r, e1, e2, e3⟩ := great_loop (b := b) t2 b3 (by omega) hT5 F 0 0 (by omega) (by omega) (by omega)
        have e3v := e3 v hr.2
        by_cases hok : ∀ h u, 0 ≤ h → h < nh → u ≤ 15 → rdI g 5 (6 * h + b) = nI u → u ≤ v
        · have hrv : r ≤ v := e3v.mpr ⟨Nat.zero_le _, hok⟩
          by_cases q : v = M
          · subst q
            have ew : wrI g 41 b (nI v) = g := by
              refine Prod.ext (funext fun c => funext fun i => ?_) rfl
              show rdI (wrI g 41 b (nI v)) c i = rdI g c i
              rw [rI_wI]
              split
              · rename_i z
                rw [z.1, z.2, s1, hM]
              · rfl
            obtain ⟨l1, -⟩ := most_loop (b := b) (v := v) (g := g) t5 b3 (by omega) hr.2 (fun h hh => by rw [hT44 h hh]; exact hT5 h hh) F 0 (by omega) (by omega)
            refine al_.same (r := nI v) hg0 ?_ ?_
            · simp (disch := omega) only [m_X9_most, m8_hasBell t1 (by omega), hbl, m_X8_greatestOf, eF, fa_lit, nI_nm1, nm1_nI, nI_nm1l, Nat.mul_comm _ 6, Nat.mul_comm _ 60, nI_ltI, nI_leI, nI_eq, nI_add, pk_mul, pk_sub, rm_nI, pk_div, nI_clamp, gdd_true, ix_nI, bdd_some, if_pos, if_neg, rI_wI, rI_wL, rL_wI, rL_wL, rI_cI, rI_cL, rL_cI, rL_cL, false_and, and_false, true_and, and_true, if_true, if_false, not_true_eq_false, not_false_eq_true, reduceCtorEq, zb_bz, bz_t, bz_f, Bool.true_eq_false, Bool.false_eq_true]
              rw [show (nI 0 : Int32) = nI 0 from rfl, e1, bdd_some]
              simp (disch := omega) only [hM, fa_lit, nI_nm1, nm1_nI, nI_nm1l, Nat.mul_comm _ 6, Nat.mul_comm _ 60, nI_ltI, nI_leI, nI_eq, nI_add, pk_mul, pk_sub, rm_nI, pk_div, nI_clamp, gdd_true, ix_nI, bdd_some, if_pos, if_neg, rI_wI, rI_wL, rL_wI, rL_wL, rI_cI, rI_cL, rL_cI, rL_cL, false_and, and_false, true_and, and_true, if_true, if_false, not_true_eq_false, not_false_eq_true, reduceCtorEq, zb_bz, bz_t, bz_f, Bool.true_eq_false, Bool.false_eq_true]
            · simp (disch := omega) only [m_X10_most, m10_isBell t4 (by omega), hbl, in_nI 1 15 1 15 hv rfl rfl, decide_eq_true, eF, fa_lit, nI_nm1, nm1_nI, nI_nm1l, Nat.mul_comm _ 6, Nat.mul_comm _ 60, nI_ltI, nI_leI, nI_eq, nI_add, pk_mul, pk_sub, rm_nI, pk_div, nI_clamp, gdd_true, ix_nI, bdd_some, if_pos, if_neg, rI_wI, rI_wL, rL_wI, rL_wL, rI_cI, rI_cL, rL_cI, rL_cL, false_and, and_false, true_and, and_true, if_true, if_false, not_true_eq_false, not_false_eq_true, reduceCtorEq, zb_bz, bz_t, bz_f, Bool.true_eq_false, Bool.false_eq_true]
              rw [l1 (fun h u z1 z2 z3 z4 => hok h u z1 z2 z3 (by rw [← hT44 h (by omega)]; exact z4))]
              simp (disch := omega) only [s1, hM, ew, fa_lit, nI_nm1, nm1_nI, nI_nm1l, Nat.mul_comm _ 6, Nat.mul_comm _ 60, nI_ltI, nI_leI, nI_eq, nI_add, pk_mul, pk_sub, rm_nI, pk_div, nI_clamp, gdd_true, ix_nI, bdd_some, if_pos, if_neg, rI_wI, rI_wL, rL_wI, rL_wL, rI_cI, rI_cL, rL_cI, rL_cL, false_and, and_false, true_and, and_true, if_true, if_false, not_true_eq_false, not_false_eq_true, reduceCtorEq, zb_bz, bz_t, bz_f, Bool.true_eq_false, Bool.false_eq_true]
          · obtain ⟨g1, n1, n2, n3, n4, n5, n6⟩ := note_c (g := wrI g 2 b (nI v)) (hC.cong (kp_w rfl kp_rf)) (nI (1000 + b)) (nI M) (nI v)
            have hx : ∀ c i, c ≠ 2 → c ≠ 7 → c ≠ 8 → c ≠ 9 → c ≠ 10 → rdI g1 c i = rdI g c i := fun c i q1 q2 q3 q4 q5 => by
              rw [n2 c i q2 q3 q4 q5, rI_wI, if_neg (by omega)]
            obtain ⟨l1, -⟩ := most_loop (b := b) (v := v) (g := g1) (by rw [hx 40 5 (by omega) (by omega) (by omega) (by omega) (by omega)]; exact t5) b3 (by omega) hr.2 (fun h hh => by rw [hx 44 _ (by omega) (by omega) (by omega) (by omega) (by omega), hT44 h hh]; exact hT5 h hh) F 0 (by omega) (by omega)
            have f41 : rdI g1 41 b = nI M := by rw [hx 41 b (by omega) (by omega) (by omega) (by omega) (by omega), s1, hM]
            obtain ⟨g2, o1, o2, o3, o4, o5, o6⟩ := note_m (g := wrI g1 41 b (nI v)) (cd := cd) (by have := hC.1; omega) (by rw [rI_wI, if_neg (by omega), hx 40 12 (by omega) (by omega) (by omega) (by omega) (by omega)]; exact hC.2.1.2.2.1) (nI (1000 + b)) (nI M) (nI v)
            have hy : ∀ c i, pl_c c i = false → rdI g2 c i = if (c = 2 ∨ c = 41) ∧ i = b then nI v else rdI g c i := by
              intro c i hc
              simp only [pl_c, Bool.or_eq_false_iff, Bool.and_eq_false_iff, beq_eq_false_iff_ne] at hc
              rw [o2 c i (by omega) (by omega) (by omega) (by omega), rI_wI]
              by_cases z : c = 41 ∧ i = b
              · rw [if_pos z, if_pos (by omega)]
              · rw [if_neg z, n2 c i (by omega) (by omega) (by omega) (by omega), rI_wI]
                by_cases z2 : c = 2 ∧ i = b
                · rw [if_pos z2, if_pos (by omega)]
                · rw [if_neg z2, if_neg (by omega)]
            have hz : ∀ c i, pl_c c i = false → c ≠ 2 → c ≠ 41 → rdI g2 c i = rdI g c i := fun c i h1 h2 h3 => by rw [hy c i h1, if_neg (by omega)]
            refine ⟨nI M, g1, g2, ?_, ?_, nb, nh, hd, (if cd = 40 then 40 else cd + 1), (if cd = 40 then 40 else cd + 1), tl, rt, nn, na, ra, f, ?_, ?_, ?_, ?_, ?_, ?_, ?_, ?_⟩
            · simp (disch := omega) only [m_X9_most, m8_hasBell t1 (by omega), hbl, m_X8_greatestOf, eF, fa_lit, nI_nm1, nm1_nI, nI_nm1l, Nat.mul_comm _ 6, Nat.mul_comm _ 60, nI_ltI, nI_leI, nI_eq, nI_add, pk_mul, pk_sub, rm_nI, pk_div, nI_clamp, gdd_true, ix_nI, bdd_some, if_pos, if_neg, rI_wI, rI_wL, rL_wI, rL_wL, rI_cI, rI_cL, rL_cI, rL_cL, false_and, and_false, true_and, and_true, if_true, if_false, not_true_eq_false, not_false_eq_true, reduceCtorEq, zb_bz, bz_t, bz_f, Bool.true_eq_false, Bool.false_eq_true]
              rw [e1, bdd_some]
              simp (disch := omega) only [hM, fa_lit, nI_nm1, nm1_nI, nI_nm1l, Nat.mul_comm _ 6, Nat.mul_comm _ 60, nI_ltI, nI_leI, nI_eq, nI_add, pk_mul, pk_sub, rm_nI, pk_div, nI_clamp, gdd_true, ix_nI, bdd_some, if_pos, if_neg, rI_wI, rI_wL, rL_wI, rL_wL, rI_cI, rI_cL, rL_cI, rL_cL, false_and, and_false, true_and, and_true, if_true, if_false, not_true_eq_false, not_false_eq_true, reduceCtorEq, zb_bz, bz_t, bz_f, Bool.true_eq_false, Bool.false_eq_true]
              rw [n1, bdd_some]
            · simp (disch := omega) only [m_X10_most, m10_isBell (g := g1) (by rw [hx 40 4 (by omega) (by omega) (by omega) (by omega) (by omega)]; exact t4) (by omega), hbl, in_nI 1 15 1 15 hv rfl rfl, decide_eq_true, eF, fa_lit, nI_nm1, nm1_nI, nI_nm1l, Nat.mul_comm _ 6, Nat.mul_comm _ 60, nI_ltI, nI_leI, nI_eq, nI_add, pk_mul, pk_sub, rm_nI, pk_div, nI_clamp, gdd_true, ix_nI, bdd_some, if_pos, if_neg, rI_wI, rI_wL, rL_wI, rL_wL, rI_cI, rI_cL, rL_cI, rL_cL, false_and, and_false, true_and, and_true, if_true, if_false, not_true_eq_false, not_false_eq_true, reduceCtorEq, zb_bz, bz_t, bz_f, Bool.true_eq_false, Bool.false_eq_true]
              rw [l1 (fun h u z1 z2 z3 z4 => hok h u z1 z2 z3 (by rw [← hT44 h (by omega), ← hx 44 _ (by omega) (by omega) (by omega) (by omega) (by omega)]; exact z4)), f41, if_neg (fun z => q (by rw [nI_eq (by omega) (by omega)] at z; exact z.symm)), o1, bdd_some]
            · exact hT.most hb hr.1 hr.2 (fun c i hc => hy c i (dj_ct hc))
            · exact hX.cong (fun c i hc => hz c i (dj_cx hc) (by rintro rfl; cases hc) (by rintro rfl; cases hc))
            · exact note_gv hC (Or.inl ⟨b, hb, rfl, ⟨M, hM1, hM2, rfl⟩, v, hr.1, hr.2, rfl⟩) (kp_w rfl kp_rf) (Or.inr trivial) (kp_w rfl kp_rf) n4 n5 n6 n2 o2 o4 o5 o6
            · exact hP.cong (fun c i hc => hz c i (dj_cp hc) (by rintro rfl; cases hc) (by rintro rfl; cases hc))
            · refine hL.cong (fun c i hc => hz c i (dj_cl hc) ?_ ?_)
              · rintro rfl
                have := pgm_01 f
                simp only [pl_l, Bool.or_eq_true, Bool.and_eq_true, beq_iff_eq] at hc
                omega
              · rintro rfl
                have := pgm_01 f
                simp only [pl_l, Bool.or_eq_true, Bool.and_eq_true, beq_iff_eq] at hc
                omega
            · exact hE.cong (fun c i hc => hz c i (dj_ce hc) (by rintro rfl; cases hc) (by rintro rfl; cases hc))
            · exact hA.cong (fun c i hc => hz c i (dj_ca hc) (by rintro rfl; cases hc) (by rintro rfl; cases hc))
            · exact hS.cong (fun c i hc => hz c i (dj_cs hc) (by rintro rfl; cases hc) (by rintro rfl; cases hc)) (fun i => by unfold rdL; rw [o3, show (wrI g1 41 b (nI v)).2 = g1.2 from rfl, n3]; exact ⟨rfl, rfl⟩)
        · have hrv : ¬ r ≤ v := fun z => hok (e3v.mp z).2
          obtain ⟨-, l2⟩ := most_loop (b := b) (v := v) (g := g) t5 b3 (by omega) hr.2 (fun h hh => by rw [hT44 h hh]; exact hT5 h hh) F 0 (by omega) (by omega)
          refine al_.same (r := -1) hg0 ?_ ?_
          · simp (disch := omega) only [m_X9_most, m8_hasBell t1 (by omega), hbl, m_X8_greatestOf, eF, fa_lit, nI_nm1, nm1_nI, nI_nm1l, Nat.mul_comm _ 6, Nat.mul_comm _ 60, nI_ltI, nI_leI, nI_eq, nI_add, pk_mul, pk_sub, rm_nI, pk_div, nI_clamp, gdd_true, ix_nI, bdd_some, if_pos, if_neg, rI_wI, rI_wL, rL_wI, rL_wL, rI_cI, rI_cL, rL_cI, rL_cL, false_and, and_false, true_and, and_true, if_true, if_false, not_true_eq_false, not_false_eq_true, reduceCtorEq, zb_bz, bz_t, bz_f, Bool.true_eq_false, Bool.false_eq_true]
            rw [e1, bdd_some]
            simp (disch := omega) only [fa_lit, nI_nm1, nm1_nI, nI_nm1l, Nat.mul_comm _ 6, Nat.mul_comm _ 60, nI_ltI, nI_leI, nI_eq, nI_add, pk_mul, pk_sub, rm_nI, pk_div, nI_clamp, gdd_true, ix_nI, bdd_some, if_pos, if_neg, rI_wI, rI_wL, rL_wI, rL_wL, rI_cI, rI_cL, rL_cI, rL_cL, false_and, and_false, true_and, and_true, if_true, if_false, not_true_eq_false, not_false_eq_true, reduceCtorEq, zb_bz, bz_t, bz_f, Bool.true_eq_false, Bool.false_eq_true]
          · simp (disch := omega) only [m_X10_most, m10_isBell t4 (by omega), hbl, in_nI 1 15 1 15 hv rfl rfl, decide_eq_true, eF, fa_lit, nI_nm1, nm1_nI, nI_nm1l, Nat.mul_comm _ 6, Nat.mul_comm _ 60, nI_ltI, nI_leI, nI_eq, nI_add, pk_mul, pk_sub, rm_nI, pk_div, nI_clamp, gdd_true, ix_nI, bdd_some, if_pos, if_neg, rI_wI, rI_wL, rL_wI, rL_wL, rI_cI, rI_cL, rL_cI, rL_cL, false_and, and_false, true_and, and_true, if_true, if_false, not_true_eq_false, not_false_eq_true, reduceCtorEq, zb_bz, bz_t, bz_f, Bool.true_eq_false, Bool.false_eq_true]
            exact l2 (fun z => hok (fun h u z1 z2 z3 z4 => z h u z1 z2 z3 (by rw [hT44 h (by omega)]; exact z4)))
      · refine al_.same (r := -1) hg0 ?_ ?_
        · by_cases z : v < 1
          · simp (disch := omega) only [m_X9_most, m8_hasBell t1 (by omega), hbl, fa_lit, nI_nm1, nm1_nI, nI_nm1l, Nat.mul_comm _ 6, Nat.mul_comm _ 60, nI_ltI, nI_leI, nI_eq, nI_add, pk_mul, pk_sub, rm_nI, pk_div, nI_clamp, gdd_true, ix_nI, bdd_some, if_pos, if_neg, rI_wI, rI_wL, rL_wI, rL_wL, rI_cI, rI_cL, rL_cI, rL_cL, false_and, and_false, true_and, and_true, if_true, if_false, not_true_eq_false, not_false_eq_true, reduceCtorEq, zb_bz, bz_t, bz_f, Bool.true_eq_false, Bool.false_eq_true]
          · simp (disch := omega) only [m_X9_most, m8_hasBell t1 (by omega), hbl, fa_lit, nI_nm1, nm1_nI, nI_nm1l, Nat.mul_comm _ 6, Nat.mul_comm _ 60, nI_ltI, nI_leI, nI_eq, nI_add, pk_mul, pk_sub, rm_nI, pk_div, nI_clamp, gdd_true, ix_nI, bdd_some, if_pos, if_neg, rI_wI, rI_wL, rL_wI, rL_wL, rI_cI, rI_cL, rL_cI, rL_cL, false_and, and_false, true_and, and_true, if_true, if_false, not_true_eq_false, not_false_eq_true, reduceCtorEq, zb_bz, bz_t, bz_f, Bool.true_eq_false, Bool.false_eq_true]
        · simp (disch := omega) only [m_X10_most, m10_isBell t4 (by omega), hbl, in_nI 1 15 1 15 hv rfl rfl, decide_eq_false, fa_lit, nI_nm1, nm1_nI, nI_nm1l, Nat.mul_comm _ 6, Nat.mul_comm _ 60, nI_ltI, nI_leI, nI_eq, nI_add, pk_mul, pk_sub, rm_nI, pk_div, nI_clamp, gdd_true, ix_nI, bdd_some, if_pos, if_neg, rI_wI, rI_wL, rL_wI, rL_wL, rI_cI, rI_cL, rL_cI, rL_cL, false_and, and_false, true_and, and_true, if_true, if_false, not_true_eq_false, not_false_eq_true, reduceCtorEq, zb_bz, bz_t, bz_f, Bool.true_eq_false, Bool.false_eq_true]
