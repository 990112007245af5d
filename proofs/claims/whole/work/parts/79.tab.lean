/-! sums; the table written anew -/
def sm (f : Nat → Nat) : Nat → Nat
  | 0 => 0
  | n + 1 => sm f n + f n
theorem sm_congr {f h : Nat → Nat} {n : Nat} (e : ∀ i, i < n → f i = h i) : sm f n = sm h n := by
  induction n with
  | zero => rfl
  | succ n ih => rw [sm, sm, ih (fun i hi => e i (by omega)), e n (by omega)]
theorem sm_le {f : Nat → Nat} {n M : Nat} (e : ∀ i, i < n → f i ≤ M) : sm f n ≤ n * M := by
  induction n with
  | zero => simp [sm]
  | succ n ih =>
    rw [sm, Nat.succ_mul]
    have := ih (fun i hi => e i (by omega))
    have := e n (by omega)
    omega
theorem bell_sum {nh b : Nat} {g : Mm} {F : Nat → Nat} (t2 : rdI g 1 1 = nI nh) (hh : nh ≤ 24) (hb : b < 6) (hF : ∀ h, h < nh → rdI g 5 (6 * h + b) = nI (F h)) : m_X8_totalOfBell (nI b) g = some (nI (sm F nh), g) := by
  have key : ∀ (fu i : Nat), nh < i + fu → i ≤ nh → m_X8_totalOfBell_4 fu (nI b) (nI (sm F i)) (nI i) g = some (nI (sm F nh), g) := by
    intro fu
    induction fu with
    | zero => intro i h1 h2; omega
    | succ fu ih =>
      intro i h1 h2
      rw [m_X8_totalOfBell_4]
      by_cases q : i = nh
      · subst q
        simp (disch := omega) only [t2, fa_lit, nI_nm1, nm1_nI, nI_nm1l, Nat.mul_comm _ 6, Nat.mul_comm _ 60, nI_ltI, nI_leI, nI_eq, nI_add, pk_mul, pk_sub, rm_nI, pk_div, nI_clamp, gdd_true, ix_nI, bdd_some, if_pos, if_neg, rI_wI, rI_wL, rL_wI, rL_wL, rI_cI, rI_cL, rL_cI, rL_cL, false_and, and_false, true_and, and_true, if_true, if_false, not_true_eq_false, not_false_eq_true, reduceCtorEq, zb_bz, bz_t, bz_f, Bool.true_eq_false, Bool.false_eq_true]
      · have e := ih (i + 1) (by omega) (by omega)
        rw [sm] at e
        simp (disch := omega) only [t2, m8_struck, hF i (by omega), fa_lit, nI_nm1, nm1_nI, nI_nm1l, Nat.mul_comm _ 6, Nat.mul_comm _ 60, nI_ltI, nI_leI, nI_eq, nI_add, pk_mul, pk_sub, rm_nI, pk_div, nI_clamp, gdd_true, ix_nI, bdd_some, if_pos, if_neg, rI_wI, rI_wL, rL_wI, rL_wL, rI_cI, rI_cL, rL_cI, rL_cL, false_and, and_false, true_and, and_true, if_true, if_false, not_true_eq_false, not_false_eq_true, reduceCtorEq, zb_bz, bz_t, bz_f, Bool.true_eq_false, Bool.false_eq_true]
        exact e
  obtain ⟨Fu, eF, hFu⟩ := fu_get
  rw [m_X8_totalOfBell, eF]
  exact key Fu 0 (by omega) (by omega)
theorem bell_sumM {nh b : Nat} {g : Mm} {F : Nat → Nat} (t2 : rdI g 40 5 = nI nh) (hh : nh ≤ 24) (hb : b < 6) (hF : ∀ h, h < nh → rdI g 44 (6 * h + b) = nI (F h)) : m_X10_sumOf (nI b) g = some (nI (sm F nh), g) := by
  have key : ∀ (fu i : Nat), nh < i + fu → i ≤ nh → m_X10_sumOf_4 fu (nI b) (nI (sm F i)) (nI i) g = some (nI (sm F nh), g) := by
    intro fu
    induction fu with
    | zero => intro i h1 h2; omega
    | succ fu ih =>
      intro i h1 h2
      rw [m_X10_sumOf_4]
      by_cases q : i = nh
      · subst q
        simp (disch := omega) only [t2, fa_lit, nI_nm1, nm1_nI, nI_nm1l, Nat.mul_comm _ 6, Nat.mul_comm _ 60, nI_ltI, nI_leI, nI_eq, nI_add, pk_mul, pk_sub, rm_nI, pk_div, nI_clamp, gdd_true, ix_nI, bdd_some, if_pos, if_neg, rI_wI, rI_wL, rL_wI, rL_wL, rI_cI, rI_cL, rL_cI, rL_cL, false_and, and_false, true_and, and_true, if_true, if_false, not_true_eq_false, not_false_eq_true, reduceCtorEq, zb_bz, bz_t, bz_f, Bool.true_eq_false, Bool.false_eq_true]
      · have e := ih (i + 1) (by omega) (by omega)
        rw [sm] at e
        simp (disch := omega) only [t2, lti, hF i (by omega), fa_lit, nI_nm1, nm1_nI, nI_nm1l, Nat.mul_comm _ 6, Nat.mul_comm _ 60, nI_ltI, nI_leI, nI_eq, nI_add, pk_mul, pk_sub, rm_nI, pk_div, nI_clamp, gdd_true, ix_nI, bdd_some, if_pos, if_neg, rI_wI, rI_wL, rL_wI, rL_wL, rI_cI, rI_cL, rL_cI, rL_cL, false_and, and_false, true_and, and_true, if_true, if_false, not_true_eq_false, not_false_eq_true, reduceCtorEq, zb_bz, bz_t, bz_f, Bool.true_eq_false, Bool.false_eq_true]
        exact e
  obtain ⟨Fu, eF, hFu⟩ := fu_get
  rw [m_X10_sumOf, eF]
  exact key Fu 0 (by omega) (by omega)
theorem dj_tp {c i : Nat} (h : pl_p c i = true) : pl_t c i = false ∧ pl_x c i = false ∧ pl_c c i = false := by
  simp only [pl_t, pl_x, pl_p, pl_c, Bool.or_eq_true, Bool.and_eq_true, beq_iff_eq, Bool.or_eq_false_iff, Bool.and_eq_false_iff, beq_eq_false_iff_ne] at *
  omega
theorem dj_te {c i : Nat} (h : pl_e c i = true) : pl_t c i = false ∧ pl_x c i = false ∧ pl_c c i = false := by
  simp only [pl_t, pl_x, pl_e, pl_c, Bool.or_eq_true, Bool.and_eq_true, beq_iff_eq, Bool.or_eq_false_iff, Bool.and_eq_false_iff, beq_eq_false_iff_ne] at *
  omega
theorem dj_ta {c i : Nat} (h : pl_a c i = true) : pl_t c i = false ∧ pl_x c i = false ∧ pl_c c i = false := by
  simp only [pl_t, pl_x, pl_a, pl_c, Bool.or_eq_true, Bool.and_eq_true, beq_iff_eq, Bool.or_eq_false_iff, Bool.and_eq_false_iff, beq_eq_false_iff_ne] at *
  omega
theorem dj_ts {c i : Nat} (h : pl_s c i = true) : pl_t c i = false ∧ pl_x c i = false ∧ pl_c c i = false := by
  simp only [pl_t, pl_x, pl_s, pl_c, Bool.or_eq_true, Bool.and_eq_true, beq_iff_eq, Bool.or_eq_false_iff, Bool.and_eq_false_iff, beq_eq_false_iff_ne] at *
  omega
theorem dj_tl {f : Int32} {c i : Nat} (h : pl_l f c i = true) : pl_t c i = false ∧ pl_x c i = false ∧ pl_c c i = false := by
  have := pgm_01 f
  simp only [pl_t, pl_x, pl_l, pl_c, Bool.or_eq_true, Bool.and_eq_true, beq_iff_eq, Bool.or_eq_false_iff, Bool.and_eq_false_iff, beq_eq_false_iff_ne] at *
  omega
theorem ch_ok.more {nb nb' nh : Nat} {p v w : Int32} (h : ch_ok nb nh p v w) (hn : nb ≤ nb') : ch_ok nb' nh p v w := by
  rcases h with ⟨b, hb, h⟩ | ⟨x, b, hx, hb, h⟩
  · exact Or.inl ⟨b, by omega, h⟩
  · exact Or.inr ⟨x, b, hx, by omega, h⟩
/-- where the tower, what is mixed and the changes became well formed again, and all else stands -/
theorem gv_fin {nb nb' nh' hd' cd ck tl rt nn na ra : Nat} {f : Int32} {g g2 : Mm} (hP : gv_p tl g) (hL : gv_l f g) (hE : gv_e rt nn nb g) (hA : gv_a na ra g) (hS : gv_s na g) (hn : nb ≤ nb')
    (hT' : gv_t nb' nh' hd' g2) (hX' : gv_x nh' g2) (hC' : gv_c cd ck nb' nh' g2) (hk : ∀ c i, pl_t c i = false → pl_x c i = false → pl_c c i = false → rdI g2 c i = rdI g c i) (hl : g2.2 = g.2) : gv_ g2 := by
  refine ⟨nb', nh', hd', cd, ck, tl, rt, nn, na, ra, f, hT', hX', hC', hP.cong ?_, hL.cong ?_, ?_, hA.cong ?_, hS.cong ?_ (fun i => ?_)⟩
  · exact fun c i h => hk c i (dj_tp h).1 (dj_tp h).2.1 (dj_tp h).2.2
  · exact fun c i h => hk c i (dj_tl h).1 (dj_tl h).2.1 (dj_tl h).2.2
  · have h := hE.cong (g' := g2) (fun c i h => hk c i (dj_te h).1 (dj_te h).2.1 (dj_te h).2.2)
    exact ⟨⟨by have := h.1; omega, h.1.2⟩, h.2⟩
  · exact fun c i h => hk c i (dj_ta h).1 (dj_ta h).2.1 (dj_ta h).2.2
  · exact fun c i h => hk c i (dj_ts h).1 (dj_ts h).2.1 (dj_ts h).2.2
  · unfold rdL
    rw [hl]
    exact ⟨rfl, rfl⟩
/-- some cells of the table anew, the changes forgotten -/
theorem gv_tabw {nb nh hd tl rt nn na ra : Nat} {f : Int32} {g g2 : Mm} (hT : gv_t nb nh hd g) (hX : gv_x nh g) (hP : gv_p tl g) (hL : gv_l f g) (hE : gv_e rt nn nb g) (hA : gv_a na ra g) (hS : gv_s na g)
    (Q : Nat → Bool) (F : Nat → Nat) (hQ : ∀ i, Q i = true → i / 6 < nh ∧ i % 6 < nb ∧ F i ≤ 15)
    (h : ∀ c i, rdI g2 c i = if (c = 5 ∨ c = 44) ∧ Q i = true then nI (F i) else if (c = 7 ∧ (i = 3 ∨ i = 4)) ∨ (c = 40 ∧ (i = 12 ∨ i = 13)) then nI 0 else rdI g c i) (hl : g2.2 = g.2) : gv_ g2 := by
  have e : ∀ c i, c ≠ 5 → c ≠ 44 → ¬ ((c = 7 ∧ (i = 3 ∨ i = 4)) ∨ (c = 40 ∧ (i = 12 ∨ i = 13))) → rdI g2 c i = rdI g c i := fun c i q1 q2 q3 => by rw [h, if_neg (by omega), if_neg q3]
  refine gv_fin (nb' := nb) (nh' := nh) (hd' := hd) (cd := 0) (ck := 0) hP hL hE hA hS (Nat.le_refl _) ?_ ?_ ?_ ?_ hl
  · obtain ⟨h1, ⟨a1, a2, a3, a4, a5, a6⟩, h3, h4, h5, h6⟩ := hT
    refine ⟨h1, ⟨?_, ?_, ?_, ?_, ?_, ?_⟩, fun b hb => ?_, fun b hb => ?_, fun k hk => ?_, fun x b hx hb q => ?_⟩
    · rw [e 1 0 (by omega) (by omega) (by omega)]; exact a1
    · rw [e 1 1 (by omega) (by omega) (by omega)]; exact a2
    · rw [e 1 2 (by omega) (by omega) (by omega)]; exact a3
    · rw [e 40 4 (by omega) (by omega) (by omega)]; exact a4
    · rw [e 40 5 (by omega) (by omega) (by omega)]; exact a5
    · rw [e 40 6 (by omega) (by omega) (by omega)]; exact a6
    · rw [e 41 b (by omega) (by omega) (by omega), e 42 b (by omega) (by omega) (by omega), e 43 b (by omega) (by omega) (by omega), e 2 b (by omega) (by omega) (by omega), e 3 b (by omega) (by omega) (by omega), e 4 b (by omega) (by omega) (by omega)]; exact h3 b hb
    · rw [e 2 b (by omega) (by omega) (by omega), e 3 b (by omega) (by omega) (by omega), e 4 b (by omega) (by omega) (by omega)]; exact h4 b hb
    · rw [h 44 k, h 5 k]
      by_cases q : Q k = true
      · rw [if_pos ⟨Or.inr rfl, q⟩, if_pos ⟨Or.inl rfl, q⟩]
        exact ⟨rfl, _, (hQ k q).2.2, rfl⟩
      · rw [if_neg (fun z => q z.2), if_neg (by omega), if_neg (fun z => q z.2), if_neg (by omega)]
        exact h5 k hk
    · rw [h 5, if_neg (fun z => by have := hQ _ z.2; omega), if_neg (by omega)]
      exact h6 x b hx hb q
  · exact hX.cong (fun c i hc => e c i (by rintro rfl; cases hc) (by rintro rfl; cases hc) (by simp only [pl_x, Bool.or_eq_true, beq_iff_eq] at hc; omega))
  · refine ⟨⟨Nat.le_refl _, by omega⟩, ⟨?_, ?_, ?_, ?_⟩, fun k hk => by omega⟩
    · rw [h, if_neg (by omega), if_pos (by omega)]
    · rw [h, if_neg (by omega), if_pos (by omega)]
    · rw [h, if_neg (by omega), if_pos (by omega)]
    · rw [h, if_neg (by omega), if_pos (by omega)]
  · intro c i q1 q2 q3
    simp only [pl_t, pl_c, Bool.or_eq_false_iff, Bool.and_eq_false_iff, beq_eq_false_iff_ne] at q1 q3
    exact e c i (by omega) (by omega) (by omega)
theorem line_loop {nh b a c d M : Nat} (hh : nh ≤ 24) (hb : b < 6) (ha : a < 100) (hc : c < 100) (hd : 2 ≤ d) (hd2 : d ≤ 16) (hM : M ≤ 15) : ∀ (fu i : Nat) (g : Mm), nh < i + fu → i ≤ nh → rdI g 1 1 = nI nh → rdI g 2 b = nI M →
    ∃ g', m_X9_line_60 fu (nI b) (nI a) (nI c) (nI d) (nI i) g = m_X9_line_60 1 (nI b) (nI a) (nI c) (nI d) (nI nh) g' ∧ (∀ x j, rdI g' x j = if x = 5 ∧ j % 6 = b ∧ i ≤ j / 6 ∧ j / 6 < nh then nI (min M ((a * (j / 6) + c) % d)) else rdI g x j) ∧ g'.2 = g.2 := by
  intro fu
  induction fu with
  | zero => intro i g h1 h2; omega
  | succ fu ih =>
    intro i g h1 h2 t2 tM
    by_cases q : i = nh
    · subst q
      refine ⟨g, ?_, fun x j => by rw [if_neg (by omega)], rfl⟩
      simp (disch := omega) only [m_X9_line_60, t2, fa_lit, nI_nm1, nm1_nI, nI_nm1l, Nat.mul_comm _ 6, Nat.mul_comm _ 60, nI_ltI, nI_leI, nI_eq, nI_add, pk_mul, pk_sub, rm_nI, pk_div, nI_clamp, gdd_true, ix_nI, bdd_some, if_pos, if_neg, rI_wI, rI_wL, rL_wI, rL_wL, rI_cI, rI_cL, rL_cI, rL_cL, false_and, and_false, true_and, and_true, if_true, if_false, not_true_eq_false, not_false_eq_true, reduceCtorEq, zb_bz, bz_t, bz_f, Bool.true_eq_false, Bool.false_eq_true]
    · obtain ⟨g', e1, e2, e3⟩ := ih (i + 1) (wrI g 5 (6 * i + b) (nI (min M ((a * i + c) % d)))) (by omega) (by omega) (by rw [rI_wI, if_neg (by omega), t2]) (by rw [rI_wI, if_neg (by omega), tM])
      have hai : a * i ≤ 99 * 24 := Nat.mul_le_mul (by omega) (by omega)
      have hr : (a * i + c) % d < 16 := Nat.lt_of_lt_of_le (Nat.mod_lt _ (by omega)) hd2
      refine ⟨g', ?_, fun x j => ?_, e3⟩
      · rw [← e1, m_X9_line_60]
        by_cases z : (a * i + c) % d < M
        · rw [Nat.min_eq_right (Nat.le_of_lt z)]
          simp (disch := omega) only [t2, tM, m8_write, m_J9_min_7cf53, decide_eq_true, fa_lit, nI_nm1, nm1_nI, nI_nm1l, Nat.mul_comm _ 6, Nat.mul_comm _ 60, nI_ltI, nI_leI, nI_eq, nI_add, pk_mul, pk_sub, rm_nI, pk_div, nI_clamp, gdd_true, ix_nI, bdd_some, if_pos, if_neg, rI_wI, rI_wL, rL_wI, rL_wL, rI_cI, rI_cL, rL_cI, rL_cL, false_and, and_false, true_and, and_true, if_true, if_false, not_true_eq_false, not_false_eq_true, reduceCtorEq, zb_bz, bz_t, bz_f, Bool.true_eq_false, Bool.false_eq_true]
        · rw [Nat.min_eq_left (by omega)]
          simp (disch := omega) only [t2, tM, m8_write, m_J9_min_7cf53, decide_eq_true, fa_lit, nI_nm1, nm1_nI, nI_nm1l, Nat.mul_comm _ 6, Nat.mul_comm _ 60, nI_ltI, nI_leI, nI_eq, nI_add, pk_mul, pk_sub, rm_nI, pk_div, nI_clamp, gdd_true, ix_nI, bdd_some, if_pos, if_neg, rI_wI, rI_wL, rL_wI, rL_wL, rI_cI, rI_cL, rL_cI, rL_cL, false_and, and_false, true_and, and_true, if_true, if_false, not_true_eq_false, not_false_eq_true, reduceCtorEq, zb_bz, bz_t, bz_f, Bool.true_eq_false, Bool.false_eq_true]
      · rw [e2, rI_wI]
        by_cases z : x = 5 ∧ j % 6 = b ∧ i ≤ j / 6 ∧ j / 6 < nh
        · rw [if_pos z]
          by_cases z2 : j / 6 = i
          · rw [if_neg (by omega), if_pos (by omega), z2]
          · rw [if_pos (by omega)]
        · rw [if_neg z, if_neg (by omega), if_neg (by omega)]
theorem line_loopM {nh b a c d M : Nat} (hh : nh ≤ 24) (hb : b < 6) (ha : a < 100) (hc : c < 100) (hd : 2 ≤ d) (hd2 : d ≤ 16) (hM : M ≤ 15) : ∀ (fu i : Nat) (g : Mm), nh < i + fu → i ≤ nh → rdI g 40 5 = nI nh → rdI g 41 b = nI M →
    ∃ g', m_X10_line_45 fu (nI b) (nI (10000 * a + 100 * c + d)) (nI i) g = m_X10_line_45 1 (nI b) (nI (10000 * a + 100 * c + d)) (nI nh) g' ∧ (∀ x j, rdI g' x j = if x = 44 ∧ j % 6 = b ∧ i ≤ j / 6 ∧ j / 6 < nh then nI (min M ((a * (j / 6) + c) % d)) else rdI g x j) ∧ g'.2 = g.2 := by
  intro fu
  induction fu with
  | zero => intro i g h1 h2; omega
  | succ fu ih =>
    intro i g h1 h2 t2 tM
    by_cases q : i = nh
    · subst q
      refine ⟨g, ?_, fun x j => by rw [if_neg (by omega)], rfl⟩
      simp (disch := omega) only [m_X10_line_45, t2, fa_lit, nI_nm1, nm1_nI, nI_nm1l, Nat.mul_comm _ 6, Nat.mul_comm _ 60, nI_ltI, nI_leI, nI_eq, nI_add, pk_mul, pk_sub, rm_nI, pk_div, nI_clamp, gdd_true, ix_nI, bdd_some, if_pos, if_neg, rI_wI, rI_wL, rL_wI, rL_wL, rI_cI, rI_cL, rL_cI, rL_cL, false_and, and_false, true_and, and_true, if_true, if_false, not_true_eq_false, not_false_eq_true, reduceCtorEq, zb_bz, bz_t, bz_f, Bool.true_eq_false, Bool.false_eq_true]
    · obtain ⟨g', e1, e2, e3⟩ := ih (i + 1) (wrI g 44 (6 * i + b) (nI (min M ((a * i + c) % d)))) (by omega) (by omega) (by rw [rI_wI, if_neg (by omega), t2]) (by rw [rI_wI, if_neg (by omega), tM])
      have hai : a * i ≤ 99 * 24 := Nat.mul_le_mul (by omega) (by omega)
      have hr : (a * i + c) % d < 16 := Nat.lt_of_lt_of_le (Nat.mod_lt _ (by omega)) hd2
      have d1 : (10000 * a + 100 * c + d) % 100 = d := by omega
      have d2 : (10000 * a + 100 * c + d) / 10000 = a := by omega
      have d3 : (10000 * a + 100 * c + d) / 100 % 100 = c := by omega
      refine ⟨g', ?_, fun x j => ?_, e3⟩
      · rw [← e1, m_X10_line_45]
        by_cases z : (a * i + c) % d < M
        · rw [Nat.min_eq_right (Nat.le_of_lt z)]
          simp (disch := omega) only [t2, tM, lti, d1, d2, d3, decide_eq_true, fa_lit, nI_nm1, nm1_nI, nI_nm1l, Nat.mul_comm _ 6, Nat.mul_comm _ 60, nI_ltI, nI_leI, nI_eq, nI_add, pk_mul, pk_sub, rm_nI, pk_div, nI_clamp, gdd_true, ix_nI, bdd_some, if_pos, if_neg, rI_wI, rI_wL, rL_wI, rL_wL, rI_cI, rI_cL, rL_cI, rL_cL, false_and, and_false, true_and, and_true, if_true, if_false, not_true_eq_false, not_false_eq_true, reduceCtorEq, zb_bz, bz_t, bz_f, Bool.true_eq_false, Bool.false_eq_true]
        · rw [Nat.min_eq_left (by omega)]
          by_cases z2 : (a * i + c) % d = M
          · simp (disch := omega) only [t2, tM, lti, d1, d2, d3, decide_eq_true, z2, fa_lit, nI_nm1, nm1_nI, nI_nm1l, Nat.mul_comm _ 6, Nat.mul_comm _ 60, nI_ltI, nI_leI, nI_eq, nI_add, pk_mul, pk_sub, rm_nI, pk_div, nI_clamp, gdd_true, ix_nI, bdd_some, if_pos, if_neg, rI_wI, rI_wL, rL_wI, rL_wL, rI_cI, rI_cL, rL_cI, rL_cL, false_and, and_false, true_and, and_true, if_true, if_false, not_true_eq_false, not_false_eq_true, reduceCtorEq, zb_bz, bz_t, bz_f, Bool.true_eq_false, Bool.false_eq_true]
          · simp (disch := omega) only [t2, tM, lti, d1, d2, d3, decide_eq_true, fa_lit, nI_nm1, nm1_nI, nI_nm1l, Nat.mul_comm _ 6, Nat.mul_comm _ 60, nI_ltI, nI_leI, nI_eq, nI_add, pk_mul, pk_sub, rm_nI, pk_div, nI_clamp, gdd_true, ix_nI, bdd_some, if_pos, if_neg, rI_wI, rI_wL, rL_wI, rL_wL, rI_cI, rI_cL, rL_cI, rL_cL, false_and, and_false, true_and, and_true, if_true, if_false, not_true_eq_false, not_false_eq_true, reduceCtorEq, zb_bz, bz_t, bz_f, Bool.true_eq_false, Bool.false_eq_true]
      · rw [e2, rI_wI]
        by_cases z : x = 44 ∧ j % 6 = b ∧ i ≤ j / 6 ∧ j / 6 < nh
        · rw [if_pos z]
          by_cases z2 : j / 6 = i
          · rw [if_neg (by omega), if_pos (by omega), z2]
          · rw [if_pos (by omega)]
        · rw [if_neg z, if_neg (by omega), if_neg (by omega)]
set_option maxHeartbeats 1000000 in
theorem op_line (a0 a1 : Int32) {g : Mm} (hg : gv_ g) : al_ (m_X9_line a0 a1) (m_X10_line a0 a1) g := by
  have hg0 := hg
  obtain ⟨nb, nh, hd, cd, ck, tl, rt, nn, na, ra, f, hT, hX, hC, hP, hL, hE, hA, hS⟩ := hg
  obtain ⟨⟨b1, b2, b3, b4, b5⟩, ⟨t1, t2, t3, t4, t5, t6⟩, t7, t8, t9, t10⟩ := id hT
  cases hbl : lt_n a0 nb with
  | false =>
    refine al_.same (r := -1) hg0 ?_ ?_
    · simp (disch := omega) only [m_X9_line, m8_hasBell t1 (by omega), hbl, fa_lit, nI_nm1, nm1_nI, nI_nm1l, Nat.mul_comm _ 6, Nat.mul_comm _ 60, nI_ltI, nI_leI, nI_eq, nI_add, pk_mul, pk_sub, rm_nI, pk_div, nI_clamp, gdd_true, ix_nI, bdd_some, if_pos, if_neg, rI_wI, rI_wL, rL_wI, rL_wL, rI_cI, rI_cL, rL_cI, rL_cL, false_and, and_false, true_and, and_true, if_true, if_false, not_true_eq_false, not_false_eq_true, reduceCtorEq, zb_bz, bz_t, bz_f, Bool.true_eq_false, Bool.false_eq_true]
    · simp (disch := omega) only [m_X10_line, m10_isBell t4 (by omega), hbl, fa_lit, nI_nm1, nm1_nI, nI_nm1l, Nat.mul_comm _ 6, Nat.mul_comm _ 60, nI_ltI, nI_leI, nI_eq, nI_add, pk_mul, pk_sub, rm_nI, pk_div, nI_clamp, gdd_true, ix_nI, bdd_some, if_pos, if_neg, rI_wI, rI_wL, rL_wI, rL_wL, rI_cI, rI_cL, rL_cI, rL_cL, false_and, and_false, true_and, and_true, if_true, if_false, not_true_eq_false, not_false_eq_true, reduceCtorEq, zb_bz, bz_t, bz_f, Bool.true_eq_false, Bool.false_eq_true]
  | true =>
    obtain ⟨b, hb, rfl⟩ := lt_nI hbl (by omega)
    obtain ⟨⟨M, hM1, hM2, hM⟩, -, -⟩ := t8 b hb
    obtain ⟨s1, -, -⟩ := t7 b (by omega)
    rcases i_cases a1 with h | ⟨v, hv, rfl⟩
    · refine al_.same (r := -1) hg0 ?_ ?_
      · rw [m_X9_line, m8_hasBell t1 (by omega), hbl, bdd_some, if_neg (show ¬ bz true = 0 by decide), if_pos (neg_lt0 h)]
      · rw [m_X10_line, m10_isBell t4 (by omega), hbl, bdd_some, if_neg (show ¬ bz true = 0 by decide), in_neg h (by decide), bdd_some, if_pos (show bz false = 0 from rfl)]
    · by_cases hr : v / 10000 ≤ 99
      · by_cases hr2 : 2 ≤ v % 100 ∧ v % 100 ≤ 16
        · obtain ⟨a, c, d, ha, hc, hd1, hd2, rfl⟩ : ∃ a c d, a < 100 ∧ c < 100 ∧ 2 ≤ d ∧ d ≤ 16 ∧ v = 10000 * a + 100 * c + d := ⟨v / 10000, v / 100 % 100, v % 100, by omega, by omega, by omega, by omega, by omega⟩
          have d1 : (10000 * a + 100 * c + d) % 100 = d := by omega
          have d2 : (10000 * a + 100 * c + d) / 10000 = a := by omega
          have d3 : (10000 * a + 100 * c + d) / 100 % 100 = c := by omega
          obtain ⟨F, eF, hF⟩ := fu_get
          obtain ⟨gA, p1, p2, p3⟩ := line_loop b3 (show b < 6 by omega) ha hc hd1 hd2 hM2 F 0 g (by omega) (by omega) t2 hM
          have q5 : ∀ h, h < nh → rdI (wrI (wrI gA 7 3 (nI 0)) 7 4 (nI 0)) 5 (6 * h + b) = nI (min M ((a * h + c) % d)) := fun h hh => by
            rw [rI_wI, if_neg (by omega), rI_wI, if_neg (by omega), p2, if_pos (by omega), show (6 * h + b) / 6 = h by omega]
          have hs1 := bell_sum (g := wrI (wrI gA 7 3 (nI 0)) 7 4 (nI 0)) (F := fun h => min M ((a * h + c) % d)) (by rw [rI_wI, if_neg (by omega), rI_wI, if_neg (by omega), p2, if_neg (by omega), t2]) b3 (show b < 6 by omega) q5
          generalize hg1 : wrI (wrI gA 7 3 (nI 0)) 7 4 (nI 0) = g1 at hs1
          have kA : ∀ x j, x ≠ 5 → ¬ (x = 7 ∧ (j = 3 ∨ j = 4)) → rdI g1 x j = rdI g x j := fun x j q1 q2 => by
            rw [← hg1, rI_wI, if_neg (by omega), rI_wI, if_neg (by omega), p2, if_neg (by omega)]
          obtain ⟨gB, o1, o2, o3⟩ := line_loopM b3 (show b < 6 by omega) ha hc hd1 hd2 hM2 F 0 (wrI (wrI g1 40 12 (nI 0)) 40 13 (nI 0)) (by omega) (by omega) (by rw [rI_wI, if_neg (by omega), rI_wI, if_neg (by omega), kA _ _ (by omega) (by omega), t5]) (by rw [rI_wI, if_neg (by omega), rI_wI, if_neg (by omega), kA _ _ (by omega) (by omega), s1, hM])
          have q44 : ∀ h, h < nh → rdI gB 44 (6 * h + b) = nI (min M ((a * h + c) % d)) := fun h hh => by
            rw [o2, if_pos (by omega), show (6 * h + b) / 6 = h by omega]
          have t5B : rdI gB 40 5 = nI nh := by rw [o2, if_neg (by omega), rI_wI, if_neg (by omega), rI_wI, if_neg (by omega), kA _ _ (by omega) (by omega), t5]
          have hs2 := bell_sumM (g := gB) (F := fun h => min M ((a * h + c) % d)) t5B b3 (show b < 6 by omega) q44
          have t2A : rdI gA 1 1 = nI nh := by rw [p2, if_neg (by omega), t2]
          refine ⟨nI (sm (fun h => min M ((a * h + c) % d)) nh), g1, gB, ?_, ?_, ?_⟩
          · simp (disch := omega) only [m_X9_line, m8_hasBell t1 (by omega), hbl, eF, d1, d2, d3, fa_lit, nI_nm1, nm1_nI, nI_nm1l, Nat.mul_comm _ 6, Nat.mul_comm _ 60, nI_ltI, nI_leI, nI_eq, nI_add, pk_mul, pk_sub, rm_nI, pk_div, nI_clamp, gdd_true, ix_nI, bdd_some, if_pos, if_neg, rI_wI, rI_wL, rL_wI, rL_wL, rI_cI, rI_cL, rL_cI, rL_cL, false_and, and_false, true_and, and_true, if_true, if_false, not_true_eq_false, not_false_eq_true, reduceCtorEq, zb_bz, bz_t, bz_f, Bool.true_eq_false, Bool.false_eq_true]
            rw [p1, m_X9_line_60]
            simp (disch := omega) only [t2A, m_X1_forgetAll, hg1, hs1, fa_lit, nI_nm1, nm1_nI, nI_nm1l, Nat.mul_comm _ 6, Nat.mul_comm _ 60, nI_ltI, nI_leI, nI_eq, nI_add, pk_mul, pk_sub, rm_nI, pk_div, nI_clamp, gdd_true, ix_nI, bdd_some, if_pos, if_neg, rI_wI, rI_wL, rL_wI, rL_wL, rI_cI, rI_cL, rL_cI, rL_cL, false_and, and_false, true_and, and_true, if_true, if_false, not_true_eq_false, not_false_eq_true, reduceCtorEq, zb_bz, bz_t, bz_f, Bool.true_eq_false, Bool.false_eq_true]
          · simp (disch := omega) only [m_X10_line, m10_isBell (g := g1) (by rw [kA _ _ (by omega) (by omega)]; exact t4) (by omega), hbl, in_nI 0 999999 0 999999 hv rfl rfl, d1, in_nI 2 16 2 16 (show d < 2 ^ 31 by omega) rfl rfl, decide_eq_true, m_X10_forgets, eF, fa_lit, nI_nm1, nm1_nI, nI_nm1l, Nat.mul_comm _ 6, Nat.mul_comm _ 60, nI_ltI, nI_leI, nI_eq, nI_add, pk_mul, pk_sub, rm_nI, pk_div, nI_clamp, gdd_true, ix_nI, bdd_some, if_pos, if_neg, rI_wI, rI_wL, rL_wI, rL_wL, rI_cI, rI_cL, rL_cI, rL_cL, false_and, and_false, true_and, and_true, if_true, if_false, not_true_eq_false, not_false_eq_true, reduceCtorEq, zb_bz, bz_t, bz_f, Bool.true_eq_false, Bool.false_eq_true]
            rw [o1, m_X10_line_45]
            simp (disch := omega) only [t5B, hs2, fa_lit, nI_nm1, nm1_nI, nI_nm1l, Nat.mul_comm _ 6, Nat.mul_comm _ 60, nI_ltI, nI_leI, nI_eq, nI_add, pk_mul, pk_sub, rm_nI, pk_div, nI_clamp, gdd_true, ix_nI, bdd_some, if_pos, if_neg, rI_wI, rI_wL, rL_wI, rL_wL, rI_cI, rI_cL, rL_cI, rL_cL, false_and, and_false, true_and, and_true, if_true, if_false, not_true_eq_false, not_false_eq_true, reduceCtorEq, zb_bz, bz_t, bz_f, Bool.true_eq_false, Bool.false_eq_true]
          · refine gv_tabw hT hX hP hL hE hA hS (fun i => decide (i % 6 = b ∧ i / 6 < nh)) (fun i => min M ((a * (i / 6) + c) % d)) (fun i hi => ?_) (fun x j => ?_) ?_
            · have hi := of_decide_eq_true hi
              refine ⟨hi.2, by omega, ?_⟩
              exact Nat.le_trans (Nat.min_le_left _ _) hM2
            · rw [o2]
              simp only [decide_eq_true_eq]
              by_cases z1 : x = 44 ∧ j % 6 = b ∧ 0 ≤ j / 6 ∧ j / 6 < nh
              · rw [if_pos z1, if_pos (by omega)]
              · rw [if_neg z1, rI_wI, rI_wI]
                by_cases z2 : x = 5 ∧ j % 6 = b ∧ j / 6 < nh
                · rw [if_neg (by omega), if_neg (by omega), if_pos (by omega), ← hg1, rI_wI, if_neg (by omega), rI_wI, if_neg (by omega), p2, if_pos (by omega)]
                · rw [if_neg (show ¬ ((x = 5 ∨ x = 44) ∧ j % 6 = b ∧ j / 6 < nh) by omega)]
                  by_cases z3 : (x = 7 ∧ (j = 3 ∨ j = 4)) ∨ (x = 40 ∧ (j = 12 ∨ j = 13))
                  · rw [if_pos z3]
                    by_cases z4 : x = 40 ∧ j = 13
                    · rw [if_pos z4]
                    · rw [if_neg z4]
                      by_cases z5 : x = 40 ∧ j = 12
                      · rw [if_pos z5]
                      · rw [if_neg z5, ← hg1, rI_wI]
                        by_cases z6 : x = 7 ∧ j = 4
                        · rw [if_pos z6]
                        · rw [if_neg z6, rI_wI, if_pos (by omega)]
                  · rw [if_neg z3, if_neg (by omega), if_neg (by omega), ← hg1, rI_wI, if_neg (by omega), rI_wI, if_neg (by omega), p2, if_neg (by omega)]
            · rw [o3]
              show g1.2 = g.2
              rw [← hg1]
              exact p3
        · refine al_.same (r := -1) hg0 ?_ ?_
          · by_cases z : v % 100 < 2
            · simp (disch := omega) only [m_X9_line, m8_hasBell t1 (by omega), hbl, fa_lit, nI_nm1, nm1_nI, nI_nm1l, Nat.mul_comm _ 6, Nat.mul_comm _ 60, nI_ltI, nI_leI, nI_eq, nI_add, pk_mul, pk_sub, rm_nI, pk_div, nI_clamp, gdd_true, ix_nI, bdd_some, if_pos, if_neg, rI_wI, rI_wL, rL_wI, rL_wL, rI_cI, rI_cL, rL_cI, rL_cL, false_and, and_false, true_and, and_true, if_true, if_false, not_true_eq_false, not_false_eq_true, reduceCtorEq, zb_bz, bz_t, bz_f, Bool.true_eq_false, Bool.false_eq_true]
            · simp (disch := omega) only [m_X9_line, m8_hasBell t1 (by omega), hbl, fa_lit, nI_nm1, nm1_nI, nI_nm1l, Nat.mul_comm _ 6, Nat.mul_comm _ 60, nI_ltI, nI_leI, nI_eq, nI_add, pk_mul, pk_sub, rm_nI, pk_div, nI_clamp, gdd_true, ix_nI, bdd_some, if_pos, if_neg, rI_wI, rI_wL, rL_wI, rL_wL, rI_cI, rI_cL, rL_cI, rL_cL, false_and, and_false, true_and, and_true, if_true, if_false, not_true_eq_false, not_false_eq_true, reduceCtorEq, zb_bz, bz_t, bz_f, Bool.true_eq_false, Bool.false_eq_true]
          · simp (disch := omega) only [m_X10_line, m10_isBell t4 (by omega), hbl, in_nI 0 999999 0 999999 hv rfl rfl, in_nI 2 16 2 16 (show v % 100 < 2 ^ 31 by omega) rfl rfl, decide_eq_true, decide_eq_false, fa_lit, nI_nm1, nm1_nI, nI_nm1l, Nat.mul_comm _ 6, Nat.mul_comm _ 60, nI_ltI, nI_leI, nI_eq, nI_add, pk_mul, pk_sub, rm_nI, pk_div, nI_clamp, gdd_true, ix_nI, bdd_some, if_pos, if_neg, rI_wI, rI_wL, rL_wI, rL_wL, rI_cI, rI_cL, rL_cI, rL_cL, false_and, and_false, true_and, and_true, if_true, if_false, not_true_eq_false, not_false_eq_true, reduceCtorEq, zb_bz, bz_t, bz_f, Bool.true_eq_false, Bool.false_eq_true]
      · refine al_.same (r := -1) hg0 ?_ ?_
        · simp (disch := omega) only [m_X9_line, m8_hasBell t1 (by omega), hbl, fa_lit, nI_nm1, nm1_nI, nI_nm1l, Nat.mul_comm _ 6, Nat.mul_comm _ 60, nI_ltI, nI_leI, nI_eq, nI_add, pk_mul, pk_sub, rm_nI, pk_div, nI_clamp, gdd_true, ix_nI, bdd_some, if_pos, if_neg, rI_wI, rI_wL, rL_wI, rL_wL, rI_cI, rI_cL, rL_cI, rL_cL, false_and, and_false, true_and, and_true, if_true, if_false, not_true_eq_false, not_false_eq_true, reduceCtorEq, zb_bz, bz_t, bz_f, Bool.true_eq_false, Bool.false_eq_true]
        · simp (disch := omega) only [m_X10_line, m10_isBell t4 (by omega), hbl, in_nI 0 999999 0 999999 hv rfl rfl, decide_eq_false, fa_lit, nI_nm1, nm1_nI, nI_nm1l, Nat.mul_comm _ 6, Nat.mul_comm _ 60, nI_ltI, nI_leI, nI_eq, nI_add, pk_mul, pk_sub, rm_nI, pk_div, nI_clamp, gdd_true, ix_nI, bdd_some, if_pos, if_neg, rI_wI, rI_wL, rL_wI, rL_wL, rI_cI, rI_cL, rL_cI, rL_cL, false_and, and_false, true_and, and_true, if_true, if_false, not_true_eq_false, not_false_eq_true, reduceCtorEq, zb_bz, bz_t, bz_f, Bool.true_eq_false, Bool.false_eq_true]
