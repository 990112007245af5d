/-! shift -/
theorem sub_lt {a n i : Nat} (ha : a ≤ 60) (hn : n < 2 ^ 31) (hi : i < 2 ^ 31) : (nI a - nI n < nI i) ↔ a < i + n := by
  have h1 := nI_toInt (n := a) (by omega)
  have h2 := nI_toInt hn
  rw [fa_lt, ti_sub (by omega) (by omega), h1, h2, nI_toInt hi]
  omega
theorem le_sub {a n i : Nat} (ha : a ≤ 60) (hn : n < 2 ^ 31) (hi : i < 2 ^ 31) : (nI i ≤ nI a - nI n) ↔ i + n ≤ a := by
  have h1 := nI_toInt (n := a) (by omega)
  have h2 := nI_toInt hn
  rw [fa_le, ti_sub (by omega) (by omega), h1, h2, nI_toInt hi]
  omega
theorem fwd_loop {s i t j n : Nat} (hs : s < 6) (ht : t < 6) (hi : i + n ≤ 60) (hj : j + n ≤ 60) (hf : ∀ k, k < n → ¬ (60 * t + j ≤ 60 * s + i + k ∧ 60 * s + i + k < 60 * t + j + k)) : ∀ (fu k : Nat) (g : Mm), n < k + fu → k ≤ n →
    ∃ g', m_X10_shift_140 fu (nI s) (nI i) (nI t) (nI j) (nI n) (nI 0) (nI k) g = some (nI n, g') ∧ g'.1 = g.1 ∧ (∀ c p, rdL g' c p = if c = 62 ∧ 60 * t + j + k ≤ p ∧ p < 60 * t + j + n then rdL g 62 (60 * s + i + (p - (60 * t + j))) else rdL g c p) := by
  intro fu
  induction fu with
  | zero => intro k g h1 h2; omega
  | succ fu ih =>
    intro k g h1 h2
    rw [m_X10_shift_140]
    by_cases q : k = n
    · subst q
      refine ⟨g, ?_, rfl, fun c p => by rw [if_neg (by omega)]⟩
      simp (disch := omega) only [fa_lit, nI_nm1, nm1_nI, nI_nm1l, Nat.mul_comm _ 6, Nat.mul_comm _ 60, nI_ltI, nI_leI, nI_eq, nI_add, pk_mul, pk_sub, rm_nI, pk_div, nI_clamp, gdd_true, ix_nI, bdd_some, if_pos, if_neg, rI_wI, rI_wL, rL_wI, rL_wL, rI_cI, rI_cL, rL_cI, rL_cL, false_and, and_false, true_and, and_true, if_true, if_false, not_true_eq_false, not_false_eq_true, reduceCtorEq, zb_bz, bz_t, bz_f, Bool.true_eq_false, Bool.false_eq_true]
    · obtain ⟨g', e1, e2, e3⟩ := ih (k + 1) (wrL g 62 (60 * t + j + k) (rdL g 62 (60 * s + i + k))) (by omega) (by omega)
      refine ⟨g', ?_, e2, fun c p => ?_⟩
      · rw [← e1]
        simp (disch := omega) only [m_X10_shift_164, fa_lit, nI_nm1, nm1_nI, nI_nm1l, Nat.mul_comm _ 6, Nat.mul_comm _ 60, nI_ltI, nI_leI, nI_eq, nI_add, pk_mul, pk_sub, rm_nI, pk_div, nI_clamp, gdd_true, ix_nI, bdd_some, if_pos, if_neg, rI_wI, rI_wL, rL_wI, rL_wL, rI_cI, rI_cL, rL_cI, rL_cL, false_and, and_false, true_and, and_true, if_true, if_false, not_true_eq_false, not_false_eq_true, reduceCtorEq, zb_bz, bz_t, bz_f, Bool.true_eq_false, Bool.false_eq_true]
      · rw [e3]
        by_cases z : c = 62 ∧ 60 * t + j + k ≤ p ∧ p < 60 * t + j + n
        · rw [if_pos z]
          by_cases z2 : p = 60 * t + j + k
          · rw [if_neg (by omega), rL_wL, if_pos (by omega), z2, show 60 * t + j + k - (60 * t + j) = k by omega]
          · rw [if_pos (by omega), rL_wL, if_neg]
            have := hf (p - (60 * t + j)) (by omega)
            omega
        · rw [if_neg z, if_neg (by omega), rL_wL, if_neg (by omega)]
theorem bwd_loop {s i t j n : Nat} (hs : s < 6) (ht : t < 6) (hi : i + n ≤ 60) (hj : j + n ≤ 60) (hf : 60 * s + i < 60 * t + j) : ∀ (fu k : Nat) (g : Mm), n < k + fu → k ≤ n →
    ∃ g', m_X10_shift_140 fu (nI s) (nI i) (nI t) (nI j) (nI n) (nI 1) (nI k) g = some (nI n, g') ∧ g'.1 = g.1 ∧ (∀ c p, rdL g' c p = if c = 62 ∧ 60 * t + j ≤ p ∧ p < 60 * t + j + (n - k) then rdL g 62 (60 * s + i + (p - (60 * t + j))) else rdL g c p) := by
  intro fu
  induction fu with
  | zero => intro k g h1 h2; omega
  | succ fu ih =>
    intro k g h1 h2
    rw [m_X10_shift_140]
    by_cases q : k = n
    · subst q
      refine ⟨g, ?_, rfl, fun c p => by rw [if_neg (by omega)]⟩
      simp (disch := omega) only [fa_lit, nI_nm1, nm1_nI, nI_nm1l, Nat.mul_comm _ 6, Nat.mul_comm _ 60, nI_ltI, nI_leI, nI_eq, nI_add, pk_mul, pk_sub, rm_nI, pk_div, nI_clamp, gdd_true, ix_nI, bdd_some, if_pos, if_neg, rI_wI, rI_wL, rL_wI, rL_wL, rI_cI, rI_cL, rL_cI, rL_cL, false_and, and_false, true_and, and_true, if_true, if_false, not_true_eq_false, not_false_eq_true, reduceCtorEq, zb_bz, bz_t, bz_f, Bool.true_eq_false, Bool.false_eq_true]
    · obtain ⟨g', e1, e2, e3⟩ := ih (k + 1) (wrL g 62 (60 * t + j + (n - 1 - k)) (rdL g 62 (60 * s + i + (n - 1 - k)))) (by omega) (by omega)
      refine ⟨g', ?_, e2, fun c p => ?_⟩
      · rw [← e1]
        simp (disch := omega) only [m_X10_shift_164, fa_lit, nI_nm1, nm1_nI, nI_nm1l, Nat.mul_comm _ 6, Nat.mul_comm _ 60, nI_ltI, nI_leI, nI_eq, nI_add, pk_mul, pk_sub, rm_nI, pk_div, nI_clamp, gdd_true, ix_nI, bdd_some, if_pos, if_neg, rI_wI, rI_wL, rL_wI, rL_wL, rI_cI, rI_cL, rL_cI, rL_cL, false_and, and_false, true_and, and_true, if_true, if_false, not_true_eq_false, not_false_eq_true, reduceCtorEq, zb_bz, bz_t, bz_f, Bool.true_eq_false, Bool.false_eq_true]
      · rw [e3]
        by_cases z : c = 62 ∧ 60 * t + j ≤ p ∧ p < 60 * t + j + (n - k)
        · rw [if_pos z]
          by_cases z2 : p = 60 * t + j + (n - 1 - k)
          · rw [if_neg (by omega), rL_wL, if_pos (by omega), z2, show 60 * t + j + (n - 1 - k) - (60 * t + j) = n - 1 - k by omega]
          · rw [if_pos (by omega), rL_wL, if_neg (by omega)]
        · rw [if_neg z, if_neg (by omega), rL_wL, if_neg (by omega)]
theorem acp_60 {k n : Nat} (h : k + n ≤ 360) : acp (nI k) (nI n) 360 = true := by
  rw [acp, nI_toInt (by omega), nI_toInt (by omega), decide_eq_true (by omega), decide_eq_true (by omega), decide_eq_true (by omega)]
  rfl
set_option maxHeartbeats 1000000 in
theorem op_shift (a0 a1 a2 a3 a4 : Int32) {g : Mm} (hg : gv_ g) : al_ (m_X9_shift a0 a1 a2 a3 a4) (m_X10_shift a0 a1 a2 a3 a4) g := by
  have hg0 := hg
  obtain ⟨nb, nh, hd, cd, ck, tl, rt, nn, na, ra, f, hT, hX, hC, hP, hL, hE, hA, hS⟩ := hg
  cases hs1 : lt_n a0 6 with
  | false =>
    refine al_.same (r := -1) hg0 ?_ ?_
    · simp only [m_X9_shift, m6_hasShelf, hs1, bdd_some, bz_0, if_true]
    · simp only [m_X10_shift, m10_isShelf, hs1, bdd_some, bz_0, if_true]
  | true =>
    obtain ⟨s, hs, rfl⟩ := lt_nI hs1 (by decide)
    cases hs2 : lt_n a2 6 with
    | false =>
      refine al_.same (r := -1) hg0 ?_ ?_
      · simp (disch := omega) only [m_X9_shift, m6_hasShelf, hs1, hs2, fa_lit, nI_nm1, nm1_nI, nI_nm1l, Nat.mul_comm _ 6, Nat.mul_comm _ 60, nI_ltI, nI_leI, nI_eq, nI_add, pk_mul, pk_sub, rm_nI, pk_div, nI_clamp, gdd_true, ix_nI, bdd_some, if_pos, if_neg, rI_wI, rI_wL, rL_wI, rL_wL, rI_cI, rI_cL, rL_cI, rL_cL, false_and, and_false, true_and, and_true, if_true, if_false, not_true_eq_false, not_false_eq_true, reduceCtorEq, zb_bz, bz_t, bz_f, Bool.true_eq_false, Bool.false_eq_true]
      · rw [m_X10_shift, m10_isShelf, hs1, bdd_some, if_neg (show ¬ bz true = 0 by decide), m10_isShelf, hs2, bdd_some, if_pos (show bz false = 0 from rfl)]
    | true =>
      obtain ⟨t, ht, rfl⟩ := lt_nI hs2 (by decide)
      rcases hS s hs with ⟨c1, c2, c3⟩ | ⟨b, hb, c1, c2, c3, c4, c5⟩ | ⟨K, n1, hK, hn1, c1, c2, c3, c4, c5, c6⟩
      · refine al_.same (r := -11) hg0 ?_ ?_
        · simp (disch := omega) only [m_X9_shift, m6_hasShelf, hs1, hs2, m_X6_isBare, c1, fa_lit, nI_nm1, nm1_nI, nI_nm1l, Nat.mul_comm _ 6, Nat.mul_comm _ 60, nI_ltI, nI_leI, nI_eq, nI_add, pk_mul, pk_sub, rm_nI, pk_div, nI_clamp, gdd_true, ix_nI, bdd_some, if_pos, if_neg, rI_wI, rI_wL, rL_wI, rL_wL, rI_cI, rI_cL, rL_cI, rL_cL, false_and, and_false, true_and, and_true, if_true, if_false, not_true_eq_false, not_false_eq_true, reduceCtorEq, zb_bz, bz_t, bz_f, Bool.true_eq_false, Bool.false_eq_true]
        · rw [m_X10_shift, m10_isShelf, hs1, bdd_some, if_neg (show ¬ bz true = 0 by decide), m10_isShelf, hs2, bdd_some, if_neg (show ¬ bz true = 0 by decide), ix_nI hs (by omega), ix_nI ht (by omega), nI_clamp (n := s) (by omega), nI_clamp (n := t) (by omega), gdd_true, c2, if_pos (show nI 0 = (0 : Int32) from rfl)]
      · rcases hS t ht with ⟨d1, d2, d3⟩ | ⟨b', hb', d1, d2, d3, d4, d5⟩ | ⟨K', n2, hK', hn2, d1, d2, d3, d4, d5, d6⟩
        · refine al_.same (r := -11) hg0 ?_ ?_
          · simp (disch := omega) only [m_X9_shift, m6_hasShelf, hs1, hs2, m_X6_isBare, c1, d1, fa_lit, nI_nm1, nm1_nI, nI_nm1l, Nat.mul_comm _ 6, Nat.mul_comm _ 60, nI_ltI, nI_leI, nI_eq, nI_add, pk_mul, pk_sub, rm_nI, pk_div, nI_clamp, gdd_true, ix_nI, bdd_some, if_pos, if_neg, rI_wI, rI_wL, rL_wI, rL_wL, rI_cI, rI_cL, rL_cI, rL_cL, false_and, and_false, true_and, and_true, if_true, if_false, not_true_eq_false, not_false_eq_true, reduceCtorEq, zb_bz, bz_t, bz_f, Bool.true_eq_false, Bool.false_eq_true]
          · rw [m_X10_shift, m10_isShelf, hs1, bdd_some, if_neg (show ¬ bz true = 0 by decide), m10_isShelf, hs2, bdd_some, if_neg (show ¬ bz true = 0 by decide), ix_nI hs (by omega), ix_nI ht (by omega), nI_clamp (n := s) (by omega), nI_clamp (n := t) (by omega), gdd_true, c2, d2, if_neg (show ¬ nI 1 = (0 : Int32) by decide), gdd_true, if_pos (show nI 0 = (0 : Int32) from rfl)]
        · refine al_.same (r := -12) hg0 ?_ ?_
          · simp (disch := omega) only [m_X9_shift, m6_hasShelf, hs1, hs2, m_X6_isBare, m_X6_holdsARow, c1, d1, fa_lit, nI_nm1, nm1_nI, nI_nm1l, Nat.mul_comm _ 6, Nat.mul_comm _ 60, nI_ltI, nI_leI, nI_eq, nI_add, pk_mul, pk_sub, rm_nI, pk_div, nI_clamp, gdd_true, ix_nI, bdd_some, if_pos, if_neg, rI_wI, rI_wL, rL_wI, rL_wL, rI_cI, rI_cL, rL_cI, rL_cL, false_and, and_false, true_and, and_true, if_true, if_false, not_true_eq_false, not_false_eq_true, reduceCtorEq, zb_bz, bz_t, bz_f, Bool.true_eq_false, Bool.false_eq_true]
          · rw [m_X10_shift, m10_isShelf, hs1, bdd_some, if_neg (show ¬ bz true = 0 by decide), m10_isShelf, hs2, bdd_some, if_neg (show ¬ bz true = 0 by decide), ix_nI hs (by omega), ix_nI ht (by omega), nI_clamp (n := s) (by omega), nI_clamp (n := t) (by omega), gdd_true, c2, d2, if_neg (show ¬ nI 1 = (0 : Int32) by decide), gdd_true, if_neg (show ¬ nI 1 = (0 : Int32) by decide), gdd_true, if_pos (show nI 1 = (1 : Int32) from rfl)]
        · refine al_.same (r := -12) hg0 ?_ ?_
          · simp (disch := omega) only [m_X9_shift, m6_hasShelf, hs1, hs2, m_X6_isBare, m_X6_holdsARow, c1, d1, fa_lit, nI_nm1, nm1_nI, nI_nm1l, Nat.mul_comm _ 6, Nat.mul_comm _ 60, nI_ltI, nI_leI, nI_eq, nI_add, pk_mul, pk_sub, rm_nI, pk_div, nI_clamp, gdd_true, ix_nI, bdd_some, if_pos, if_neg, rI_wI, rI_wL, rL_wI, rL_wL, rI_cI, rI_cL, rL_cI, rL_cL, false_and, and_false, true_and, and_true, if_true, if_false, not_true_eq_false, not_false_eq_true, reduceCtorEq, zb_bz, bz_t, bz_f, Bool.true_eq_false, Bool.false_eq_true]
          · rw [m_X10_shift, m10_isShelf, hs1, bdd_some, if_neg (show ¬ bz true = 0 by decide), m10_isShelf, hs2, bdd_some, if_neg (show ¬ bz true = 0 by decide), ix_nI hs (by omega), ix_nI ht (by omega), nI_clamp (n := s) (by omega), nI_clamp (n := t) (by omega), gdd_true, c2, d2, if_neg (show ¬ nI 1 = (0 : Int32) by decide), gdd_true, if_neg (show ¬ nI 2 = (0 : Int32) by decide), gdd_true, if_pos (show nI 1 = (1 : Int32) from rfl)]
      · rcases hS t ht with ⟨d1, d2, d3⟩ | ⟨b', hb', d1, d2, d3, d4, d5⟩ | ⟨K', n2, hK', hn2, d1, d2, d3, d4, d5, d6⟩
        · refine al_.same (r := -11) hg0 ?_ ?_
          · simp (disch := omega) only [m_X9_shift, m6_hasShelf, hs1, hs2, m_X6_isBare, c1, d1, fa_lit, nI_nm1, nm1_nI, nI_nm1l, Nat.mul_comm _ 6, Nat.mul_comm _ 60, nI_ltI, nI_leI, nI_eq, nI_add, pk_mul, pk_sub, rm_nI, pk_div, nI_clamp, gdd_true, ix_nI, bdd_some, if_pos, if_neg, rI_wI, rI_wL, rL_wI, rL_wL, rI_cI, rI_cL, rL_cI, rL_cL, false_and, and_false, true_and, and_true, if_true, if_false, not_true_eq_false, not_false_eq_true, reduceCtorEq, zb_bz, bz_t, bz_f, Bool.true_eq_false, Bool.false_eq_true]
          · rw [m_X10_shift, m10_isShelf, hs1, bdd_some, if_neg (show ¬ bz true = 0 by decide), m10_isShelf, hs2, bdd_some, if_neg (show ¬ bz true = 0 by decide), ix_nI hs (by omega), ix_nI ht (by omega), nI_clamp (n := s) (by omega), nI_clamp (n := t) (by omega), gdd_true, c2, d2, if_neg (show ¬ nI 2 = (0 : Int32) by decide), gdd_true, if_pos (show nI 0 = (0 : Int32) from rfl)]
        · refine al_.same (r := -12) hg0 ?_ ?_
          · simp (disch := omega) only [m_X9_shift, m6_hasShelf, hs1, hs2, m_X6_isBare, m_X6_holdsARow, m_X6_sameSort, c1, d1, fa_lit, nI_nm1, nm1_nI, nI_nm1l, Nat.mul_comm _ 6, Nat.mul_comm _ 60, nI_ltI, nI_leI, nI_eq, nI_add, pk_mul, pk_sub, rm_nI, pk_div, nI_clamp, gdd_true, ix_nI, bdd_some, if_pos, if_neg, rI_wI, rI_wL, rL_wI, rL_wL, rI_cI, rI_cL, rL_cI, rL_cL, false_and, and_false, true_and, and_true, if_true, if_false, not_true_eq_false, not_false_eq_true, reduceCtorEq, zb_bz, bz_t, bz_f, Bool.true_eq_false, Bool.false_eq_true]
          · rw [m_X10_shift, m10_isShelf, hs1, bdd_some, if_neg (show ¬ bz true = 0 by decide), m10_isShelf, hs2, bdd_some, if_neg (show ¬ bz true = 0 by decide), ix_nI hs (by omega), ix_nI ht (by omega), nI_clamp (n := s) (by omega), nI_clamp (n := t) (by omega), gdd_true, c2, d2, if_neg (show ¬ nI 2 = (0 : Int32) by decide), gdd_true, if_neg (show ¬ nI 1 = (0 : Int32) by decide), gdd_true, if_neg (show ¬ nI 2 = (1 : Int32) by decide), gdd_true, if_pos (show nI 1 = (1 : Int32) from rfl)]
        · by_cases hKK : K = K'
          · subst hKK
            have ec : ∀ (a1 a3 a4 : Int32) (g : Mm), rdI g 36 s = nI K → rdI g 36 t = nI K → m_X9_shift (nI s) a1 (nI t) a3 a4 g = bdd (m_X6_hasPart (nI s) a1 a4 g) (fun ra25 ga26 => (if ra25 = (0 : Int32) then some (-13, ga26) else bdd (m_X6_hasPart (nI t) a3 a4 ga26) (fun ra29 ga30 => (if ra29 = (0 : Int32) then some (-13, ga30) else bdd (m_X6_copy (nI s) a1 (nI t) a3 a4 ga30) (fun ra33 ga34 => some (a4, ga34)))))) := fun a1 a3 a4 g c1 d1 => by
              simp (disch := omega) only [m_X9_shift, m6_hasShelf, hs1, hs2, m_X6_isBare, m_X6_holdsARow, m_X6_sameSort, c1, d1, fa_lit, nI_nm1, nm1_nI, nI_nm1l, Nat.mul_comm _ 6, Nat.mul_comm _ 60, nI_ltI, nI_leI, nI_eq, nI_add, pk_mul, pk_sub, rm_nI, pk_div, nI_clamp, gdd_true, ix_nI, bdd_some, if_pos, if_neg, rI_wI, rI_wL, rL_wI, rL_wL, rI_cI, rI_cL, rL_cI, rL_cL, false_and, and_false, true_and, and_true, if_true, if_false, not_true_eq_false, not_false_eq_true, reduceCtorEq, zb_bz, bz_t, bz_f, Bool.true_eq_false, Bool.false_eq_true]
            have em : ∀ (a1 a3 a4 : Int32) (g : Mm), rdI g 58 s = nI 2 → rdI g 58 t = nI 2 → rdI g 60 s = nI K → rdI g 60 t = nI K → rdI g 61 s = nI n1 → rdI g 61 t = nI n2 → m_X10_shift (nI s) a1 (nI t) a3 a4 g = (if a4 < (0 : Int32) then some (-13, g) else if a1 < (0 : Int32) then some (-13, g) else if a3 < (0 : Int32) then some (-13, g) else if nI n1 - a4 < a1 then some (-13, g) else if a3 ≤ nI n2 - a4 then (if nI s = nI t then (if a3 ≤ a1 then m_X10_shift_140 fuL (nI s) a1 (nI t) a3 a4 0 0 g else m_X10_shift_140 fuL (nI s) a1 (nI t) a3 a4 1 0 g) else m_X10_shift_140 fuL (nI s) a1 (nI t) a3 a4 0 0 g) else some (-13, g)) := fun a1 a3 a4 g c2 d2 c3 d3 c5 d5 => by
              rw [m_X10_shift, m10_isShelf, hs1, bdd_some, if_neg (show ¬ bz true = 0 by decide), m10_isShelf, hs2, bdd_some, if_neg (show ¬ bz true = 0 by decide), ix_nI hs (by omega), ix_nI ht (by omega), nI_clamp (n := s) (by omega), nI_clamp (n := t) (by omega), gdd_true, c2, d2, if_neg (show ¬ nI 2 = (0 : Int32) by decide), gdd_true, if_neg (show ¬ nI 2 = (0 : Int32) by decide), gdd_true, if_neg (show ¬ nI 2 = (1 : Int32) by decide), gdd_true, if_neg (show ¬ nI 2 = (1 : Int32) by decide), gdd_true, gdd_true, c3, d3, if_pos rfl, c5, d5, gdd_true, gdd_true]
            have bad : m_X9_shift (nI s) a1 (nI t) a3 a4 g = some (-13, g) → m_X10_shift (nI s) a1 (nI t) a3 a4 g = some (-13, g) → al_ (m_X9_shift (nI s) a1 (nI t) a3 a4) (m_X10_shift (nI s) a1 (nI t) a3 a4) g := fun h1 h2 => al_.same hg0 h1 h2
            rcases i_cases a1 with h1 | ⟨i, hi, rfl⟩
            · refine bad ?_ ?_
              · rw [ec _ _ _ g c1 d1, m_X6_hasPart, if_pos (neg_lt0 h1), bdd_some, if_pos rfl]
              · rw [em _ _ _ g c2 d2 c3 d3 c5 d5]
                by_cases z : a4 < (0 : Int32)
                · rw [if_pos z]
                · rw [if_neg z, if_pos (show a1 < (0 : Int32) from neg_lt0 h1)]
            · rcases i_cases a4 with h4 | ⟨n, hn, rfl⟩
              · refine bad ?_ ?_
                · rw [ec _ _ _ g c1 d1, m_X6_hasPart, if_neg (show ¬ nI i < (0 : Int32) from nI_pos hi), if_pos (neg_lt0 h4), bdd_some, if_pos rfl]
                · rw [em _ _ _ g c2 d2 c3 d3 c5 d5, if_pos (show a4 < (0 : Int32) from neg_lt0 h4)]
              · by_cases hin : i + n ≤ n1
                · have p1 : m_X6_hasPart (nI s) (nI i) (nI n) g = some (nI 1, g) := by
                    simp (disch := omega) only [m_X6_hasPart, c4, fa_lit, nI_nm1, nm1_nI, nI_nm1l, Nat.mul_comm _ 6, Nat.mul_comm _ 60, nI_ltI, nI_leI, nI_eq, nI_add, pk_mul, pk_sub, rm_nI, pk_div, nI_clamp, gdd_true, ix_nI, bdd_some, if_pos, if_neg, rI_wI, rI_wL, rL_wI, rL_wL, rI_cI, rI_cL, rL_cI, rL_cL, false_and, and_false, true_and, and_true, if_true, if_false, not_true_eq_false, not_false_eq_true, reduceCtorEq, zb_bz, bz_t, bz_f, Bool.true_eq_false, Bool.false_eq_true]
                  rcases i_cases a3 with h3 | ⟨j, hj, rfl⟩
                  · refine bad ?_ ?_
                    · rw [ec _ _ _ g c1 d1, p1, bdd_some, if_neg (show ¬ nI 1 = (0 : Int32) by decide), m_X6_hasPart, if_pos (neg_lt0 h3), bdd_some, if_pos rfl]
                    · rw [em _ _ _ g c2 d2 c3 d3 c5 d5, if_neg (show ¬ nI n < (0 : Int32) from nI_pos hn), if_neg (show ¬ nI i < (0 : Int32) from nI_pos hi), if_pos (show a3 < (0 : Int32) from neg_lt0 h3)]
                  · by_cases hjn : j + n ≤ n2
                    · have p2 : m_X6_hasPart (nI t) (nI j) (nI n) g = some (nI 1, g) := by
                        simp (disch := omega) only [m_X6_hasPart, d4, fa_lit, nI_nm1, nm1_nI, nI_nm1l, Nat.mul_comm _ 6, Nat.mul_comm _ 60, nI_ltI, nI_leI, nI_eq, nI_add, pk_mul, pk_sub, rm_nI, pk_div, nI_clamp, gdd_true, ix_nI, bdd_some, if_pos, if_neg, rI_wI, rI_wL, rL_wI, rL_wL, rI_cI, rI_cL, rL_cI, rL_cL, false_and, and_false, true_and, and_true, if_true, if_false, not_true_eq_false, not_false_eq_true, reduceCtorEq, zb_bz, bz_t, bz_f, Bool.true_eq_false, Bool.false_eq_true]
                      have pc : m_X6_copy (nI s) (nI i) (nI t) (nI j) (nI n) g = some (nI 0, cpL g 39 (60 * s + i) 39 (60 * t + j) n) := by
                        rw [m_X6_copy, show (60 : Int32) = nI 60 from rfl, pk_mul, pk_mul, nI_add, nI_add, Nat.mul_comm s, Nat.mul_comm t, acp_60 (by omega), gdd_true, acp_60 (by omega), gdd_true, nI_clamp (by omega), nI_clamp (by omega), nI_clamp (by omega)]
                        rfl
                      have fin : ∀ g2 : Mm, g2.1 = g.1 → (∀ c p, rdL g2 c p = if c = 62 ∧ 60 * t + j ≤ p ∧ p < 60 * t + j + n then rdL (cpL g 39 (60 * s + i) 39 (60 * t + j) n) 62 (60 * s + i + (p - (60 * t + j))) else rdL (cpL g 39 (60 * s + i) 39 (60 * t + j) n) c p) → m_X10_shift (nI s) (nI i) (nI t) (nI j) (nI n) (cpL g 39 (60 * s + i) 39 (60 * t + j) n) = some (nI n, g2) → al_ (m_X9_shift (nI s) (nI i) (nI t) (nI j) (nI n)) (m_X10_shift (nI s) (nI i) (nI t) (nI j) (nI n)) g := by
                        intro g2 w1 w2 w3
                        have kp : ∀ P : Nat → Nat → Bool, kp_ P g g2 := fun P c i _ => by unfold rdI; rw [w1]
                        refine ⟨nI n, cpL g 39 (60 * s + i) 39 (60 * t + j) n, g2, ?_, w3, nb, nh, hd, cd, ck, tl, rt, nn, na, ra, f, hT.cong (kp _), hX.cong (kp _), hC.cong (kp _), hP.cong (kp _), hL.cong (kp _), hE.cong (kp _), hA.cong (kp _), ?_⟩
                        · rw [ec _ _ _ g c1 d1, p1, bdd_some, if_neg (show ¬ nI 1 = (0 : Int32) by decide), p2, bdd_some, if_neg (show ¬ nI 1 = (0 : Int32) by decide), pc, bdd_some]
                        · have rk : ∀ c k, rdI g2 c k = rdI g c k := fun c k => by unfold rdI; rw [w1]
                          have r39 : ∀ p, rdL g2 39 p = if 60 * t + j ≤ p ∧ p < 60 * t + j + n then rdL g 39 (60 * s + i + (p - (60 * t + j))) else rdL g 39 p := fun p => by
                            rw [w2, if_neg (by omega), rL_cL]
                            simp only [true_and]
                          have r62 : ∀ p, rdL g2 62 p = if 60 * t + j ≤ p ∧ p < 60 * t + j + n then rdL g 62 (60 * s + i + (p - (60 * t + j))) else rdL g 62 p := fun p => by
                            rw [w2, rL_cL, rL_cL, if_neg (show ¬ (62 = 39 ∧ 60 * t + j ≤ 60 * s + i + (p - (60 * t + j)) ∧ 60 * s + i + (p - (60 * t + j)) < 60 * t + j + n) by omega), if_neg (show ¬ (62 = 39 ∧ 60 * t + j ≤ p ∧ p < 60 * t + j + n) by omega)]
                            simp only [true_and]
                          refine hS.upd (s := t) ?_ (fun c k hc hne => rk c k) (fun q k hq hk => ?_)
                          · refine Or.inr (Or.inr ⟨K, n2, hK, hn2, ?_, ?_, ?_, ?_, ?_, fun k hk => ?_⟩)
                            · rw [rk]; exact d1
                            · rw [rk]; exact d2
                            · rw [rk]; exact d3
                            · rw [rk]; exact d4
                            · rw [rk]; exact d5
                            · rw [r62, r39]
                              by_cases z : 60 * t + j ≤ 60 * t + k ∧ 60 * t + k < 60 * t + j + n
                              · rw [if_pos z, if_pos z, show 60 * s + i + (60 * t + k - (60 * t + j)) = 60 * s + (i + (k - j)) by omega]
                                exact c6 _ (by omega)
                              · rw [if_neg z, if_neg z]
                                exact d6 k hk
                          · rw [r39, r62, if_neg (by omega), if_neg (by omega)]
                            exact ⟨rfl, rfl⟩
                      obtain ⟨F, eF, hF⟩ := fu_get
                      have e5 := em (nI i) (nI j) (nI n) (cpL g 39 (60 * s + i) 39 (60 * t + j) n) c2 d2 c3 d3 c5 d5
                      rw [if_neg (show ¬ nI n < (0 : Int32) from nI_pos hn), if_neg (show ¬ nI i < (0 : Int32) from nI_pos hi), if_neg (show ¬ nI j < (0 : Int32) from nI_pos hj), if_neg (by rw [sub_lt hn1 hn hi]; omega), if_pos ((le_sub hn2 hn hj).mpr hjn), eF] at e5
                      by_cases hst : s = t
                      · by_cases hij : j ≤ i
                        · obtain ⟨g2, o1, o2, o3⟩ := fwd_loop hs ht (i := i) (j := j) (n := n) (by omega) (by omega) (fun k hk => by omega) F 0 (cpL g 39 (60 * s + i) 39 (60 * t + j) n) (by omega) (by omega)
                          rw [if_pos (by rw [hst]), if_pos ((nI_leI hj hi).mpr hij)] at e5
                          exact fin g2 o2 o3 (e5.trans o1)
                        · obtain ⟨g2, o1, o2, o3⟩ := bwd_loop hs ht (i := i) (j := j) (n := n) (by omega) (by omega) (by omega) F 0 (cpL g 39 (60 * s + i) 39 (60 * t + j) n) (by omega) (by omega)
                          rw [if_pos (by rw [hst]), if_neg (fun z => hij ((nI_leI hj hi).mp z))] at e5
                          exact fin g2 o2 o3 (e5.trans o1)
                      · obtain ⟨g2, o1, o2, o3⟩ := fwd_loop hs ht (i := i) (j := j) (n := n) (by omega) (by omega) (fun k hk => by omega) F 0 (cpL g 39 (60 * s + i) 39 (60 * t + j) n) (by omega) (by omega)
                        rw [if_neg (fun z => hst ((nI_eq (by omega) (by omega)).mp z))] at e5
                        exact fin g2 o2 o3 (e5.trans o1)
                    · refine bad ?_ ?_
                      · rw [ec _ _ _ g c1 d1, p1, bdd_some, if_neg (show ¬ nI 1 = (0 : Int32) by decide), m_X6_hasPart, if_neg (show ¬ nI j < (0 : Int32) from nI_pos hj), if_neg (show ¬ nI n < (0 : Int32) from nI_pos hn), ix_nI ht (by omega), gdd_true, nI_clamp (by omega), d4, if_pos ((sub_lt hn2 hn hj).mpr (by omega)), bdd_some, if_pos rfl]
                      · rw [em _ _ _ g c2 d2 c3 d3 c5 d5, if_neg (show ¬ nI n < (0 : Int32) from nI_pos hn), if_neg (show ¬ nI i < (0 : Int32) from nI_pos hi), if_neg (show ¬ nI j < (0 : Int32) from nI_pos hj), if_neg (by rw [sub_lt hn1 hn hi]; omega), if_neg (by rw [le_sub hn2 hn hj]; omega)]
                · refine bad ?_ ?_
                  · rw [ec _ _ _ g c1 d1, m_X6_hasPart, if_neg (show ¬ nI i < (0 : Int32) from nI_pos hi), if_neg (show ¬ nI n < (0 : Int32) from nI_pos hn), ix_nI hs (by omega), gdd_true, nI_clamp (by omega), c4, if_pos ((sub_lt hn1 hn hi).mpr (by omega)), bdd_some, if_pos rfl]
                  · rw [em _ _ _ g c2 d2 c3 d3 c5 d5, if_neg (show ¬ nI n < (0 : Int32) from nI_pos hn), if_neg (show ¬ nI i < (0 : Int32) from nI_pos hi)]
                    by_cases z : a3 < (0 : Int32)
                    · rw [if_pos z]
                    · rw [if_neg z, if_pos ((sub_lt hn1 hn hi).mpr (by omega))]
          · refine al_.same (r := -12) hg0 ?_ ?_
            · simp (disch := omega) only [m_X9_shift, m6_hasShelf, hs1, hs2, m_X6_isBare, m_X6_holdsARow, m_X6_sameSort, c1, d1, fa_lit, nI_nm1, nm1_nI, nI_nm1l, Nat.mul_comm _ 6, Nat.mul_comm _ 60, nI_ltI, nI_leI, nI_eq, nI_add, pk_mul, pk_sub, rm_nI, pk_div, nI_clamp, gdd_true, ix_nI, bdd_some, if_pos, if_neg, rI_wI, rI_wL, rL_wI, rL_wL, rI_cI, rI_cL, rL_cI, rL_cL, false_and, and_false, true_and, and_true, if_true, if_false, not_true_eq_false, not_false_eq_true, reduceCtorEq, zb_bz, bz_t, bz_f, Bool.true_eq_false, Bool.false_eq_true]
            · rw [m_X10_shift, m10_isShelf, hs1, bdd_some, if_neg (show ¬ bz true = 0 by decide), m10_isShelf, hs2, bdd_some, if_neg (show ¬ bz true = 0 by decide), ix_nI hs (by omega), ix_nI ht (by omega), nI_clamp (n := s) (by omega), nI_clamp (n := t) (by omega), gdd_true, c2, d2, if_neg (show ¬ nI 2 = (0 : Int32) by decide), gdd_true, if_neg (show ¬ nI 2 = (0 : Int32) by decide), gdd_true, if_neg (show ¬ nI 2 = (1 : Int32) by decide), gdd_true, if_neg (show ¬ nI 2 = (1 : Int32) by decide), gdd_true, gdd_true, gdd_true, c3, d3, if_neg (show ¬ nI K = nI K' from fun z => hKK ((nI_eq (by omega) (by omega)).mp z))]
