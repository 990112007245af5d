/-! strikes from a row -/
theorem mm_ext {g g' : Mm} (h : ∀ x k, rdI g' x k = rdI g x k) (h2 : g'.2 = g.2) : g' = g := Prod.ext (funext fun c => funext fun i => h c i) h2
def w_in (v : Int64) (M : Nat) : Bool := decide (0 ≤ v.toInt) && decide (v.toInt ≤ (M : Int))
theorem may64 {b M : Nat} {g : Mm} (hb : b < 6) (h : rdI g 2 b = nI M) (hM : M < 2 ^ 31) (v : Int64) : m_X8_mayStrike (nI b) v g = some (bz (w_in v M), g) := by
  have e0 : (0 : Int64).toInt = 0 := rfl
  rw [m_X8_mayStrike, ix_nI hb (by omega), gdd_true, nI_clamp (by omega), h, w_in]
  by_cases q : v.toInt < 0
  · rw [if_pos ((cmp_lt _ _).mpr (by rw [Int64.lt_iff_toInt_lt, e0]; exact q)), decide_eq_false (by omega)]
    rfl
  · rw [if_neg (fun z => q (by have z := (cmp_lt _ _).mp z; rw [Int64.lt_iff_toInt_lt, e0] at z; exact z)), decide_eq_true (show 0 ≤ v.toInt by omega)]
    by_cases z : v.toInt ≤ (M : Int)
    · rw [decide_eq_true z, if_neg (fun y => by have y := (cmp_gt _ _).mp y; rw [Int64.lt_iff_toInt_lt, t64, nI_toInt hM] at y; omega)]
      rfl
    · rw [decide_eq_false z, if_pos ((cmp_gt _ _).mpr (by rw [Int64.lt_iff_toInt_lt, t64, nI_toInt hM]; omega))]
      rfl
theorem in_w {M : Nat} (hM : M < 2 ^ 31) (v : Int64) (g : Mm) : m_X10_in v 0 (nI M).toInt64 g = some (bz (w_in v M), g) := by
  rw [m10_in, t64, nI_toInt hM]
  rfl
theorem lN_small : ∀ u, u < 16 → (lN u).toInt32 = nI u := by decide +kernel
theorem w_get {v : Int64} {M : Nat} (h : w_in v M = true) (hM : M ≤ 15) : ∃ u, u ≤ M ∧ v.toInt32 = nI u := by
  simp only [w_in, Bool.and_eq_true, decide_eq_true_eq] at h
  refine ⟨v.toInt.toNat, by omega, ?_⟩
  have e : v = lN v.toInt.toNat := Int64.toInt_inj.mp (by rw [pk_lT (by omega)]; omega)
  have h16 : v.toInt.toNat < 16 := by omega
  have e2 := lN_small _ h16
  rw [← e] at e2
  exact e2
theorem cmp_ge (x y : Int64) : ((0 : Int32) ≤ lg_cmp x y) ↔ y ≤ x := by
  rw [← Int32.not_lt, cmp_lt, Int64.not_lt]
theorem ge_sum {i j n : Nat} (hi : i < 2 ^ 31) (hj : j < 2 ^ 30) (hn : n < 2 ^ 31) : ((0 : Int32) ≤ lg_cmp ((nI i).toInt64 + (nI j).toInt64) (nI n).toInt64) ↔ n ≤ i + j := by
  rw [cmp_ge, nI_l hi, nI_l (n := j) (by omega), nI_l hn]
  show lN n ≤ Int64.ofNat i + Int64.ofNat j ↔ n ≤ i + j
  rw [← Int64.ofNat_add]
  exact pk_lLE (by omega) (by omega)
theorem ge_sum' {i j n : Nat} (hi : i < 2 ^ 31) (hj : j < 2 ^ 30) (hn : n < 2 ^ 31) : (nI 0 ≤ lg_cmp ((nI i).toInt64 + (nI j).toInt64) (nI n).toInt64) ↔ n ≤ i + j := ge_sum hi hj hn
theorem strikes_c {b N s i n M : Nat} (hs : s < 6) (hb : b < 6) (hN : N ≤ 24) (hn : n ≤ 60) (hi : i < 60) (hM : M ≤ 15) : ∀ (fu j : Nat) (g : Mm), N < j + fu → j ≤ N → rdI g 38 s = nI n → rdI g 2 b = nI M →
    ∃ m g', j ≤ m ∧ m ≤ N ∧ m_X9_strikes_70 fu (nI s) (nI i) (nI b) (nI N) (nI j) g = m_X9_strikes_144 (nI m) g' ∧ (∀ k, j ≤ k → k < m → i + k < n ∧ w_in (rdL g 39 (60 * s + (i + k))) M = true) ∧
      (m < N → ¬ (i + m < n ∧ w_in (rdL g 39 (60 * s + (i + m))) M = true)) ∧ (∀ x k, rdI g' x k = if x = 5 ∧ k % 6 = b ∧ j ≤ k / 6 ∧ k / 6 < m then (rdL g 39 (60 * s + (i + k / 6))).toInt32 else rdI g x k) ∧ g'.2 = g.2 := by
  intro fu
  induction fu with
  | zero => intro j g h1 h2; omega
  | succ fu ih =>
    intro j g h1 h2 e38 eM
    by_cases q : j = N
    · subst q
      refine ⟨j, g, Nat.le_refl _, Nat.le_refl _, ?_, fun k h3 h4 => by omega, fun h => by omega, fun x k => by rw [if_neg (by omega)], rfl⟩
      simp (disch := omega) only [m_X9_strikes_70, fa_lit, nI_nm1, nm1_nI, nI_nm1l, Nat.mul_comm _ 6, Nat.mul_comm _ 60, nI_ltI, nI_leI, nI_eq, nI_add, pk_mul, pk_sub, rm_nI, pk_div, nI_clamp, gdd_true, ix_nI, bdd_some, if_pos, if_neg, rI_wI, rI_wL, rL_wI, rL_wL, rI_cI, rI_cL, rL_cI, rL_cL, false_and, and_false, true_and, and_true, if_true, if_false, not_true_eq_false, not_false_eq_true, reduceCtorEq, zb_bz, bz_t, bz_f, Bool.true_eq_false, Bool.false_eq_true]
    · by_cases p : i + j < n
      · cases w : w_in (rdL g 39 (60 * s + (i + j))) M with
        | false =>
          refine ⟨j, g, Nat.le_refl _, h2, ?_, fun k h3 h4 => by omega, fun _ h => ?_, fun x k => by rw [if_neg (by omega)], rfl⟩
          · simp (disch := omega) only [m_X9_strikes_70, m_X6_hasPlace, m_X6_at, e38, may64 hb eM (show M < 2 ^ 31 by omega), w, fa_lit, nI_nm1, nm1_nI, nI_nm1l, Nat.mul_comm _ 6, Nat.mul_comm _ 60, nI_ltI, nI_leI, nI_eq, nI_add, pk_mul, pk_sub, rm_nI, pk_div, nI_clamp, gdd_true, ix_nI, bdd_some, if_pos, if_neg, rI_wI, rI_wL, rL_wI, rL_wL, rI_cI, rI_cL, rL_cI, rL_cL, false_and, and_false, true_and, and_true, if_true, if_false, not_true_eq_false, not_false_eq_true, reduceCtorEq, zb_bz, bz_t, bz_f, Bool.true_eq_false, Bool.false_eq_true]
          · rw [w] at h
            cases h.2
        | true =>
          obtain ⟨m, g', m1, m2, e1, c1, c2, e2, e3⟩ := ih (j + 1) (wrI g 5 (6 * j + b) (rdL g 39 (60 * s + (i + j))).toInt32) (by omega) (by omega) (by rw [rI_wI, if_neg (by omega), e38]) (by rw [rI_wI, if_neg (by omega), eM])
          refine ⟨m, g', by omega, m2, ?_, fun k h3 h4 => ?_, c2, fun x k => ?_, e3⟩
          · rw [← e1]
            simp (disch := omega) only [m_X9_strikes_70, m_X6_hasPlace, m_X6_at, m8_write, e38, may64 hb eM (show M < 2 ^ 31 by omega), w, fa_lit, nI_nm1, nm1_nI, nI_nm1l, Nat.mul_comm _ 6, Nat.mul_comm _ 60, nI_ltI, nI_leI, nI_eq, nI_add, pk_mul, pk_sub, rm_nI, pk_div, nI_clamp, gdd_true, ix_nI, bdd_some, if_pos, if_neg, rI_wI, rI_wL, rL_wI, rL_wL, rI_cI, rI_cL, rL_cI, rL_cL, false_and, and_false, true_and, and_true, if_true, if_false, not_true_eq_false, not_false_eq_true, reduceCtorEq, zb_bz, bz_t, bz_f, Bool.true_eq_false, Bool.false_eq_true]
          · by_cases z : k = j
            · subst z
              exact ⟨p, w⟩
            · exact c1 k (by omega) h4
          · rw [e2, rI_wI]
            by_cases z : x = 5 ∧ k % 6 = b ∧ j ≤ k / 6 ∧ k / 6 < m
            · rw [if_pos z]
              by_cases z2 : k / 6 = j
              · rw [if_neg (by omega), if_pos (by omega), z2]
              · rw [if_pos (by omega)]
                rfl
            · rw [if_neg z, if_neg (by omega), if_neg (by omega)]
      · refine ⟨j, g, Nat.le_refl _, h2, ?_, fun k h3 h4 => by omega, fun _ h => p h.1, fun x k => by rw [if_neg (by omega)], rfl⟩
        simp (disch := omega) only [m_X9_strikes_70, m_X6_hasPlace, e38, fa_lit, nI_nm1, nm1_nI, nI_nm1l, Nat.mul_comm _ 6, Nat.mul_comm _ 60, nI_ltI, nI_leI, nI_eq, nI_add, pk_mul, pk_sub, rm_nI, pk_div, nI_clamp, gdd_true, ix_nI, bdd_some, if_pos, if_neg, rI_wI, rI_wL, rL_wI, rL_wL, rI_cI, rI_cL, rL_cI, rL_cL, false_and, and_false, true_and, and_true, if_true, if_false, not_true_eq_false, not_false_eq_true, reduceCtorEq, zb_bz, bz_t, bz_f, Bool.true_eq_false, Bool.false_eq_true]
theorem strikes_m {b N s i n M : Nat} (hs : s < 6) (hb : b < 6) (hN : N ≤ 24) (hn : n ≤ 60) (hi : i < 60) (hM : M ≤ 15) : ∀ (fu j : Nat) (g : Mm), N + 1 < j + fu → j ≤ N → rdI g 61 s = nI n → rdI g 41 b = nI M →
    ∃ m g', j ≤ m ∧ m ≤ N ∧ m_X10_strikes_88 fu (nI s) (nI i) (nI b) (nI N) (nI j) (nI 1) g = m_X10_strikes_190 (nI m) g' ∧ (∀ k, j ≤ k → k < m → i + k < n ∧ w_in (rdL g 62 (60 * s + i + k)) M = true) ∧
      (m < N → ¬ (i + m < n ∧ w_in (rdL g 62 (60 * s + i + m)) M = true)) ∧ (∀ x k, rdI g' x k = if x = 44 ∧ k % 6 = b ∧ j ≤ k / 6 ∧ k / 6 < m then (rdL g 62 (60 * s + i + k / 6)).toInt32 else rdI g x k) ∧ g'.2 = g.2 := by
  intro fu
  induction fu with
  | zero => intro j g h1 h2; omega
  | succ fu ih =>
    intro j g h1 h2 e38 eM
    obtain ⟨fv, rfl⟩ : ∃ fv, fu = fv + 1 := ⟨fu - 1, by omega⟩
    by_cases q : j = N
    · subst q
      refine ⟨j, g, Nat.le_refl _, Nat.le_refl _, ?_, fun k h3 h4 => by omega, fun h => by omega, fun x k => by rw [if_neg (by omega)], rfl⟩
      rw [m_X10_strikes_88]
      simp (disch := omega) only [fa_lit, nI_nm1, nm1_nI, nI_nm1l, Nat.mul_comm _ 6, Nat.mul_comm _ 60, nI_ltI, nI_leI, nI_eq, nI_add, pk_mul, pk_sub, rm_nI, pk_div, nI_clamp, gdd_true, ix_nI, bdd_some, if_pos, if_neg, rI_wI, rI_wL, rL_wI, rL_wL, rI_cI, rI_cL, rL_cI, rL_cL, false_and, and_false, true_and, and_true, if_true, if_false, not_true_eq_false, not_false_eq_true, reduceCtorEq, zb_bz, bz_t, bz_f, Bool.true_eq_false, Bool.false_eq_true]
    · have stop : m_X10_strikes_150 (m_X10_strikes_88 (fv + 1)) (nI s) (nI i) (nI b) (nI N) (nI j) (nI 0) g = m_X10_strikes_190 (nI j) g := by
        simp (disch := omega) only [m_X10_strikes_150, m_X10_strikes_88, fa_lit, nI_nm1, nm1_nI, nI_nm1l, Nat.mul_comm _ 6, Nat.mul_comm _ 60, nI_ltI, nI_leI, nI_eq, nI_add, pk_mul, pk_sub, rm_nI, pk_div, nI_clamp, gdd_true, ix_nI, bdd_some, if_pos, if_neg, rI_wI, rI_wL, rL_wI, rL_wL, rI_cI, rI_cL, rL_cI, rL_cL, false_and, and_false, true_and, and_true, if_true, if_false, not_true_eq_false, not_false_eq_true, reduceCtorEq, zb_bz, bz_t, bz_f, Bool.true_eq_false, Bool.false_eq_true]
      by_cases p : i + j < n
      · have hge : ¬ nI 0 ≤ lg_cmp ((nI i).toInt64 + (nI j).toInt64) (nI n).toInt64 := fun z => by
          have z := (ge_sum' (by omega) (by omega) (by omega)).mp z
          omega
        cases w : w_in (rdL g 62 (60 * s + i + j)) M with
        | false =>
          refine ⟨j, g, Nat.le_refl _, h2, ?_, fun k h3 h4 => by omega, fun _ h => ?_, fun x k => by rw [if_neg (by omega)], rfl⟩
          · rw [m_X10_strikes_88]
            simp (disch := omega) only [e38, eM, hge, in_w (show M < 2 ^ 31 by omega), w, fa_lit, nI_nm1, nm1_nI, nI_nm1l, Nat.mul_comm _ 6, Nat.mul_comm _ 60, nI_ltI, nI_leI, nI_eq, nI_add, pk_mul, pk_sub, rm_nI, pk_div, nI_clamp, gdd_true, ix_nI, bdd_some, if_pos, if_neg, rI_wI, rI_wL, rL_wI, rL_wL, rI_cI, rI_cL, rL_cI, rL_cL, false_and, and_false, true_and, and_true, if_true, if_false, not_true_eq_false, not_false_eq_true, reduceCtorEq, zb_bz, bz_t, bz_f, Bool.true_eq_false, Bool.false_eq_true]
            exact stop
          · rw [w] at h
            cases h.2
        | true =>
          obtain ⟨m, g', m1, m2, e1, c1, c2, e2, e3⟩ := ih (j + 1) (wrI g 44 (6 * j + b) (rdL g 62 (60 * s + i + j)).toInt32) (by omega) (by omega) (by rw [rI_wI, if_neg (by omega), e38]) (by rw [rI_wI, if_neg (by omega), eM])
          refine ⟨m, g', by omega, m2, ?_, fun k h3 h4 => ?_, c2, fun x k => ?_, e3⟩
          · rw [← e1, m_X10_strikes_88]
            simp (disch := omega) only [e38, eM, hge, in_w (show M < 2 ^ 31 by omega), w, m_X10_strikes_150, fa_lit, nI_nm1, nm1_nI, nI_nm1l, Nat.mul_comm _ 6, Nat.mul_comm _ 60, nI_ltI, nI_leI, nI_eq, nI_add, pk_mul, pk_sub, rm_nI, pk_div, nI_clamp, gdd_true, ix_nI, bdd_some, if_pos, if_neg, rI_wI, rI_wL, rL_wI, rL_wL, rI_cI, rI_cL, rL_cI, rL_cL, false_and, and_false, true_and, and_true, if_true, if_false, not_true_eq_false, not_false_eq_true, reduceCtorEq, zb_bz, bz_t, bz_f, Bool.true_eq_false, Bool.false_eq_true]
          · by_cases z : k = j
            · subst z
              exact ⟨p, w⟩
            · exact c1 k (by omega) h4
          · rw [e2, rI_wI]
            by_cases z : x = 44 ∧ k % 6 = b ∧ j ≤ k / 6 ∧ k / 6 < m
            · rw [if_pos z]
              by_cases z2 : k / 6 = j
              · rw [if_neg (by omega), if_pos (by omega), z2]
              · rw [if_pos (by omega)]
                rfl
            · rw [if_neg z, if_neg (by omega), if_neg (by omega)]
      · have hge : nI 0 ≤ lg_cmp ((nI i).toInt64 + (nI j).toInt64) (nI n).toInt64 := (ge_sum' (by omega) (by omega) (by omega)).mpr (by omega)
        refine ⟨j, g, Nat.le_refl _, h2, ?_, fun k h3 h4 => by omega, fun _ h => p h.1, fun x k => by rw [if_neg (by omega)], rfl⟩
        rw [m_X10_strikes_88]
        simp (disch := omega) only [e38, hge, fa_lit, nI_nm1, nm1_nI, nI_nm1l, Nat.mul_comm _ 6, Nat.mul_comm _ 60, nI_ltI, nI_leI, nI_eq, nI_add, pk_mul, pk_sub, rm_nI, pk_div, nI_clamp, gdd_true, ix_nI, bdd_some, if_pos, if_neg, rI_wI, rI_wL, rL_wI, rL_wL, rI_cI, rI_cL, rL_cI, rL_cL, false_and, and_false, true_and, and_true, if_true, if_false, not_true_eq_false, not_false_eq_true, reduceCtorEq, zb_bz, bz_t, bz_f, Bool.true_eq_false, Bool.false_eq_true]
        exact stop
/-- nothing comes: the row is missing, or the place is not in it -/
theorem strikes_0 {s b N : Nat} {a1 : Int32} {g : Mm} (hN : 1 ≤ N) (hN2 : N ≤ 24) (h : m_X6_hasPlace (nI s) a1 g = some (nI 0, g)) : m_X9_strikes_70 fuL (nI s) a1 (nI b) (nI N) (nI 0) g = some (nI 0, g) := by
  obtain ⟨F, eF, hF⟩ := fu_get
  obtain ⟨fv, rfl⟩ : ∃ fv, F = fv + 1 := ⟨F - 1, by omega⟩
  have e0 : a1 + nI 0 = a1 := Int32.add_zero a1
  rw [eF, m_X9_strikes_70, e0, h]
  simp (disch := omega) only [m_X9_strikes_144, fa_lit, nI_nm1, nm1_nI, nI_nm1l, Nat.mul_comm _ 6, Nat.mul_comm _ 60, nI_ltI, nI_leI, nI_eq, nI_add, pk_mul, pk_sub, rm_nI, pk_div, nI_clamp, gdd_true, ix_nI, bdd_some, if_pos, if_neg, rI_wI, rI_wL, rL_wI, rL_wL, rI_cI, rI_cL, rL_cI, rL_cL, false_and, and_false, true_and, and_true, if_true, if_false, not_true_eq_false, not_false_eq_true, reduceCtorEq, zb_bz, bz_t, bz_f, Bool.true_eq_false, Bool.false_eq_true]
theorem strikes_00 {s b N : Nat} {a1 : Int32} {g : Mm} (hN : 1 ≤ N) (hN2 : N ≤ 24) : m_X10_strikes_88 fuL (nI s) a1 (nI b) (nI N) (nI 0) (nI 0) g = some (nI 0, g) := by
  obtain ⟨F, eF, hF⟩ := fu_get
  obtain ⟨fv, rfl⟩ : ∃ fv, F = fv + 1 := ⟨F - 1, by omega⟩
  rw [eF, m_X10_strikes_88]
  simp (disch := omega) only [m_X10_strikes_190, fa_lit, nI_nm1, nm1_nI, nI_nm1l, Nat.mul_comm _ 6, Nat.mul_comm _ 60, nI_ltI, nI_leI, nI_eq, nI_add, pk_mul, pk_sub, rm_nI, pk_div, nI_clamp, gdd_true, ix_nI, bdd_some, if_pos, if_neg, rI_wI, rI_wL, rL_wI, rL_wL, rI_cI, rI_cL, rL_cI, rL_cL, false_and, and_false, true_and, and_true, if_true, if_false, not_true_eq_false, not_false_eq_true, reduceCtorEq, zb_bz, bz_t, bz_f, Bool.true_eq_false, Bool.false_eq_true]
set_option maxHeartbeats 1000000 in
theorem op_strikes (a0 a1 a2 a3 : Int32) {g : Mm} (hg : gv_ g) : al_ (m_X9_strikes a0 a1 a2 a3) (m_X10_strikes a0 a1 a2 a3) g := by
  have hg0 := hg
  obtain ⟨nb, nh, hd, cd, ck, tl, rt, nn, na, ra, f, hT, hX, hC, hP, hL, hE, hA, hS⟩ := hg
  obtain ⟨⟨b1, b2, b3, b4, b5⟩, ⟨t1, t2, t3, t4, t5, t6⟩, t7, t8, t9, t10⟩ := id hT
  cases hsh : lt_n a0 6 with
  | false =>
    refine al_.same (r := -1) hg0 ?_ ?_
    · simp only [m_X9_strikes, m6_hasShelf, hsh, bdd_some, bz_0, if_true]
    · simp only [m_X10_strikes, m10_isShelf, hsh, bdd_some, bz_0, if_true]
  | true =>
    obtain ⟨s, hs, rfl⟩ := lt_nI hsh (by decide)
    cases hbl : lt_n a2 nb with
    | false =>
      refine al_.same (r := -1) hg0 ?_ ?_
      · simp (disch := omega) only [m_X9_strikes, m6_hasShelf, hsh, m8_hasBell t1 (by omega), hbl, fa_lit, nI_nm1, nm1_nI, nI_nm1l, Nat.mul_comm _ 6, Nat.mul_comm _ 60, nI_ltI, nI_leI, nI_eq, nI_add, pk_mul, pk_sub, rm_nI, pk_div, nI_clamp, gdd_true, ix_nI, bdd_some, if_pos, if_neg, rI_wI, rI_wL, rL_wI, rL_wL, rI_cI, rI_cL, rL_cI, rL_cL, false_and, and_false, true_and, and_true, if_true, if_false, not_true_eq_false, not_false_eq_true, reduceCtorEq, zb_bz, bz_t, bz_f, Bool.true_eq_false, Bool.false_eq_true]
      · simp (disch := omega) only [m_X10_strikes, m10_isShelf, hsh, m10_isBell t4 (by omega), hbl, fa_lit, nI_nm1, nm1_nI, nI_nm1l, Nat.mul_comm _ 6, Nat.mul_comm _ 60, nI_ltI, nI_leI, nI_eq, nI_add, pk_mul, pk_sub, rm_nI, pk_div, nI_clamp, gdd_true, ix_nI, bdd_some, if_pos, if_neg, rI_wI, rI_wL, rL_wI, rL_wL, rI_cI, rI_cL, rL_cI, rL_cL, false_and, and_false, true_and, and_true, if_true, if_false, not_true_eq_false, not_false_eq_true, reduceCtorEq, zb_bz, bz_t, bz_f, Bool.true_eq_false, Bool.false_eq_true]
    | true =>
      obtain ⟨b, hb, rfl⟩ := lt_nI hbl (by omega)
      obtain ⟨⟨M, hM1, hM2, hM⟩, -, -⟩ := t8 b hb
      obtain ⟨s1, -, -⟩ := t7 b (by omega)
      rcases i_cases a3 with h | ⟨N, hN, rfl⟩
      · refine al_.same (r := -1) hg0 ?_ ?_
        · rw [m_X9_strikes, m6_hasShelf, hsh, bdd_some, if_neg (show ¬ bz true = 0 by decide), m8_hasBell t1 (by omega), hbl, bdd_some, if_neg (show ¬ bz true = 0 by decide), if_pos (show a3 < (1 : Int32) from neg_lt (k := 1) h (by decide))]
        · rw [m_X10_strikes, m10_isShelf, hsh, bdd_some, if_neg (show ¬ bz true = 0 by decide), m10_isBell t4 (by omega), hbl, bdd_some, if_neg (show ¬ bz true = 0 by decide), in_neg h (by decide), bdd_some, if_pos (show bz false = 0 from rfl)]
      · by_cases hr : 1 ≤ N ∧ N ≤ nh
        · have hin : ∀ g' : Mm, m_X10_in (nI N).toInt64 1 (nI nh).toInt64 g' = some (bz true, g') := fun g' => by
            rw [in_nI 1 _ 1 nh hN rfl (by rw [t64, nI_toInt (by omega)]), decide_eq_true hr]
          have none_ : (∀ g' : Mm, (∀ c i, rdI g' c i = rdI g c i) → m_X6_hasPlace (nI s) a1 g' = some (nI 0, g')) → (rdI g 36 s = -1 ∧ rdI g 58 s = nI 0 ∨ rdI g 36 s = nI 0 ∧ rdI g 58 s = nI 2 ∧ rdI g 60 s = nI 0) → (rdI g 58 s = nI 2 → a1 < 0 ∨ ∃ i n, i < 2 ^ 31 ∧ n ≤ i ∧ a1 = nI i ∧ rdI g 61 s = nI n) → al_ (m_X9_strikes (nI s) a1 (nI b) (nI N)) (m_X10_strikes (nI s) a1 (nI b) (nI N)) g := by
            intro h1 h2 h3
            have c0 := strikes_0 (b := b) hr.1 (show N ≤ 24 by omega) (h1 g (fun _ _ => rfl))
            refine al_.same (r := nI 0) hg0 ?_ ?_
            · rcases h2 with ⟨h2, -⟩ | ⟨h2, -⟩
              · simp (disch := omega) only [m_X9_strikes, m6_hasShelf, hsh, m8_hasBell t1 (show nb < 2 ^ 31 by omega), hbl, t2, m_X6_isBare, h2, c0, fa_lit, nI_nm1, nm1_nI, nI_nm1l, Nat.mul_comm _ 6, Nat.mul_comm _ 60, nI_ltI, nI_leI, nI_eq, nI_add, pk_mul, pk_sub, rm_nI, pk_div, nI_clamp, gdd_true, ix_nI, bdd_some, if_pos, if_neg, rI_wI, rI_wL, rL_wI, rL_wL, rI_cI, rI_cL, rL_cI, rL_cL, false_and, and_false, true_and, and_true, if_true, if_false, not_true_eq_false, not_false_eq_true, reduceCtorEq, zb_bz, bz_t, bz_f, Bool.true_eq_false, Bool.false_eq_true]
              · simp (disch := omega) only [m_X9_strikes, m6_hasShelf, hsh, m8_hasBell t1 (show nb < 2 ^ 31 by omega), hbl, t2, m_X6_isBare, m_X6_holdsBytes, h2, c0, fa_lit, nI_nm1, nm1_nI, nI_nm1l, Nat.mul_comm _ 6, Nat.mul_comm _ 60, nI_ltI, nI_leI, nI_eq, nI_add, pk_mul, pk_sub, rm_nI, pk_div, nI_clamp, gdd_true, ix_nI, bdd_some, if_pos, if_neg, rI_wI, rI_wL, rL_wI, rL_wL, rI_cI, rI_cL, rL_cI, rL_cL, false_and, and_false, true_and, and_true, if_true, if_false, not_true_eq_false, not_false_eq_true, reduceCtorEq, zb_bz, bz_t, bz_f, Bool.true_eq_false, Bool.false_eq_true]
            · have c1 := strikes_00 (s := s) (b := b) (a1 := a1) (g := g) hr.1 (show N ≤ 24 by omega)
              rcases h2 with ⟨-, h2⟩ | ⟨-, h2, h4⟩
              · rw [m_X10_strikes, m10_isShelf, hsh, bdd_some, if_neg (show ¬ bz true = 0 by decide), m10_isBell t4 (by omega), hbl, bdd_some, if_neg (show ¬ bz true = 0 by decide), t5, hin, bdd_some, if_neg (show ¬ bz true = 0 by decide)]
                simp (disch := omega) only [m_X10_strikes_64, h2, c1, fa_lit, nI_nm1, nm1_nI, nI_nm1l, Nat.mul_comm _ 6, Nat.mul_comm _ 60, nI_ltI, nI_leI, nI_eq, nI_add, pk_mul, pk_sub, rm_nI, pk_div, nI_clamp, gdd_true, ix_nI, bdd_some, if_pos, if_neg, rI_wI, rI_wL, rL_wI, rL_wL, rI_cI, rI_cL, rL_cI, rL_cL, false_and, and_false, true_and, and_true, if_true, if_false, not_true_eq_false, not_false_eq_true, reduceCtorEq, zb_bz, bz_t, bz_f, Bool.true_eq_false, Bool.false_eq_true]
              · rw [m_X10_strikes, m10_isShelf, hsh, bdd_some, if_neg (show ¬ bz true = 0 by decide), m10_isBell t4 (by omega), hbl, bdd_some, if_neg (show ¬ bz true = 0 by decide), t5, hin, bdd_some, if_neg (show ¬ bz true = 0 by decide)]
                rcases h3 h2 with h3 | ⟨i, n, hi, hni, rfl, h61⟩
                · have h3' : a1 < nI 0 := h3
                  simp (disch := omega) only [m_X10_strikes_64, h2, h4, c1, h3', fa_lit, nI_nm1, nm1_nI, nI_nm1l, Nat.mul_comm _ 6, Nat.mul_comm _ 60, nI_ltI, nI_leI, nI_eq, nI_add, pk_mul, pk_sub, rm_nI, pk_div, nI_clamp, gdd_true, ix_nI, bdd_some, if_pos, if_neg, rI_wI, rI_wL, rL_wI, rL_wL, rI_cI, rI_cL, rL_cI, rL_cL, false_and, and_false, true_and, and_true, if_true, if_false, not_true_eq_false, not_false_eq_true, reduceCtorEq, zb_bz, bz_t, bz_f, Bool.true_eq_false, Bool.false_eq_true]
                · simp (disch := omega) only [m_X10_strikes_64, h2, h4, fa_lit, nI_nm1, nm1_nI, nI_nm1l, Nat.mul_comm _ 6, Nat.mul_comm _ 60, nI_ltI, nI_leI, nI_eq, nI_add, pk_mul, pk_sub, rm_nI, pk_div, nI_clamp, gdd_true, ix_nI, bdd_some, if_pos, if_neg, rI_wI, rI_wL, rL_wI, rL_wL, rI_cI, rI_cL, rL_cI, rL_cL, false_and, and_false, true_and, and_true, if_true, if_false, not_true_eq_false, not_false_eq_true, reduceCtorEq, zb_bz, bz_t, bz_f, Bool.true_eq_false, Bool.false_eq_true]
                  obtain ⟨F, eF, hF⟩ := fu_get
                  obtain ⟨fv, rfl⟩ : ∃ fv, F = fv + 2 := ⟨F - 2, by omega⟩
                  have hn31 : n < 2 ^ 31 := by omega
                  have hge : nI 0 ≤ lg_cmp ((nI i).toInt64 + (nI 0).toInt64) (nI n).toInt64 := (ge_sum' hi (by omega) hn31).mpr (by omega)
                  rw [eF, m_X10_strikes_88]
                  simp (disch := omega) only [h61, hge, m_X10_strikes_150, m_X10_strikes_88, m_X10_strikes_190, fa_lit, nI_nm1, nm1_nI, nI_nm1l, Nat.mul_comm _ 6, Nat.mul_comm _ 60, nI_ltI, nI_leI, nI_eq, nI_add, pk_mul, pk_sub, rm_nI, pk_div, nI_clamp, gdd_true, ix_nI, bdd_some, if_pos, if_neg, rI_wI, rI_wL, rL_wI, rL_wL, rI_cI, rI_cL, rL_cI, rL_cL, false_and, and_false, true_and, and_true, if_true, if_false, not_true_eq_false, not_false_eq_true, reduceCtorEq, zb_bz, bz_t, bz_f, Bool.true_eq_false, Bool.false_eq_true]
          rcases hS s hs with ⟨c1, c2, c3⟩ | ⟨t, ht, c1, c2, c3, c4, c5⟩ | ⟨t, n, ht, hn, c1, c2, c3, c4, c5, c6⟩
          · refine none_ (fun g' hg' => ?_) (Or.inl ⟨c1, c2⟩) (fun z => by rw [c2, nI_eq (by omega) (by omega)] at z; omega)
            rcases i_cases a1 with h | ⟨i, hi, rfl⟩
            · rw [m_X6_hasPlace, if_pos (neg_lt0 h)]
              rfl
            · simp (disch := omega) only [m_X6_hasPlace, hg', c3, fa_lit, nI_nm1, nm1_nI, nI_nm1l, Nat.mul_comm _ 6, Nat.mul_comm _ 60, nI_ltI, nI_leI, nI_eq, nI_add, pk_mul, pk_sub, rm_nI, pk_div, nI_clamp, gdd_true, ix_nI, bdd_some, if_pos, if_neg, rI_wI, rI_wL, rL_wI, rL_wL, rI_cI, rI_cL, rL_cI, rL_cL, false_and, and_false, true_and, and_true, if_true, if_false, not_true_eq_false, not_false_eq_true, reduceCtorEq, zb_bz, bz_t, bz_f, Bool.true_eq_false, Bool.false_eq_true]
          · refine al_.same (r := -12) hg0 ?_ ?_
            · simp (disch := omega) only [m_X9_strikes, m6_hasShelf, hsh, m8_hasBell t1 (show nb < 2 ^ 31 by omega), hbl, t2, m_X6_isBare, m_X6_holdsBytes, c1, fa_lit, nI_nm1, nm1_nI, nI_nm1l, Nat.mul_comm _ 6, Nat.mul_comm _ 60, nI_ltI, nI_leI, nI_eq, nI_add, pk_mul, pk_sub, rm_nI, pk_div, nI_clamp, gdd_true, ix_nI, bdd_some, if_pos, if_neg, rI_wI, rI_wL, rL_wI, rL_wL, rI_cI, rI_cL, rL_cI, rL_cL, false_and, and_false, true_and, and_true, if_true, if_false, not_true_eq_false, not_false_eq_true, reduceCtorEq, zb_bz, bz_t, bz_f, Bool.true_eq_false, Bool.false_eq_true]
            · rw [m_X10_strikes, m10_isShelf, hsh, bdd_some, if_neg (show ¬ bz true = 0 by decide), m10_isBell t4 (by omega), hbl, bdd_some, if_neg (show ¬ bz true = 0 by decide), t5, hin, bdd_some, if_neg (show ¬ bz true = 0 by decide)]
              simp (disch := omega) only [c2, fa_lit, nI_nm1, nm1_nI, nI_nm1l, Nat.mul_comm _ 6, Nat.mul_comm _ 60, nI_ltI, nI_leI, nI_eq, nI_add, pk_mul, pk_sub, rm_nI, pk_div, nI_clamp, gdd_true, ix_nI, bdd_some, if_pos, if_neg, rI_wI, rI_wL, rL_wI, rL_wL, rI_cI, rI_cL, rL_cI, rL_cL, false_and, and_false, true_and, and_true, if_true, if_false, not_true_eq_false, not_false_eq_true, reduceCtorEq, zb_bz, bz_t, bz_f, Bool.true_eq_false, Bool.false_eq_true]
          · by_cases ht0 : t = 0
            · subst ht0
              rcases i_cases a1 with h | ⟨i, hi, rfl⟩
              · refine none_ (fun g' hg' => ?_) (Or.inr ⟨c1, c2, c3⟩) (fun _ => Or.inl (neg_lt0 h))
                rw [m_X6_hasPlace, if_pos (neg_lt0 h)]
                rfl
              · by_cases hin2 : n ≤ i
                · refine none_ (fun g' hg' => ?_) (Or.inr ⟨c1, c2, c3⟩) (fun _ => Or.inr ⟨i, n, hi, hin2, rfl, c5⟩)
                  simp (disch := omega) only [m_X6_hasPlace, hg', c4, fa_lit, nI_nm1, nm1_nI, nI_nm1l, Nat.mul_comm _ 6, Nat.mul_comm _ 60, nI_ltI, nI_leI, nI_eq, nI_add, pk_mul, pk_sub, rm_nI, pk_div, nI_clamp, gdd_true, ix_nI, bdd_some, if_pos, if_neg, rI_wI, rI_wL, rL_wI, rL_wL, rI_cI, rI_cL, rL_cI, rL_cL, false_and, and_false, true_and, and_true, if_true, if_false, not_true_eq_false, not_false_eq_true, reduceCtorEq, zb_bz, bz_t, bz_f, Bool.true_eq_false, Bool.false_eq_true]
                · obtain ⟨F, eF, hF⟩ := fu_get
                  obtain ⟨m, gA, m1, m2, p1, p4, p5, p2, p3⟩ := strikes_c hs (show b < 6 by omega) (show N ≤ 24 by omega) hn (show i < 60 by omega) hM2 F 0 g (by omega) (by omega) c4 hM
                  have qc : m_X9_strikes (nI s) (nI i) (nI b) (nI N) g = m_X9_strikes_144 (nI m) gA := by
                    simp (disch := omega) only [m_X9_strikes, m6_hasShelf, hsh, m8_hasBell t1 (show nb < 2 ^ 31 by omega), hbl, t2, m_X6_isBare, m_X6_holdsBytes, c1, eF, fa_lit, nI_nm1, nm1_nI, nI_nm1l, Nat.mul_comm _ 6, Nat.mul_comm _ 60, nI_ltI, nI_leI, nI_eq, nI_add, pk_mul, pk_sub, rm_nI, pk_div, nI_clamp, gdd_true, ix_nI, bdd_some, if_pos, if_neg, rI_wI, rI_wL, rL_wI, rL_wL, rI_cI, rI_cL, rL_cI, rL_cL, false_and, and_false, true_and, and_true, if_true, if_false, not_true_eq_false, not_false_eq_true, reduceCtorEq, zb_bz, bz_t, bz_f, Bool.true_eq_false, Bool.false_eq_true]
                    exact p1
                  have qm : ∀ g1 : Mm, (∀ c j, c ≠ 5 → c ≠ 7 → rdI g1 c j = rdI g c j) → m_X10_strikes (nI s) (nI i) (nI b) (nI N) g1 = m_X10_strikes_88 F (nI s) (nI i) (nI b) (nI N) (nI 0) (nI 1) g1 := by
                    intro g1 h1
                    rw [m_X10_strikes, m10_isShelf, hsh, bdd_some, if_neg (show ¬ bz true = 0 by decide), m10_isBell (g := g1) (by rw [h1 40 4 (by omega) (by omega)]; exact t4) (by omega), hbl, bdd_some, if_neg (show ¬ bz true = 0 by decide), h1 40 5 (by omega) (by omega), t5, hin, bdd_some, if_neg (show ¬ bz true = 0 by decide)]
                    simp (disch := omega) only [m_X10_strikes_64, h1 58 s (by omega) (by omega), h1 60 s (by omega) (by omega), c2, c3, eF, fa_lit, nI_nm1, nm1_nI, nI_nm1l, Nat.mul_comm _ 6, Nat.mul_comm _ 60, nI_ltI, nI_leI, nI_eq, nI_add, pk_mul, pk_sub, rm_nI, pk_div, nI_clamp, gdd_true, ix_nI, bdd_some, if_pos, if_neg, rI_wI, rI_wL, rL_wI, rL_wL, rI_cI, rI_cL, rL_cI, rL_cL, false_and, and_false, true_and, and_true, if_true, if_false, not_true_eq_false, not_false_eq_true, reduceCtorEq, zb_bz, bz_t, bz_f, Bool.true_eq_false, Bool.false_eq_true]
                  by_cases hm0 : m = 0
                  · subst hm0
                    have eA : gA = g := mm_ext (fun x k => by rw [p2, if_neg (by omega)]) p3
                    subst eA
                    obtain ⟨m', gB, m1', m2', o1, o4, o5, o2, o3⟩ := strikes_m hs (show b < 6 by omega) (show N ≤ 24 by omega) hn (show i < 60 by omega) hM2 F 0 gA (by omega) (by omega) c5 (by rw [s1]; exact hM)
                    have hm' : m' = 0 := by
                      by_cases z : m' = 0
                      · exact z
                      · have h4 := o4 0 (by omega) (by omega)
                        refine absurd ⟨h4.1, ?_⟩ (p5 (by omega))
                        rw [← c6 (i + 0) h4.1, ← Nat.add_assoc]
                        exact h4.2
                    subst hm'
                    have eB : gB = gA := mm_ext (fun x k => by rw [o2, if_neg (by omega)]) o3
                    subst eB
                    refine al_.same (r := nI 0) hg0 ?_ ?_
                    · rw [qc]
                      simp (disch := omega) only [m_X9_strikes_144, fa_lit, nI_nm1, nm1_nI, nI_nm1l, Nat.mul_comm _ 6, Nat.mul_comm _ 60, nI_ltI, nI_leI, nI_eq, nI_add, pk_mul, pk_sub, rm_nI, pk_div, nI_clamp, gdd_true, ix_nI, bdd_some, if_pos, if_neg, rI_wI, rI_wL, rL_wI, rL_wL, rI_cI, rI_cL, rL_cI, rL_cL, false_and, and_false, true_and, and_true, if_true, if_false, not_true_eq_false, not_false_eq_true, reduceCtorEq, zb_bz, bz_t, bz_f, Bool.true_eq_false, Bool.false_eq_true]
                    · rw [qm _ (fun _ _ _ _ => rfl), o1]
                      simp (disch := omega) only [m_X10_strikes_190, fa_lit, nI_nm1, nm1_nI, nI_nm1l, Nat.mul_comm _ 6, Nat.mul_comm _ 60, nI_ltI, nI_leI, nI_eq, nI_add, pk_mul, pk_sub, rm_nI, pk_div, nI_clamp, gdd_true, ix_nI, bdd_some, if_pos, if_neg, rI_wI, rI_wL, rL_wI, rL_wL, rI_cI, rI_cL, rL_cI, rL_cL, false_and, and_false, true_and, and_true, if_true, if_false, not_true_eq_false, not_false_eq_true, reduceCtorEq, zb_bz, bz_t, bz_f, Bool.true_eq_false, Bool.false_eq_true]
                  · have kA : ∀ x j, x ≠ 5 → x ≠ 7 → rdI (wrI (wrI gA 7 3 (nI 0)) 7 4 (nI 0)) x j = rdI g x j := fun x j q1 q2 => by
                      rw [rI_wI, if_neg (by omega), rI_wI, if_neg (by omega), p2, if_neg (by omega)]
                    have kL : ∀ x j, rdL (wrI (wrI gA 7 3 (nI 0)) 7 4 (nI 0)) x j = rdL g x j := fun x j => by
                      show gA.2 x j = g.2 x j
                      rw [p3]
                    obtain ⟨m', gB, m1', m2', o1, o4, o5, o2, o3⟩ := strikes_m hs (show b < 6 by omega) (show N ≤ 24 by omega) hn (show i < 60 by omega) hM2 F 0 (wrI (wrI gA 7 3 (nI 0)) 7 4 (nI 0)) (by omega) (by omega) (by rw [kA _ _ (by omega) (by omega)]; exact c5) (by rw [kA _ _ (by omega) (by omega), s1]; exact hM)
                    have hm' : m' = m := by
                      rcases Nat.lt_trichotomy m' m with z | z | z
                      · exfalso
                        have h4 := p4 m' (by omega) z
                        refine o5 (by omega) ⟨h4.1, ?_⟩
                        rw [kL, Nat.add_assoc, c6 (i + m') h4.1]
                        exact h4.2
                      · exact z
                      · exfalso
                        have h4 := o4 m (by omega) z
                        refine p5 (by omega) ⟨h4.1, ?_⟩
                        rw [← c6 (i + m) h4.1, ← Nat.add_assoc, ← kL]
                        exact h4.2
                    subst hm'
                    refine ⟨nI m', wrI (wrI gA 7 3 (nI 0)) 7 4 (nI 0), wrI (wrI gB 40 12 (nI 0)) 40 13 (nI 0), ?_, ?_, ?_⟩
                    · rw [qc]
                      simp (disch := omega) only [m_X9_strikes_144, m_X1_forgetAll, fa_lit, nI_nm1, nm1_nI, nI_nm1l, Nat.mul_comm _ 6, Nat.mul_comm _ 60, nI_ltI, nI_leI, nI_eq, nI_add, pk_mul, pk_sub, rm_nI, pk_div, nI_clamp, gdd_true, ix_nI, bdd_some, if_pos, if_neg, rI_wI, rI_wL, rL_wI, rL_wL, rI_cI, rI_cL, rL_cI, rL_cL, false_and, and_false, true_and, and_true, if_true, if_false, not_true_eq_false, not_false_eq_true, reduceCtorEq, zb_bz, bz_t, bz_f, Bool.true_eq_false, Bool.false_eq_true]
                    · rw [qm _ kA, o1]
                      simp (disch := omega) only [m_X10_strikes_190, m_X10_forgets, fa_lit, nI_nm1, nm1_nI, nI_nm1l, Nat.mul_comm _ 6, Nat.mul_comm _ 60, nI_ltI, nI_leI, nI_eq, nI_add, pk_mul, pk_sub, rm_nI, pk_div, nI_clamp, gdd_true, ix_nI, bdd_some, if_pos, if_neg, rI_wI, rI_wL, rL_wI, rL_wL, rI_cI, rI_cL, rL_cI, rL_cL, false_and, and_false, true_and, and_true, if_true, if_false, not_true_eq_false, not_false_eq_true, reduceCtorEq, zb_bz, bz_t, bz_f, Bool.true_eq_false, Bool.false_eq_true]
                    · refine gv_tabw hT hX hP hL hE hA hS (fun k => decide (k % 6 = b ∧ k / 6 < m')) (fun k => ((rdL g 39 (60 * s + (i + k / 6))).toInt32).toNatClampNeg) (fun k hk => ?_) (fun x k => ?_) ?_
                      · have hk := of_decide_eq_true hk
                        obtain ⟨u, hu, eu⟩ := w_get (p4 (k / 6) (by omega) hk.2).2 hM2
                        refine ⟨by omega, by omega, ?_⟩
                        show ((rdL g 39 (60 * s + (i + k / 6))).toInt32).toNatClampNeg ≤ 15
                        rw [eu, nI_clamp (by omega)]
                        omega
                      · have val : k / 6 < m' → nI ((rdL g 39 (60 * s + (i + k / 6))).toInt32).toNatClampNeg = (rdL g 39 (60 * s + (i + k / 6))).toInt32 := fun hk => by
                          obtain ⟨u, hu, eu⟩ := w_get (p4 (k / 6) (by omega) hk).2 hM2
                          rw [eu, nI_clamp (by omega)]
                        simp only [decide_eq_true_eq]
                        rw [rI_wI, rI_wI, o2]
                        by_cases z1 : x = 44 ∧ k % 6 = b ∧ k / 6 < m'
                        · rw [if_neg (by omega), if_neg (by omega), if_pos (by omega), if_pos (by omega), val z1.2.2, kL, Nat.add_assoc, c6 _ (p4 (k / 6) (by omega) z1.2.2).1]
                        · by_cases z2 : x = 5 ∧ k % 6 = b ∧ k / 6 < m'
                          · rw [if_neg (by omega), if_neg (by omega), if_neg (by omega), if_pos (by omega), val z2.2.2, rI_wI, if_neg (by omega), rI_wI, if_neg (by omega), p2, if_pos (by omega)]
                          · rw [if_neg (show ¬ ((x = 5 ∨ x = 44) ∧ k % 6 = b ∧ k / 6 < m') by omega)]
                            by_cases z3 : x = 40 ∧ (k = 12 ∨ k = 13)
                            · rw [if_pos (Or.inr z3)]
                              by_cases z4 : x = 40 ∧ k = 13
                              · rw [if_pos z4]
                              · rw [if_neg z4, if_pos (by omega)]
                            · rw [if_neg (by omega), if_neg (by omega), if_neg (by omega), rI_wI, rI_wI]
                              by_cases z5 : x = 7 ∧ (k = 3 ∨ k = 4)
                              · rw [if_pos (Or.inl z5)]
                                by_cases z6 : x = 7 ∧ k = 4
                                · rw [if_pos z6]
                                · rw [if_neg z6, if_pos (by omega)]
                              · rw [if_neg (by omega), if_neg (by omega), if_neg (by omega), p2, if_neg (by omega)]
                      · show gB.2 = g.2
                        rw [o3]
                        exact p3
            · refine al_.same (r := -12) hg0 ?_ ?_
              · simp (disch := omega) only [m_X9_strikes, m6_hasShelf, hsh, m8_hasBell t1 (show nb < 2 ^ 31 by omega), hbl, t2, m_X6_isBare, m_X6_holdsBytes, c1, fa_lit, nI_nm1, nm1_nI, nI_nm1l, Nat.mul_comm _ 6, Nat.mul_comm _ 60, nI_ltI, nI_leI, nI_eq, nI_add, pk_mul, pk_sub, rm_nI, pk_div, nI_clamp, gdd_true, ix_nI, bdd_some, if_pos, if_neg, rI_wI, rI_wL, rL_wI, rL_wL, rI_cI, rI_cL, rL_cI, rL_cL, false_and, and_false, true_and, and_true, if_true, if_false, not_true_eq_false, not_false_eq_true, reduceCtorEq, zb_bz, bz_t, bz_f, Bool.true_eq_false, Bool.false_eq_true]
              · rw [m_X10_strikes, m10_isShelf, hsh, bdd_some, if_neg (show ¬ bz true = 0 by decide), m10_isBell t4 (by omega), hbl, bdd_some, if_neg (show ¬ bz true = 0 by decide), t5, hin, bdd_some, if_neg (show ¬ bz true = 0 by decide)]
                simp (disch := omega) only [c2, c3, fa_lit, nI_nm1, nm1_nI, nI_nm1l, Nat.mul_comm _ 6, Nat.mul_comm _ 60, nI_ltI, nI_leI, nI_eq, nI_add, pk_mul, pk_sub, rm_nI, pk_div, nI_clamp, gdd_true, ix_nI, bdd_some, if_pos, if_neg, rI_wI, rI_wL, rL_wI, rL_wL, rI_cI, rI_cL, rL_cI, rL_cL, false_and, and_false, true_and, and_true, if_true, if_false, not_true_eq_false, not_false_eq_true, reduceCtorEq, zb_bz, bz_t, bz_f, Bool.true_eq_false, Bool.false_eq_true]
        · refine al_.same (r := -1) hg0 ?_ ?_
          · by_cases z : N < 1
            · simp (disch := omega) only [m_X9_strikes, m6_hasShelf, hsh, m8_hasBell t1 (show nb < 2 ^ 31 by omega), hbl, t2, fa_lit, nI_nm1, nm1_nI, nI_nm1l, Nat.mul_comm _ 6, Nat.mul_comm _ 60, nI_ltI, nI_leI, nI_eq, nI_add, pk_mul, pk_sub, rm_nI, pk_div, nI_clamp, gdd_true, ix_nI, bdd_some, if_pos, if_neg, rI_wI, rI_wL, rL_wI, rL_wL, rI_cI, rI_cL, rL_cI, rL_cL, false_and, and_false, true_and, and_true, if_true, if_false, not_true_eq_false, not_false_eq_true, reduceCtorEq, zb_bz, bz_t, bz_f, Bool.true_eq_false, Bool.false_eq_true]
            · simp (disch := omega) only [m_X9_strikes, m6_hasShelf, hsh, m8_hasBell t1 (show nb < 2 ^ 31 by omega), hbl, t2, fa_lit, nI_nm1, nm1_nI, nI_nm1l, Nat.mul_comm _ 6, Nat.mul_comm _ 60, nI_ltI, nI_leI, nI_eq, nI_add, pk_mul, pk_sub, rm_nI, pk_div, nI_clamp, gdd_true, ix_nI, bdd_some, if_pos, if_neg, rI_wI, rI_wL, rL_wI, rL_wL, rI_cI, rI_cL, rL_cI, rL_cL, false_and, and_false, true_and, and_true, if_true, if_false, not_true_eq_false, not_false_eq_true, reduceCtorEq, zb_bz, bz_t, bz_f, Bool.true_eq_false, Bool.false_eq_true]
          · rw [m_X10_strikes, m10_isShelf, hsh, bdd_some, if_neg (show ¬ bz true = 0 by decide), m10_isBell t4 (by omega), hbl, bdd_some, if_neg (show ¬ bz true = 0 by decide), t5, in_nI 1 _ 1 nh hN rfl (by rw [t64, nI_toInt (by omega)]), decide_eq_false hr, bdd_some, if_pos (show bz false = 0 from rfl)]
