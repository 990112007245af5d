/-! the tower's cells and pairs -/
def cell_ (nb nh : Nat) (x : Int32) : Bool := decide (0 ≤ x.toInt) && (decide (x.toInt.toNat / 10 < nh) && decide (x.toInt.toNat % 10 < nb))
theorem cell_get {nb nh : Nat} {x : Int32} (h : cell_ nb nh x = true) (hb : nb ≤ 6) : ∃ a b, a < nh ∧ b < nb ∧ x = nI (10 * a + b) ∧ 10 * a + b < 2 ^ 31 := by
  simp only [cell_, Bool.and_eq_true, decide_eq_true_eq] at h
  obtain ⟨h1, h2, h3⟩ := h
  obtain ⟨e, e2⟩ := nI_get h1
  refine ⟨x.toInt.toNat / 10, x.toInt.toNat % 10, h2, h3, ?_, by omega⟩
  rw [show 10 * (x.toInt.toNat / 10) + x.toInt.toNat % 10 = x.toInt.toNat by omega]
  exact e
theorem m8_hasCell {nb nh : Nat} {g : Mm} (t1 : rdI g 1 0 = nI nb) (t2 : rdI g 1 1 = nI nh) (hb : nb ≤ 6) (hh : nh ≤ 24) (x : Int32) : m_X8_hasCell x g = some (bz (cell_ nb nh x), g) := by
  rcases i_cases x with h | ⟨k, hk, rfl⟩
  · rw [m_X8_hasCell, if_pos (neg_lt0 h), cell_, decide_eq_false (by omega)]
    rfl
  · rw [cell_, nI_toInt hk, decide_eq_true (by omega), Int.toNat_natCast, Bool.true_and]
    by_cases h1 : k / 10 < nh
    · by_cases h2 : k % 10 < nb
      · simp (disch := omega) only [m_X8_hasCell, m8_hasHour t2 (by omega), m8_hasBell t1 (by omega), lt_n_nI, decide_eq_true, Bool.and_self, fa_lit, nI_nm1, nm1_nI, nI_nm1l, Nat.mul_comm _ 6, Nat.mul_comm _ 60, nI_ltI, nI_leI, nI_eq, nI_add, pk_mul, pk_sub, rm_nI, pk_div, nI_clamp, gdd_true, ix_nI, bdd_some, if_pos, if_neg, rI_wI, rI_wL, rL_wI, rL_wL, rI_cI, rI_cL, rL_cI, rL_cL, false_and, and_false, true_and, and_true, if_true, if_false, not_true_eq_false, not_false_eq_true, reduceCtorEq, zb_bz, bz_t, bz_f, Bool.true_eq_false, Bool.false_eq_true]
      · simp (disch := omega) only [m_X8_hasCell, m8_hasHour t2 (by omega), m8_hasBell t1 (by omega), lt_n_nI, decide_eq_true, decide_eq_false, Bool.and_false, fa_lit, nI_nm1, nm1_nI, nI_nm1l, Nat.mul_comm _ 6, Nat.mul_comm _ 60, nI_ltI, nI_leI, nI_eq, nI_add, pk_mul, pk_sub, rm_nI, pk_div, nI_clamp, gdd_true, ix_nI, bdd_some, if_pos, if_neg, rI_wI, rI_wL, rL_wI, rL_wL, rI_cI, rI_cL, rL_cI, rL_cL, false_and, and_false, true_and, and_true, if_true, if_false, not_true_eq_false, not_false_eq_true, reduceCtorEq, zb_bz, bz_t, bz_f, Bool.true_eq_false, Bool.false_eq_true]
    · simp (disch := omega) only [m_X8_hasCell, m8_hasHour t2 (by omega), lt_n_nI, decide_eq_false, Bool.false_and, fa_lit, nI_nm1, nm1_nI, nI_nm1l, Nat.mul_comm _ 6, Nat.mul_comm _ 60, nI_ltI, nI_leI, nI_eq, nI_add, pk_mul, pk_sub, rm_nI, pk_div, nI_clamp, gdd_true, ix_nI, bdd_some, if_pos, if_neg, rI_wI, rI_wL, rL_wI, rL_wL, rI_cI, rI_cL, rL_cI, rL_cL, false_and, and_false, true_and, and_true, if_true, if_false, not_true_eq_false, not_false_eq_true, reduceCtorEq, zb_bz, bz_t, bz_f, Bool.true_eq_false, Bool.false_eq_true]
theorem m10_isCell {nb nh : Nat} {g : Mm} (t1 : rdI g 40 4 = nI nb) (t2 : rdI g 40 5 = nI nh) (hb : nb ≤ 6) (hh : nh ≤ 24) (x : Int32) : m_X10_isCell x g = some (bz (cell_ nb nh x), g) := by
  rcases i_cases x with h | ⟨k, hk, rfl⟩
  · rw [m_X10_isCell, if_pos (neg_lt0 h), cell_, decide_eq_false (by omega)]
    rfl
  · rw [cell_, nI_toInt hk, decide_eq_true (by omega), Int.toNat_natCast, Bool.true_and]
    by_cases h1 : k / 10 < nh
    · by_cases h2 : k % 10 < nb
      · simp (disch := omega) only [m_X10_isCell, m10_isHour t2 (by omega), m10_isBell t1 (by omega), lt_n_nI, decide_eq_true, Bool.and_self, fa_lit, nI_nm1, nm1_nI, nI_nm1l, Nat.mul_comm _ 6, Nat.mul_comm _ 60, nI_ltI, nI_leI, nI_eq, nI_add, pk_mul, pk_sub, rm_nI, pk_div, nI_clamp, gdd_true, ix_nI, bdd_some, if_pos, if_neg, rI_wI, rI_wL, rL_wI, rL_wL, rI_cI, rI_cL, rL_cI, rL_cL, false_and, and_false, true_and, and_true, if_true, if_false, not_true_eq_false, not_false_eq_true, reduceCtorEq, zb_bz, bz_t, bz_f, Bool.true_eq_false, Bool.false_eq_true]
      · simp (disch := omega) only [m_X10_isCell, m10_isHour t2 (by omega), m10_isBell t1 (by omega), lt_n_nI, decide_eq_true, decide_eq_false, Bool.and_false, fa_lit, nI_nm1, nm1_nI, nI_nm1l, Nat.mul_comm _ 6, Nat.mul_comm _ 60, nI_ltI, nI_leI, nI_eq, nI_add, pk_mul, pk_sub, rm_nI, pk_div, nI_clamp, gdd_true, ix_nI, bdd_some, if_pos, if_neg, rI_wI, rI_wL, rL_wI, rL_wL, rI_cI, rI_cL, rL_cI, rL_cL, false_and, and_false, true_and, and_true, if_true, if_false, not_true_eq_false, not_false_eq_true, reduceCtorEq, zb_bz, bz_t, bz_f, Bool.true_eq_false, Bool.false_eq_true]
    · simp (disch := omega) only [m_X10_isCell, m10_isHour t2 (by omega), lt_n_nI, decide_eq_false, Bool.false_and, fa_lit, nI_nm1, nm1_nI, nI_nm1l, Nat.mul_comm _ 6, Nat.mul_comm _ 60, nI_ltI, nI_leI, nI_eq, nI_add, pk_mul, pk_sub, rm_nI, pk_div, nI_clamp, gdd_true, ix_nI, bdd_some, if_pos, if_neg, rI_wI, rI_wL, rL_wI, rL_wL, rI_cI, rI_cL, rL_cI, rL_cL, false_and, and_false, true_and, and_true, if_true, if_false, not_true_eq_false, not_false_eq_true, reduceCtorEq, zb_bz, bz_t, bz_f, Bool.true_eq_false, Bool.false_eq_true]
def pair_ (nh : Nat) (x : Int32) : Bool := decide (0 ≤ x.toInt) && (decide (x.toInt.toNat / 100 < nh) && (decide (x.toInt.toNat % 100 < nh) && decide (¬ x.toInt.toNat / 100 = x.toInt.toNat % 100)))
theorem pair_get {nh : Nat} {x : Int32} (h : pair_ nh x = true) : ∃ a b, a < nh ∧ b < nh ∧ a ≠ b ∧ x = nI (100 * a + b) ∧ 100 * a + b < 2 ^ 31 ∧ b < 100 := by
  simp only [pair_, Bool.and_eq_true, decide_eq_true_eq] at h
  obtain ⟨h1, h2, h3, h4⟩ := h
  obtain ⟨e, e2⟩ := nI_get h1
  refine ⟨x.toInt.toNat / 100, x.toInt.toNat % 100, h2, h3, h4, ?_, by omega, by omega⟩
  rw [show 100 * (x.toInt.toNat / 100) + x.toInt.toNat % 100 = x.toInt.toNat by omega]
  exact e
theorem m8_hasPair {nh : Nat} {g : Mm} (t2 : rdI g 1 1 = nI nh) (hh : nh ≤ 24) (x : Int32) : m_X8_hasPair x g = some (bz (pair_ nh x), g) := by
  rcases i_cases x with h | ⟨k, hk, rfl⟩
  · rw [m_X8_hasPair, if_pos (neg_lt0 h), pair_, decide_eq_false (by omega)]
    rfl
  · rw [pair_, nI_toInt hk, decide_eq_true (by omega), Int.toNat_natCast, Bool.true_and]
    by_cases h1 : k / 100 < nh
    · by_cases h2 : k % 100 < nh
      · by_cases h3 : k / 100 = k % 100
        · simp (disch := omega) only [m_X8_hasPair, m8_hasHour t2 (by omega), lt_n_nI, decide_eq_true, decide_eq_false, Bool.and_self, Bool.and_false, fa_lit, nI_nm1, nm1_nI, nI_nm1l, Nat.mul_comm _ 6, Nat.mul_comm _ 60, nI_ltI, nI_leI, nI_eq, nI_add, pk_mul, pk_sub, rm_nI, pk_div, nI_clamp, gdd_true, ix_nI, bdd_some, if_pos, if_neg, rI_wI, rI_wL, rL_wI, rL_wL, rI_cI, rI_cL, rL_cI, rL_cL, false_and, and_false, true_and, and_true, if_true, if_false, not_true_eq_false, not_false_eq_true, reduceCtorEq, zb_bz, bz_t, bz_f, Bool.true_eq_false, Bool.false_eq_true]
        · simp (disch := omega) only [m_X8_hasPair, m8_hasHour t2 (by omega), lt_n_nI, decide_eq_true, Bool.and_self, fa_lit, nI_nm1, nm1_nI, nI_nm1l, Nat.mul_comm _ 6, Nat.mul_comm _ 60, nI_ltI, nI_leI, nI_eq, nI_add, pk_mul, pk_sub, rm_nI, pk_div, nI_clamp, gdd_true, ix_nI, bdd_some, if_pos, if_neg, rI_wI, rI_wL, rL_wI, rL_wL, rI_cI, rI_cL, rL_cI, rL_cL, false_and, and_false, true_and, and_true, if_true, if_false, not_true_eq_false, not_false_eq_true, reduceCtorEq, zb_bz, bz_t, bz_f, Bool.true_eq_false, Bool.false_eq_true]
      · simp (disch := omega) only [m_X8_hasPair, m8_hasHour t2 (by omega), lt_n_nI, decide_eq_true, decide_eq_false, Bool.and_false, Bool.false_and, fa_lit, nI_nm1, nm1_nI, nI_nm1l, Nat.mul_comm _ 6, Nat.mul_comm _ 60, nI_ltI, nI_leI, nI_eq, nI_add, pk_mul, pk_sub, rm_nI, pk_div, nI_clamp, gdd_true, ix_nI, bdd_some, if_pos, if_neg, rI_wI, rI_wL, rL_wI, rL_wL, rI_cI, rI_cL, rL_cI, rL_cL, false_and, and_false, true_and, and_true, if_true, if_false, not_true_eq_false, not_false_eq_true, reduceCtorEq, zb_bz, bz_t, bz_f, Bool.true_eq_false, Bool.false_eq_true]
    · simp (disch := omega) only [m_X8_hasPair, m8_hasHour t2 (by omega), lt_n_nI, decide_eq_false, Bool.false_and, fa_lit, nI_nm1, nm1_nI, nI_nm1l, Nat.mul_comm _ 6, Nat.mul_comm _ 60, nI_ltI, nI_leI, nI_eq, nI_add, pk_mul, pk_sub, rm_nI, pk_div, nI_clamp, gdd_true, ix_nI, bdd_some, if_pos, if_neg, rI_wI, rI_wL, rL_wI, rL_wL, rI_cI, rI_cL, rL_cI, rL_cL, false_and, and_false, true_and, and_true, if_true, if_false, not_true_eq_false, not_false_eq_true, reduceCtorEq, zb_bz, bz_t, bz_f, Bool.true_eq_false, Bool.false_eq_true]
theorem m10_isPair {nh : Nat} {g : Mm} (t2 : rdI g 40 5 = nI nh) (hh : nh ≤ 24) (x : Int32) : m_X10_isPair x g = some (bz (pair_ nh x), g) := by
  rcases i_cases x with h | ⟨k, hk, rfl⟩
  · rw [m_X10_isPair, if_pos (neg_lt0 h), pair_, decide_eq_false (by omega)]
    rfl
  · rw [pair_, nI_toInt hk, decide_eq_true (by omega), Int.toNat_natCast, Bool.true_and]
    by_cases h1 : k / 100 < nh
    · by_cases h2 : k % 100 < nh
      · by_cases h3 : k / 100 = k % 100
        · simp (disch := omega) only [m_X10_isPair, m10_isHour t2 (by omega), lt_n_nI, decide_eq_true, decide_eq_false, Bool.and_self, Bool.and_false, fa_lit, nI_nm1, nm1_nI, nI_nm1l, Nat.mul_comm _ 6, Nat.mul_comm _ 60, nI_ltI, nI_leI, nI_eq, nI_add, pk_mul, pk_sub, rm_nI, pk_div, nI_clamp, gdd_true, ix_nI, bdd_some, if_pos, if_neg, rI_wI, rI_wL, rL_wI, rL_wL, rI_cI, rI_cL, rL_cI, rL_cL, false_and, and_false, true_and, and_true, if_true, if_false, not_true_eq_false, not_false_eq_true, reduceCtorEq, zb_bz, bz_t, bz_f, Bool.true_eq_false, Bool.false_eq_true]
        · simp (disch := omega) only [m_X10_isPair, m10_isHour t2 (by omega), lt_n_nI, decide_eq_true, Bool.and_self, fa_lit, nI_nm1, nm1_nI, nI_nm1l, Nat.mul_comm _ 6, Nat.mul_comm _ 60, nI_ltI, nI_leI, nI_eq, nI_add, pk_mul, pk_sub, rm_nI, pk_div, nI_clamp, gdd_true, ix_nI, bdd_some, if_pos, if_neg, rI_wI, rI_wL, rL_wI, rL_wL, rI_cI, rI_cL, rL_cI, rL_cL, false_and, and_false, true_and, and_true, if_true, if_false, not_true_eq_false, not_false_eq_true, reduceCtorEq, zb_bz, bz_t, bz_f, Bool.true_eq_false, Bool.false_eq_true]
      · simp (disch := omega) only [m_X10_isPair, m10_isHour t2 (by omega), lt_n_nI, decide_eq_true, decide_eq_false, Bool.and_false, Bool.false_and, fa_lit, nI_nm1, nm1_nI, nI_nm1l, Nat.mul_comm _ 6, Nat.mul_comm _ 60, nI_ltI, nI_leI, nI_eq, nI_add, pk_mul, pk_sub, rm_nI, pk_div, nI_clamp, gdd_true, ix_nI, bdd_some, if_pos, if_neg, rI_wI, rI_wL, rL_wI, rL_wL, rI_cI, rI_cL, rL_cI, rL_cL, false_and, and_false, true_and, and_true, if_true, if_false, not_true_eq_false, not_false_eq_true, reduceCtorEq, zb_bz, bz_t, bz_f, Bool.true_eq_false, Bool.false_eq_true]
    · simp (disch := omega) only [m_X10_isPair, m10_isHour t2 (by omega), lt_n_nI, decide_eq_false, Bool.false_and, fa_lit, nI_nm1, nm1_nI, nI_nm1l, Nat.mul_comm _ 6, Nat.mul_comm _ 60, nI_ltI, nI_leI, nI_eq, nI_add, pk_mul, pk_sub, rm_nI, pk_div, nI_clamp, gdd_true, ix_nI, bdd_some, if_pos, if_neg, rI_wI, rI_wL, rL_wI, rL_wL, rI_cI, rI_cL, rL_cI, rL_cL, false_and, and_false, true_and, and_true, if_true, if_false, not_true_eq_false, not_false_eq_true, reduceCtorEq, zb_bz, bz_t, bz_f, Bool.true_eq_false, Bool.false_eq_true]
theorem m8_struck {a b : Nat} (ha : a < 24) (hb : b < 6) (g : Mm) : m_X8_struck (nI a) (nI b) g = some (rdI g 5 (6 * a + b), g) := by
  simp (disch := omega) only [m_X8_struck, fa_lit, nI_nm1, nm1_nI, nI_nm1l, Nat.mul_comm _ 6, Nat.mul_comm _ 60, nI_ltI, nI_leI, nI_eq, nI_add, pk_mul, pk_sub, rm_nI, pk_div, nI_clamp, gdd_true, ix_nI, bdd_some, if_pos, if_neg, rI_wI, rI_wL, rL_wI, rL_wL, rI_cI, rI_cL, rL_cI, rL_cL, false_and, and_false, true_and, and_true, if_true, if_false, not_true_eq_false, not_false_eq_true, reduceCtorEq, zb_bz, bz_t, bz_f, Bool.true_eq_false, Bool.false_eq_true]
theorem m8_write {a b : Nat} (ha : a < 24) (hb : b < 6) (v : Int32) (g : Mm) : m_X8_write (nI a) (nI b) v g = some (nI 0, wrI g 5 (6 * a + b) v) := by
  simp (disch := omega) only [m_X8_write, fa_lit, nI_nm1, nm1_nI, nI_nm1l, Nat.mul_comm _ 6, Nat.mul_comm _ 60, nI_ltI, nI_leI, nI_eq, nI_add, pk_mul, pk_sub, rm_nI, pk_div, nI_clamp, gdd_true, ix_nI, bdd_some, if_pos, if_neg, rI_wI, rI_wL, rL_wI, rL_wL, rI_cI, rI_cL, rL_cI, rL_cL, false_and, and_false, true_and, and_true, if_true, if_false, not_true_eq_false, not_false_eq_true, reduceCtorEq, zb_bz, bz_t, bz_f, Bool.true_eq_false, Bool.false_eq_true]
/-! a bit of a row of hours -/
theorem sh_amt : ∀ n, n < 32 → ((nI n &&& 31).toBitVec.smod 32).toNat = n := by decide +kernel
theorem shl_nI {m k : Nat} (hk : k < 32) (h : m * 2 ^ k < 2 ^ 32) : shlI (nI m) (nI k) = nI (m * 2 ^ k) := pk_shlN (nI k &&& 31) k (sh_amt k hk) h
theorem shl_1 {k : Nat} (hk : k < 32) : shlI (1 : Int32) (nI k) = nI (2 ^ k) := by
  have h := shl_nI (m := 1) hk (by rw [Nat.one_mul]; exact Nat.pow_lt_pow_right (by decide) hk)
  rw [Nat.one_mul] at h
  exact h
theorem shr_nI {m k : Nat} (hk : k < 32) (h : m < 2 ^ 31) : shrI (nI m) (nI k) = nI (m / 2 ^ k) := pk_shrN h (nI k &&& 31) k (sh_amt k hk)
theorem and1_nI (m : Nat) (h : m < 2 ^ 31) : nI m &&& (1 : Int32) = nI (m % 2) := pk_andN (by omega) 1 (by decide)
theorem bit_nI {m k : Nat} (hk : k < 32) (h : m < 2 ^ 31) : shrI (nI m) (nI k) &&& (1 : Int32) = bz (m.testBit k) := by
  rw [shr_nI hk h, and1_nI _ (Nat.lt_of_le_of_lt (Nat.div_le_self _ _) h), Nat.testBit_eq_decide_div_mod_eq]
  have h2 : m / 2 ^ k % 2 = 0 ∨ m / 2 ^ k % 2 = 1 := by omega
  rcases h2 with e | e <;> rw [e] <;> rfl
theorem m8_areMixed {nh a b : Nat} {g : Mm} (hX : gv_x nh g) (ha : a < 24) (hb : b < 24) (hn : nh ≤ 24) : m_X8_areMixed (nI a) (nI b) g = some (bz (mx_ g a b), g) := by
  obtain ⟨h1, h2, h3⟩ := hX
  obtain ⟨k, hk, e, -⟩ := h2 a ha
  have hk31 : k < 2 ^ 31 := Nat.lt_of_lt_of_le hk (Nat.pow_le_pow_right (by decide) (by omega))
  have em : mx_ g a b = k.testBit b := by rw [mx_, e, nI_clamp hk31]
  rw [m_X8_areMixed, ix_nI ha (by omega), gdd_true, nI_clamp (by omega), e, bit_nI (by omega) hk31, em]
  cases k.testBit b <;> rfl
theorem op_of (a0 a1 : Int32) {g : Mm} (hg : gv_ g) : al_ (m_X9_of a0 a1) (m_X10_of a0 a1) g := by
  have hg0 := hg
  obtain ⟨nb, nh, hd, cd, ck, tl, rt, nn, na, ra, f, hT, hX, hC, hP, hL, hE, hA, hS⟩ := hg
  obtain ⟨⟨b1, b2, b3, b4, b5⟩, ⟨t1, t2, t3, t4, t5, t6⟩, t7, t8, t9, t10⟩ := id hT
  have hcell : ∀ a b : Nat, a < nh → b < nb → rdI g 44 (6 * a + b) = rdI g 5 (6 * a + b) := fun a b ha hb => (t9 _ (by omega)).1
  rcases i_cases a1 with h | ⟨k, hk, rfl⟩
  · refine al_.same (r := -1) hg0 ?_ ?_
    · have hn : ∀ n : Nat, n < 2 ^ 31 → ¬ a1 = nI n := fun n hn q => by rw [q, nI_toInt hn] at h; omega
      simp (disch := omega) only [m_X9_of, fa_lit, hn, if_false]
    · have hn : ∀ n : Nat, n < 2 ^ 31 → ¬ a1 = nI n := fun n hn q => by rw [q, nI_toInt hn] at h; omega
      rw [m_X10_of, if_neg (show ¬ a1 = 10 from hn 10 (by decide)), if_neg (show ¬ a1 = 20 from hn 20 (by decide)), in_neg h (show 0 ≤ (0 : Int64).toInt by decide), bdd_some, if_pos (show bz false = 0 from rfl)]
  · by_cases k2 : k ≤ 2
    · cases hbl : lt_n a0 nb with
      | false =>
        refine al_.same (r := -1) hg0 ?_ ?_
        · rcases (by omega : k = 0 ∨ k = 1 ∨ k = 2) with rfl | rfl | rfl <;> simp (disch := omega) only [m_X9_of, m8_hasBell t1 (by omega), hbl, fa_lit, nI_nm1, nm1_nI, nI_nm1l, Nat.mul_comm _ 6, Nat.mul_comm _ 60, nI_ltI, nI_leI, nI_eq, nI_add, pk_mul, pk_sub, rm_nI, pk_div, nI_clamp, gdd_true, ix_nI, bdd_some, if_pos, if_neg, rI_wI, rI_wL, rL_wI, rL_wL, rI_cI, rI_cL, rL_cI, rL_cL, false_and, and_false, true_and, and_true, if_true, if_false, not_true_eq_false, not_false_eq_true, reduceCtorEq, zb_bz, bz_t, bz_f, Bool.true_eq_false, Bool.false_eq_true]
        · simp (disch := omega) only [m_X10_of, in_nI 0 2 0 2 hk rfl rfl, m10_isBell t4 (by omega), hbl, decide_eq_true, fa_lit, nI_nm1, nm1_nI, nI_nm1l, Nat.mul_comm _ 6, Nat.mul_comm _ 60, nI_ltI, nI_leI, nI_eq, nI_add, pk_mul, pk_sub, rm_nI, pk_div, nI_clamp, gdd_true, ix_nI, bdd_some, if_pos, if_neg, rI_wI, rI_wL, rL_wI, rL_wL, rI_cI, rI_cL, rL_cI, rL_cL, false_and, and_false, true_and, and_true, if_true, if_false, not_true_eq_false, not_false_eq_true, reduceCtorEq, zb_bz, bz_t, bz_f, Bool.true_eq_false, Bool.false_eq_true]
      | true =>
        obtain ⟨b, hb, rfl⟩ := lt_nI hbl (by omega)
        obtain ⟨s1, s2, s3⟩ := t7 b (by omega)
        rcases (by omega : k = 0 ∨ k = 1 ∨ k = 2) with rfl | rfl | rfl
        · refine al_.same (r := rdI g 2 b) hg0 ?_ ?_
          · simp (disch := omega) only [m_X9_of, m8_hasBell t1 (by omega), hbl, fa_lit, nI_nm1, nm1_nI, nI_nm1l, Nat.mul_comm _ 6, Nat.mul_comm _ 60, nI_ltI, nI_leI, nI_eq, nI_add, pk_mul, pk_sub, rm_nI, pk_div, nI_clamp, gdd_true, ix_nI, bdd_some, if_pos, if_neg, rI_wI, rI_wL, rL_wI, rL_wL, rI_cI, rI_cL, rL_cI, rL_cL, false_and, and_false, true_and, and_true, if_true, if_false, not_true_eq_false, not_false_eq_true, reduceCtorEq, zb_bz, bz_t, bz_f, Bool.true_eq_false, Bool.false_eq_true]
          · simp (disch := omega) only [m_X10_of, in_nI 0 2 0 2 hk rfl rfl, m10_isBell t4 (by omega), hbl, decide_eq_true, s1, fa_lit, nI_nm1, nm1_nI, nI_nm1l, Nat.mul_comm _ 6, Nat.mul_comm _ 60, nI_ltI, nI_leI, nI_eq, nI_add, pk_mul, pk_sub, rm_nI, pk_div, nI_clamp, gdd_true, ix_nI, bdd_some, if_pos, if_neg, rI_wI, rI_wL, rL_wI, rL_wL, rI_cI, rI_cL, rL_cI, rL_cL, false_and, and_false, true_and, and_true, if_true, if_false, not_true_eq_false, not_false_eq_true, reduceCtorEq, zb_bz, bz_t, bz_f, Bool.true_eq_false, Bool.false_eq_true]
        · refine al_.same (r := rdI g 3 b) hg0 ?_ ?_
          · simp (disch := omega) only [m_X9_of, m8_hasBell t1 (by omega), hbl, fa_lit, nI_nm1, nm1_nI, nI_nm1l, Nat.mul_comm _ 6, Nat.mul_comm _ 60, nI_ltI, nI_leI, nI_eq, nI_add, pk_mul, pk_sub, rm_nI, pk_div, nI_clamp, gdd_true, ix_nI, bdd_some, if_pos, if_neg, rI_wI, rI_wL, rL_wI, rL_wL, rI_cI, rI_cL, rL_cI, rL_cL, false_and, and_false, true_and, and_true, if_true, if_false, not_true_eq_false, not_false_eq_true, reduceCtorEq, zb_bz, bz_t, bz_f, Bool.true_eq_false, Bool.false_eq_true]
          · simp (disch := omega) only [m_X10_of, in_nI 0 2 0 2 hk rfl rfl, m10_isBell t4 (by omega), hbl, decide_eq_true, s2, fa_lit, nI_nm1, nm1_nI, nI_nm1l, Nat.mul_comm _ 6, Nat.mul_comm _ 60, nI_ltI, nI_leI, nI_eq, nI_add, pk_mul, pk_sub, rm_nI, pk_div, nI_clamp, gdd_true, ix_nI, bdd_some, if_pos, if_neg, rI_wI, rI_wL, rL_wI, rL_wL, rI_cI, rI_cL, rL_cI, rL_cL, false_and, and_false, true_and, and_true, if_true, if_false, not_true_eq_false, not_false_eq_true, reduceCtorEq, zb_bz, bz_t, bz_f, Bool.true_eq_false, Bool.false_eq_true]
        · refine al_.same (r := rdI g 4 b) hg0 ?_ ?_
          · simp (disch := omega) only [m_X9_of, m8_hasBell t1 (by omega), hbl, fa_lit, nI_nm1, nm1_nI, nI_nm1l, Nat.mul_comm _ 6, Nat.mul_comm _ 60, nI_ltI, nI_leI, nI_eq, nI_add, pk_mul, pk_sub, rm_nI, pk_div, nI_clamp, gdd_true, ix_nI, bdd_some, if_pos, if_neg, rI_wI, rI_wL, rL_wI, rL_wL, rI_cI, rI_cL, rL_cI, rL_cL, false_and, and_false, true_and, and_true, if_true, if_false, not_true_eq_false, not_false_eq_true, reduceCtorEq, zb_bz, bz_t, bz_f, Bool.true_eq_false, Bool.false_eq_true]
          · simp (disch := omega) only [m_X10_of, in_nI 0 2 0 2 hk rfl rfl, m10_isBell t4 (by omega), hbl, decide_eq_true, s3, fa_lit, nI_nm1, nm1_nI, nI_nm1l, Nat.mul_comm _ 6, Nat.mul_comm _ 60, nI_ltI, nI_leI, nI_eq, nI_add, pk_mul, pk_sub, rm_nI, pk_div, nI_clamp, gdd_true, ix_nI, bdd_some, if_pos, if_neg, rI_wI, rI_wL, rL_wI, rL_wL, rI_cI, rI_cL, rL_cI, rL_cL, false_and, and_false, true_and, and_true, if_true, if_false, not_true_eq_false, not_false_eq_true, reduceCtorEq, zb_bz, bz_t, bz_f, Bool.true_eq_false, Bool.false_eq_true]
    · by_cases k10 : k = 10
      · subst k10
        cases hcl : cell_ nb nh a0 with
        | false =>
          refine al_.same (r := -1) hg0 ?_ ?_
          · simp (disch := omega) only [m_X9_of, m8_hasCell t1 t2 b1 b3, hcl, fa_lit, nI_nm1, nm1_nI, nI_nm1l, Nat.mul_comm _ 6, Nat.mul_comm _ 60, nI_ltI, nI_leI, nI_eq, nI_add, pk_mul, pk_sub, rm_nI, pk_div, nI_clamp, gdd_true, ix_nI, bdd_some, if_pos, if_neg, rI_wI, rI_wL, rL_wI, rL_wL, rI_cI, rI_cL, rL_cI, rL_cL, false_and, and_false, true_and, and_true, if_true, if_false, not_true_eq_false, not_false_eq_true, reduceCtorEq, zb_bz, bz_t, bz_f, Bool.true_eq_false, Bool.false_eq_true]
          · simp (disch := omega) only [m_X10_of, m10_isCell t4 t5 b1 b3, hcl, fa_lit, nI_nm1, nm1_nI, nI_nm1l, Nat.mul_comm _ 6, Nat.mul_comm _ 60, nI_ltI, nI_leI, nI_eq, nI_add, pk_mul, pk_sub, rm_nI, pk_div, nI_clamp, gdd_true, ix_nI, bdd_some, if_pos, if_neg, rI_wI, rI_wL, rL_wI, rL_wL, rI_cI, rI_cL, rL_cI, rL_cL, false_and, and_false, true_and, and_true, if_true, if_false, not_true_eq_false, not_false_eq_true, reduceCtorEq, zb_bz, bz_t, bz_f, Bool.true_eq_false, Bool.false_eq_true]
        | true =>
          obtain ⟨a, b, ha, hb, rfl, hlt⟩ := cell_get hcl b1
          have d1 : (10 * a + b) / 10 = a := by omega
          have d2 : (10 * a + b) % 10 = b := by omega
          refine al_.same (r := rdI g 5 (6 * a + b)) hg0 ?_ ?_
          · simp (disch := omega) only [m_X9_of, m8_hasCell t1 t2 b1 b3, hcl, m8_struck, d1, d2, fa_lit, nI_nm1, nm1_nI, nI_nm1l, Nat.mul_comm _ 6, Nat.mul_comm _ 60, nI_ltI, nI_leI, nI_eq, nI_add, pk_mul, pk_sub, rm_nI, pk_div, nI_clamp, gdd_true, ix_nI, bdd_some, if_pos, if_neg, rI_wI, rI_wL, rL_wI, rL_wL, rI_cI, rI_cL, rL_cI, rL_cL, false_and, and_false, true_and, and_true, if_true, if_false, not_true_eq_false, not_false_eq_true, reduceCtorEq, zb_bz, bz_t, bz_f, Bool.true_eq_false, Bool.false_eq_true]
          · simp (disch := omega) only [m_X10_of, m10_isCell t4 t5 b1 b3, hcl, d1, d2, hcell a b ha hb, fa_lit, nI_nm1, nm1_nI, nI_nm1l, Nat.mul_comm _ 6, Nat.mul_comm _ 60, nI_ltI, nI_leI, nI_eq, nI_add, pk_mul, pk_sub, rm_nI, pk_div, nI_clamp, gdd_true, ix_nI, bdd_some, if_pos, if_neg, rI_wI, rI_wL, rL_wI, rL_wL, rI_cI, rI_cL, rL_cI, rL_cL, false_and, and_false, true_and, and_true, if_true, if_false, not_true_eq_false, not_false_eq_true, reduceCtorEq, zb_bz, bz_t, bz_f, Bool.true_eq_false, Bool.false_eq_true]
      · by_cases k20 : k = 20
        · subst k20
          cases hcl : pair_ nh a0 with
          | false =>
            refine al_.same (r := -1) hg0 ?_ ?_
            · simp (disch := omega) only [m_X9_of, m8_hasPair t2 b3, hcl, fa_lit, nI_nm1, nm1_nI, nI_nm1l, Nat.mul_comm _ 6, Nat.mul_comm _ 60, nI_ltI, nI_leI, nI_eq, nI_add, pk_mul, pk_sub, rm_nI, pk_div, nI_clamp, gdd_true, ix_nI, bdd_some, if_pos, if_neg, rI_wI, rI_wL, rL_wI, rL_wL, rI_cI, rI_cL, rL_cI, rL_cL, false_and, and_false, true_and, and_true, if_true, if_false, not_true_eq_false, not_false_eq_true, reduceCtorEq, zb_bz, bz_t, bz_f, Bool.true_eq_false, Bool.false_eq_true]
            · simp (disch := omega) only [m_X10_of, m10_isPair t5 b3, hcl, fa_lit, nI_nm1, nm1_nI, nI_nm1l, Nat.mul_comm _ 6, Nat.mul_comm _ 60, nI_ltI, nI_leI, nI_eq, nI_add, pk_mul, pk_sub, rm_nI, pk_div, nI_clamp, gdd_true, ix_nI, bdd_some, if_pos, if_neg, rI_wI, rI_wL, rL_wI, rL_wL, rI_cI, rI_cL, rL_cI, rL_cL, false_and, and_false, true_and, and_true, if_true, if_false, not_true_eq_false, not_false_eq_true, reduceCtorEq, zb_bz, bz_t, bz_f, Bool.true_eq_false, Bool.false_eq_true]
          | true =>
            obtain ⟨a, b, ha, hb, hne, rfl, hlt, hb100⟩ := pair_get hcl
            have d1 : (100 * a + b) / 100 = a := by omega
            have d2 : (100 * a + b) % 100 = b := by omega
            obtain ⟨x1, x2, x3⟩ := id hX
            obtain ⟨m, hm, em, -⟩ := x2 a (by omega)
            have hm31 : m < 2 ^ 31 := Nat.lt_of_lt_of_le hm (Nat.pow_le_pow_right (by decide) (by omega))
            have emx : mx_ g a b = m.testBit b := by rw [mx_, em, nI_clamp hm31]
            refine al_.same (r := bz (mx_ g a b)) hg0 ?_ ?_
            · simp (disch := omega) only [m_X9_of, m8_hasPair t2 b3, hcl, m8_areMixed hX, d1, d2, fa_lit, nI_nm1, nm1_nI, nI_nm1l, Nat.mul_comm _ 6, Nat.mul_comm _ 60, nI_ltI, nI_leI, nI_eq, nI_add, pk_mul, pk_sub, rm_nI, pk_div, nI_clamp, gdd_true, ix_nI, bdd_some, if_pos, if_neg, rI_wI, rI_wL, rL_wI, rL_wL, rI_cI, rI_cL, rL_cI, rL_cL, false_and, and_false, true_and, and_true, if_true, if_false, not_true_eq_false, not_false_eq_true, reduceCtorEq, zb_bz, bz_t, bz_f, Bool.true_eq_false, Bool.false_eq_true]
              cases mx_ g a b <;> rfl
            · simp (disch := omega) only [m_X10_of, m10_isPair t5 b3, hcl, d1, d2, x1 a, em, fa_lit, nI_nm1, nm1_nI, nI_nm1l, Nat.mul_comm _ 6, Nat.mul_comm _ 60, nI_ltI, nI_leI, nI_eq, nI_add, pk_mul, pk_sub, rm_nI, pk_div, nI_clamp, gdd_true, ix_nI, bdd_some, if_pos, if_neg, rI_wI, rI_wL, rL_wI, rL_wL, rI_cI, rI_cL, rL_cI, rL_cL, false_and, and_false, true_and, and_true, if_true, if_false, not_true_eq_false, not_false_eq_true, reduceCtorEq, zb_bz, bz_t, bz_f, Bool.true_eq_false, Bool.false_eq_true]
              rw [emx]
              congr 2
              exact bit_nI (by omega) hm31
        · refine al_.same (r := -1) hg0 ?_ ?_
          · simp (disch := omega) only [m_X9_of, fa_lit, nI_nm1, nm1_nI, nI_nm1l, Nat.mul_comm _ 6, Nat.mul_comm _ 60, nI_ltI, nI_leI, nI_eq, nI_add, pk_mul, pk_sub, rm_nI, pk_div, nI_clamp, gdd_true, ix_nI, bdd_some, if_pos, if_neg, rI_wI, rI_wL, rL_wI, rL_wL, rI_cI, rI_cL, rL_cI, rL_cL, false_and, and_false, true_and, and_true, if_true, if_false, not_true_eq_false, not_false_eq_true, reduceCtorEq, zb_bz, bz_t, bz_f, Bool.true_eq_false, Bool.false_eq_true]
          · simp (disch := omega) only [m_X10_of, in_nI 0 2 0 2 hk rfl rfl, decide_eq_false, fa_lit, nI_nm1, nm1_nI, nI_nm1l, Nat.mul_comm _ 6, Nat.mul_comm _ 60, nI_ltI, nI_leI, nI_eq, nI_add, pk_mul, pk_sub, rm_nI, pk_div, nI_clamp, gdd_true, ix_nI, bdd_some, if_pos, if_neg, rI_wI, rI_wL, rL_wI, rL_wL, rI_cI, rI_cL, rL_cI, rL_cL, false_and, and_false, true_and, and_true, if_true, if_false, not_true_eq_false, not_false_eq_true, reduceCtorEq, zb_bz, bz_t, bz_f, Bool.true_eq_false, Bool.false_eq_true]
