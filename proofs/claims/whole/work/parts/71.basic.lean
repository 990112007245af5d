/-! small methods of both, by their numbers -/
theorem m10_in (v a b : Int64) (g : Mm) : m_X10_in v a b g = some (bz (decide (a.toInt ≤ v.toInt) && decide (v.toInt ≤ b.toInt)), g) := by
  unfold m_X10_in
  by_cases h1 : v < a
  · rw [if_pos ((cmp_lt v a).mpr h1)]
    rw [Int64.lt_iff_toInt_lt] at h1
    rw [show decide (a.toInt ≤ v.toInt) = false from decide_eq_false (by omega)]
    rfl
  · rw [if_neg (fun q => h1 ((cmp_lt v a).mp q))]
    rw [Int64.lt_iff_toInt_lt] at h1
    by_cases h2 : b < v
    · rw [if_pos ((cmp_gt v b).mpr h2)]
      rw [Int64.lt_iff_toInt_lt] at h2
      rw [show decide (v.toInt ≤ b.toInt) = false from decide_eq_false (by omega), Bool.and_false]
      rfl
    · rw [if_neg (fun q => h2 ((cmp_gt v b).mp q))]
      rw [Int64.lt_iff_toInt_lt] at h2
      rw [show decide (v.toInt ≤ b.toInt) = true from decide_eq_true (by omega), show decide (a.toInt ≤ v.toInt) = true from decide_eq_true (by omega)]
      rfl
theorem zb_bz (b : Bool) : zbI (bz b) = true := by cases b <;> rfl
/-- within the numbers below n -/
def lt_n (x : Int32) (n : Nat) : Bool := decide (0 ≤ x.toInt) && decide (x.toInt < (n : Int))
theorem lt_nI {x : Int32} {n : Nat} (h : lt_n x n = true) (hn : n < 2 ^ 31) : ∃ k, k < n ∧ x = nI k := by
  simp only [lt_n, Bool.and_eq_true, decide_eq_true_eq] at h
  obtain ⟨e, -⟩ := nI_get h.1
  exact ⟨x.toInt.toNat, by omega, e⟩
theorem lt_nf {x : Int32} {n : Nat} (h : lt_n x n = false) : x.toInt < 0 ∨ (n : Int) ≤ x.toInt := by
  simp only [lt_n, Bool.and_eq_false_iff, decide_eq_false_iff_not] at h
  omega
theorem m8_hasBell {nb : Nat} {g : Mm} (h : rdI g 1 0 = nI nb) (hb : nb < 2 ^ 31) (x : Int32) : m_X8_hasBell x g = some (bz (lt_n x nb), g) := by
  unfold m_X8_hasBell lt_n
  rw [h]
  by_cases h1 : x < (0 : Int32)
  · rw [if_pos h1]
    have h1 : x.toInt < 0 := (fa_lt _ _).mp h1
    rw [decide_eq_false (by omega)]
    rfl
  · rw [if_neg h1]
    have h1 : ¬ x.toInt < 0 := fun q => h1 ((fa_lt _ _).mpr q)
    rw [show decide (0 ≤ x.toInt) = true from decide_eq_true (by omega)]
    by_cases h2 : nI nb ≤ x
    · rw [if_pos h2]
      rw [fa_le, nI_toInt hb] at h2
      rw [show decide (x.toInt < (nb : Int)) = false from decide_eq_false (by omega)]
      rfl
    · rw [if_neg h2]
      rw [fa_le, nI_toInt hb] at h2
      rw [show decide (x.toInt < (nb : Int)) = true from decide_eq_true (by omega)]
      rfl
theorem m8_hasHour {nh : Nat} {g : Mm} (h : rdI g 1 1 = nI nh) (hb : nh < 2 ^ 31) (x : Int32) : m_X8_hasHour x g = some (bz (lt_n x nh), g) := by
  unfold m_X8_hasHour lt_n
  rw [h]
  by_cases h1 : x < (0 : Int32)
  · rw [if_pos h1]
    have h1 : x.toInt < 0 := (fa_lt _ _).mp h1
    rw [decide_eq_false (by omega)]
    rfl
  · rw [if_neg h1]
    have h1 : ¬ x.toInt < 0 := fun q => h1 ((fa_lt _ _).mpr q)
    rw [show decide (0 ≤ x.toInt) = true from decide_eq_true (by omega)]
    by_cases h2 : nI nh ≤ x
    · rw [if_pos h2]
      rw [fa_le, nI_toInt hb] at h2
      rw [show decide (x.toInt < (nh : Int)) = false from decide_eq_false (by omega)]
      rfl
    · rw [if_neg h2]
      rw [fa_le, nI_toInt hb] at h2
      rw [show decide (x.toInt < (nh : Int)) = true from decide_eq_true (by omega)]
      rfl
theorem ti_pred {n : Nat} (h : n < 2 ^ 31) : (nI n - (1 : Int32)).toInt = (n : Int) - 1 := by
  have h0 := nI_toInt h
  have h1 : ((1 : Int32)).toInt = 1 := rfl
  rw [ti_sub (by omega) (by omega)]
  omega
theorem m10_isBell {nb : Nat} {g : Mm} (h : rdI g 40 4 = nI nb) (hb : nb < 2 ^ 31) (x : Int32) : m_X10_isBell x g = some (bz (lt_n x nb), g) := by
  unfold m_X10_isBell
  rw [m10_in, bdd_some, zb_bz, gdd_true, h, t64, t64, ti_pred hb]
  have e : (decide ((0 : Int64).toInt ≤ x.toInt) && decide (x.toInt ≤ (nb : Int) - 1)) = lt_n x nb := by
    unfold lt_n
    rw [show (0 : Int64).toInt = 0 from rfl]
    congr 1
    by_cases q : x.toInt < (nb : Int)
    · rw [decide_eq_true q, decide_eq_true (by omega)]
    · rw [decide_eq_false q, decide_eq_false (by omega)]
  rw [e]
theorem m10_isHour {nh : Nat} {g : Mm} (h : rdI g 40 5 = nI nh) (hb : nh < 2 ^ 31) (x : Int32) : m_X10_isHour x g = some (bz (lt_n x nh), g) := by
  unfold m_X10_isHour
  rw [m10_in, bdd_some, zb_bz, gdd_true, h, t64, t64, ti_pred hb]
  have e : (decide ((0 : Int64).toInt ≤ x.toInt) && decide (x.toInt ≤ (nh : Int) - 1)) = lt_n x nh := by
    unfold lt_n
    rw [show (0 : Int64).toInt = 0 from rfl]
    congr 1
    by_cases q : x.toInt < (nh : Int)
    · rw [decide_eq_true q, decide_eq_true (by omega)]
    · rw [decide_eq_false q, decide_eq_false (by omega)]
  rw [e]
