/-! taken -/
/-- is kind K one of kind k, or under it: by so many steps -/
def und : Nat → Nat → Nat → Bool
  | 0, _, _ => false
  | j + 1, K, k => if K = k then true else und j (pa K) k
theorem under_c {k : Nat} {g : Mm} (hk : k < 8) : ∀ (j fu i K : Nat), K < 8 → j + i = 8 → 8 < i + fu → m_X0_isUnder_5 fu (nI k) (nI K) (nI i) g = some (bz (und j K k), g) := by
  intro j
  induction j with
  | zero =>
    intro fu i K hK h1 h2
    obtain ⟨fv, rfl⟩ : ∃ fv, fu = fv + 1 := ⟨fu - 1, by omega⟩
    rw [m_X0_isUnder_5, if_pos (show (8 : Int32) ≤ nI i from (nI_leI (a := 8) (b := i) (by omega) (by omega)).mpr (by omega))]
    rfl
  | succ j ih =>
    intro fu i K hK h1 h2
    obtain ⟨fv, rfl⟩ : ∃ fv, fu = fv + 1 := ⟨fu - 1, by omega⟩
    obtain ⟨e2, h8⟩ := pa_ok K hK
    rw [m_X0_isUnder_5, if_neg (show ¬ (8 : Int32) ≤ nI i from fun y => by have := (nI_leI (a := 8) (b := i) (by omega) (by omega)).mp y; omega), und]
    by_cases z : K = k
    · rw [if_pos (by rw [z]), if_pos z]
      rfl
    · rw [if_neg (fun y => z ((nI_eq (by omega) (by omega)).mp y)), if_neg z, ix_nI hK (by omega), gdd_true, nI_clamp (by omega), e2, nI_1]
      exact ih fv (i + 1) (pa K) h8 (by omega) (by omega)
theorem und_0 : ∀ j k, k < 8 → und (j + 1) 0 k = decide (k = 0) := by
  intro j
  induction j with
  | zero => decide +kernel
  | succ j ih =>
    intro k hk
    rw [und]
    by_cases z : 0 = k
    · rw [if_pos z, decide_eq_true z.symm]
    · rw [if_neg z, show pa 0 = 0 by decide +kernel]
      exact ih k hk
def um (K k : Nat) : Bool := und 8 K k
theorem um_ok : ∀ K, K < 8 → ∀ k, k < 8 → um K k = (decide (K = k) || (if K = 0 then false else um (ab K) k)) := by decide +kernel
theorem taken_m {s t K0 k b : Nat} {g : Mm} (hs : s < 6) (hk : k < 8) (hb : b < 50) (e59 : rdI g 59 s = nI b) (e56 : rdI g 56 b = nI K0) : ∀ (fu K : Nat), K < 8 → 12 < fu + K + t → m_X10_taken_60 (fu + 20) (nI s) (nI k) (nI K) g = some (if um K k = true then nI K0 else -12, g) := by
  have t78 : m_X10_taken_78 (nI s) (nI k) (nI k) g = some (nI K0, g) := by
    rw [m_X10_taken_78, if_pos rfl, ix_nI hs (by omega), gdd_true, nI_clamp (by omega), e59, ix_nI hb (by omega), gdd_true, nI_clamp (by omega), e56]
  have tm1 : m_X10_taken_78 (nI s) (nI k) (-1) g = some (-12, g) := by
    rw [m_X10_taken_78, if_neg (show ¬ (-1 : Int32) = nI k from fun y => (nm1_nI (k := k) (by omega)).mp y)]
  have nm : ∀ K : Nat, K < 8 → ¬ nI K = (-1 : Int32) := fun K hK y => (nI_nm1 (k := K) (by omega)).mp y
  -- one step
  have hit : ∀ n, m_X10_taken_60 (n + 1) (nI s) (nI k) (nI k) g = some (nI K0, g) := fun n => by
    rw [m_X10_taken_60, if_neg (nm k hk), if_pos rfl, t78]
  have up : ∀ n K, K < 8 → K ≠ k → K ≠ 0 → m_X10_taken_60 (n + 1) (nI s) (nI k) (nI K) g = m_X10_taken_60 n (nI s) (nI k) (nI (ab K)) g := fun n K hK h1 h0 => by
    rw [m_X10_taken_60, if_neg (nm K hK), if_neg (fun y => h1 ((nI_eq (by omega) (by omega)).mp y)), ab_m hK h0, bdd_some]
  have bot : ∀ n, k ≠ 0 → m_X10_taken_60 (n + 2) (nI s) (nI k) (nI 0) g = some (-12, g) := fun n h0 => by
    rw [m_X10_taken_60, if_neg (nm 0 (by omega)), if_neg (fun y => h0 ((nI_eq (by omega) (by omega)).mp y).symm), show m_X10_above (nI 0) g = some (-1, g) from rfl, bdd_some, m_X10_taken_60, if_pos rfl, tm1]
  have k0 : ∀ n, m_X10_taken_60 (n + 2) (nI s) (nI k) (nI 0) g = some (if um 0 k = true then nI K0 else -12, g) := fun n => by
    by_cases z : k = 0
    · subst z
      rw [hit, show um 0 0 = true by decide +kernel]
      rfl
    · rw [bot n z, show um 0 k = false by rw [um, und_0 7 k hk]; exact decide_eq_false z]
      rfl
  have step : ∀ n K, K < 8 → K ≠ 0 → m_X10_taken_60 n (nI s) (nI k) (nI (ab K)) g = some (if um (ab K) k = true then nI K0 else -12, g) → m_X10_taken_60 (n + 1) (nI s) (nI k) (nI K) g = some (if um K k = true then nI K0 else -12, g) := fun n K hK h0 h => by
    rw [um_ok K hK k hk, if_neg h0]
    by_cases z : K = k
    · subst z
      rw [hit, decide_eq_true rfl]
      rfl
    · rw [up n K hK z h0, h, decide_eq_false z, Bool.false_or]
  intro fu K hK hf
  rcases (by omega : K = 0 ∨ K = 1 ∨ K = 2 ∨ K = 3 ∨ K = 4 ∨ K = 5 ∨ K = 6 ∨ K = 7) with rfl | rfl | rfl | rfl | rfl | rfl | rfl | rfl
  · exact k0 _
  · exact step _ 1 hK (by decide) (k0 _)
  · exact step _ 2 hK (by decide) (k0 _)
  · exact step _ 3 hK (by decide) (step _ 2 (by decide) (by decide) (k0 _))
  · exact step _ 4 hK (by decide) (k0 _)
  · exact step _ 5 hK (by decide) (step _ 1 (by decide) (by decide) (k0 _))
  · exact step _ 6 hK (by decide) (k0 _)
  · exact step _ 7 hK (by decide) (step _ 3 (by decide) (by decide) (step _ 2 (by decide) (by decide) (k0 _)))
theorem op_taken (a0 a1 : Int32) {g : Mm} (hg : gv_ g) : al_ (m_X9_taken a0 a1) (m_X10_taken a0 a1) g := by
  have hg0 := hg
  obtain ⟨nb, nh, hd, cd, ck, tl, rt, nn, na, ra, f, hT, hX, hC, hP, hL, hE, hA, hS⟩ := hg
  obtain ⟨⟨hna, hra⟩, ⟨e1, e2, e3, e4⟩, e5, e6⟩ := id hA
  cases hsh : lt_n a0 6 with
  | false =>
    refine al_.same (r := -1) hg0 ?_ ?_
    · simp only [m_X9_taken, m6_hasShelf, hsh, bdd_some, bz_0, if_true]
    · simp only [m_X10_taken, m10_isShelf, hsh, bdd_some, bz_0, if_true]
  | true =>
    obtain ⟨s, hs, rfl⟩ := lt_nI hsh (by decide)
    rcases i_cases a1 with h | ⟨k, hk, rfl⟩
    · refine al_.same (r := -1) hg0 ?_ ?_
      · rw [m_X9_taken, m6_hasShelf, hsh, bdd_some, if_neg (show ¬ bz true = 0 by decide), if_pos (neg_lt0 h)]
      · rw [m_X10_taken, m10_isShelf, hsh, bdd_some, if_neg (show ¬ bz true = 0 by decide), in_neg h (by decide), bdd_some, if_pos (show bz false = 0 from rfl)]
    · by_cases h8 : k < 8
      · have hin : m_X10_in (nI k).toInt64 0 7 g = some (bz true, g) := by rw [in_nI 0 7 0 7 hk rfl rfl, decide_eq_true (by omega)]
        rcases hS s hs with ⟨c1, c2, c3⟩ | ⟨b, hb, c1, c2, c3, c4, c5⟩ | ⟨t, n, ht, hn, c1, c2, c3, c4, c5, c6⟩
        · refine al_.same (r := -11) hg0 ?_ ?_
          · simp (disch := omega) only [m_X9_taken, m6_hasShelf, hsh, m_X6_isBare, c1, fa_lit, nI_nm1, nm1_nI, nI_nm1l, Nat.mul_comm _ 6, Nat.mul_comm _ 60, nI_ltI, nI_leI, nI_eq, nI_add, pk_mul, pk_sub, rm_nI, pk_div, nI_clamp, gdd_true, ix_nI, bdd_some, if_pos, if_neg, rI_wI, rI_wL, rL_wI, rL_wL, rI_cI, rI_cL, rL_cI, rL_cL, false_and, and_false, true_and, and_true, if_true, if_false, not_true_eq_false, not_false_eq_true, reduceCtorEq, zb_bz, bz_t, bz_f, Bool.true_eq_false, Bool.false_eq_true]
          · rw [m_X10_taken, m10_isShelf, hsh, bdd_some, if_neg (show ¬ bz true = 0 by decide), hin, bdd_some, if_neg (show ¬ bz true = 0 by decide), ix_nI hs (by omega), gdd_true, nI_clamp (by omega), c2, if_neg (show ¬ nI 0 = (1 : Int32) by decide), gdd_true, if_pos (show nI 0 = (0 : Int32) from rfl)]
        · obtain ⟨k1, K0, hK0, k2⟩ := e5 b hb
          obtain ⟨F, eF, hF⟩ := fu_get
          obtain ⟨fv, rfl⟩ : ∃ fv, F = fv + 20 := ⟨F - 20, by omega⟩
          have hu : m_X0_isUnder (nI K0) (nI k) g = some (bz (um K0 k), g) := by
            rw [m_X0_isUnder, eF]
            exact under_c h8 8 (fv + 20) 0 K0 hK0 (by omega) (by omega)
          have hko : m_X0_kindOf (nI b) g = some (nI K0, g) := by
            rw [m_X0_kindOf, if_neg (show ¬ nI b < (0 : Int32) from nI_pos (by omega)), e1, if_neg (by rw [nI_leI (by omega) (by omega)]; omega), ix_nI (by omega) (by omega), gdd_true, nI_clamp (by omega), k2]
          refine al_.same (r := if um K0 k = true then nI K0 else -12) hg0 ?_ ?_
          · have h5 : ¬ (5 : Int32) = (-1 : Int32) := by decide
            cases z : um K0 k with
            | true =>
              rw [z] at hu
              simp (disch := omega) only [m_X9_taken, m6_hasShelf, hsh, m_X6_isBare, m_X6_holdsATable, c1, c4, hko, hu, fa_lit, nI_nm1, nm1_nI, nI_nm1l, Nat.mul_comm _ 6, Nat.mul_comm _ 60, nI_ltI, nI_leI, nI_eq, nI_add, pk_mul, pk_sub, rm_nI, pk_div, nI_clamp, gdd_true, ix_nI, bdd_some, if_pos, if_neg, rI_wI, rI_wL, rL_wI, rL_wL, rI_cI, rI_cL, rL_cI, rL_cL, false_and, and_false, true_and, and_true, if_true, if_false, not_true_eq_false, not_false_eq_true, reduceCtorEq, zb_bz, bz_t, bz_f, Bool.true_eq_false, Bool.false_eq_true]
            | false =>
              rw [z] at hu
              simp (disch := omega) only [m_X9_taken, m6_hasShelf, hsh, m_X6_isBare, m_X6_holdsATable, c1, c4, hko, hu, fa_lit, nI_nm1, nm1_nI, nI_nm1l, Nat.mul_comm _ 6, Nat.mul_comm _ 60, nI_ltI, nI_leI, nI_eq, nI_add, pk_mul, pk_sub, rm_nI, pk_div, nI_clamp, gdd_true, ix_nI, bdd_some, if_pos, if_neg, rI_wI, rI_wL, rL_wI, rL_wL, rI_cI, rI_cL, rL_cI, rL_cL, false_and, and_false, true_and, and_true, if_true, if_false, not_true_eq_false, not_false_eq_true, reduceCtorEq, zb_bz, bz_t, bz_f, Bool.true_eq_false, Bool.false_eq_true]
          · rw [m_X10_taken, m10_isShelf, hsh, bdd_some, if_neg (show ¬ bz true = 0 by decide), hin, bdd_some, if_neg (show ¬ bz true = 0 by decide), ix_nI hs (by omega), gdd_true, nI_clamp (by omega), c2, if_pos (show nI 1 = (1 : Int32) from rfl), gdd_true, c5, ix_nI (by omega) (by omega), gdd_true, lti, nI_clamp (by omega), k1, k2, eF]
            exact taken_m (t := 0) hs h8 (by omega) c5 (by rw [k1, k2]) fv K0 hK0 (by omega)
        · refine al_.same (r := -12) hg0 ?_ ?_
          · simp (disch := omega) only [m_X9_taken, m6_hasShelf, hsh, m_X6_isBare, m_X6_holdsATable, c1, fa_lit, nI_nm1, nm1_nI, nI_nm1l, Nat.mul_comm _ 6, Nat.mul_comm _ 60, nI_ltI, nI_leI, nI_eq, nI_add, pk_mul, pk_sub, rm_nI, pk_div, nI_clamp, gdd_true, ix_nI, bdd_some, if_pos, if_neg, rI_wI, rI_wL, rL_wI, rL_wL, rI_cI, rI_cL, rL_cI, rL_cL, false_and, and_false, true_and, and_true, if_true, if_false, not_true_eq_false, not_false_eq_true, reduceCtorEq, zb_bz, bz_t, bz_f, Bool.true_eq_false, Bool.false_eq_true]
          · rw [m_X10_taken, m10_isShelf, hsh, bdd_some, if_neg (show ¬ bz true = 0 by decide), hin, bdd_some, if_neg (show ¬ bz true = 0 by decide), ix_nI hs (by omega), gdd_true, nI_clamp (by omega), c2, if_neg (show ¬ nI 2 = (1 : Int32) by decide), gdd_true, if_neg (show ¬ nI 2 = (0 : Int32) by decide)]
      · refine al_.same (r := -1) hg0 ?_ ?_
        · simp (disch := omega) only [m_X9_taken, m6_hasShelf, hsh, fa_lit, nI_nm1, nm1_nI, nI_nm1l, Nat.mul_comm _ 6, Nat.mul_comm _ 60, nI_ltI, nI_leI, nI_eq, nI_add, pk_mul, pk_sub, rm_nI, pk_div, nI_clamp, gdd_true, ix_nI, bdd_some, if_pos, if_neg, rI_wI, rI_wL, rL_wI, rL_wL, rI_cI, rI_cL, rL_cI, rL_cL, false_and, and_false, true_and, and_true, if_true, if_false, not_true_eq_false, not_false_eq_true, reduceCtorEq, zb_bz, bz_t, bz_f, Bool.true_eq_false, Bool.false_eq_true]
        · rw [m_X10_taken, m10_isShelf, hsh, bdd_some, if_neg (show ¬ bz true = 0 by decide), in_nI 0 7 0 7 hk rfl rfl, decide_eq_false (by omega), bdd_some, if_pos (show bz false = 0 from rfl)]
