/-! the first ops -/
theorem bz_t : bz true = nI 1 := rfl
theorem bz_f : bz false = nI 0 := rfl
theorem nI_nm1 {k : Nat} (h : k < 2 ^ 31) : (nI k = -nI 1) = False := by
  refine eq_false fun q => ?_
  have h1 := congrArg Int32.toInt q
  rw [nI_toInt h, show (-nI 1).toInt = -1 from rfl] at h1
  omega
theorem nm1_nI {k : Nat} (h : k < 2 ^ 31) : (-nI 1 = nI k) = False := by
  refine eq_false fun q => ?_
  have h1 := congrArg Int32.toInt q
  rw [nI_toInt h, show (-nI 1).toInt = -1 from rfl] at h1
  omega
theorem nI_nm1l {k : Nat} (h : k < 2 ^ 31) : (nI k < -nI 1) = False := by
  refine eq_false fun q => ?_
  rw [fa_lt, nI_toInt h, show (-nI 1).toInt = -1 from rfl] at q
  omega
/-- what P names is kept -/
def kp_ (P : Nat → Nat → Bool) (g g' : Mm) : Prop := ∀ c i, P c i = true → rdI g' c i = rdI g c i
theorem kp_rf {P : Nat → Nat → Bool} {g : Mm} : kp_ P g g := fun _ _ _ => rfl
theorem kp_w {P : Nat → Nat → Bool} {g g' : Mm} {c i : Nat} {v : Int32} (hP : P c i = false) (h : kp_ P g g') : kp_ P g (wrI g' c i v) := by
  intro d j hd
  rw [rI_wI, if_neg]
  · exact h d j hd
  · rintro ⟨rfl, rfl⟩
    rw [hP] at hd
    cases hd
theorem kp_L {P : Nat → Nat → Bool} {g g' : Mm} {c i : Nat} {v : Int64} (h : kp_ P g g') : kp_ P g (wrL g' c i v) := h
/-- where an int lies: below 0, or a number -/
theorem i_cases (x : Int32) : x.toInt < 0 ∨ ∃ k, k < 2 ^ 31 ∧ x = nI k := by
  by_cases h : x.toInt < 0
  · exact Or.inl h
  · obtain ⟨e, h2⟩ := nI_get (x := x) (by omega)
    exact Or.inr ⟨_, h2, e⟩
theorem neg_lt {x : Int32} {k : Nat} (h : x.toInt < 0) (hk : k < 2 ^ 31) : x < nI k := by
  rw [fa_lt, nI_toInt hk]
  omega
theorem neg_lt0 {x : Int32} (h : x.toInt < 0) : x < (0 : Int32) := neg_lt (k := 0) h (by decide)
theorem lt_n_neg {x : Int32} {n : Nat} (h : x.toInt < 0) : lt_n x n = false := by
  unfold lt_n
  rw [decide_eq_false (by omega)]
  rfl
theorem lt_n_nI {k n : Nat} (hk : k < 2 ^ 31) : lt_n (nI k) n = decide (k < n) := by
  unfold lt_n
  rw [nI_toInt hk]
  by_cases h : k < n
  · rw [decide_eq_true h, decide_eq_true (by omega), decide_eq_true (by omega)]
    rfl
  · rw [decide_eq_false h, decide_eq_false (show ¬ ((k : Int) < n) by omega), Bool.and_false]
theorem in_neg {x : Int32} {a b : Int64} (h : x.toInt < 0) (ha : 0 ≤ a.toInt) (g : Mm) : m_X10_in x.toInt64 a b g = some (bz false, g) := by
  rw [m10_in, t64, decide_eq_false (by omega), Bool.false_and]
theorem in_nI (a b : Int64) (p q : Nat) {k : Nat} (hk : k < 2 ^ 31) (ha : a.toInt = (p : Int)) (hb : b.toInt = (q : Int)) (g : Mm) : m_X10_in (nI k).toInt64 a b g = some (bz (decide (p ≤ k ∧ k ≤ q)), g) := by
  rw [m10_in, t64, nI_toInt hk, ha, hb]
  by_cases h : p ≤ k ∧ k ≤ q
  · rw [decide_eq_true h, decide_eq_true (by omega), decide_eq_true (by omega)]
    rfl
  · rw [decide_eq_false h]
    by_cases h1 : p ≤ k
    · rw [decide_eq_false (show ¬ ((k : Int) ≤ q) by omega), Bool.and_false]
    · rw [decide_eq_false (show ¬ ((p : Int) ≤ k) by omega), Bool.false_and]
theorem gv_s.more {na na' : Nat} {g : Mm} (h : gv_s na g) (hn : na ≤ na') : gv_s na' g := by
  intro s hs
  rcases h s hs with h | ⟨b, hb, h⟩ | h
  · exact Or.inl h
  · exact Or.inr (Or.inl ⟨b, by omega, h⟩)
  · exact Or.inr (Or.inr h)
theorem op_body (a0 : Int32) {g : Mm} (hg : gv_ g) : al_ (m_X9_body a0) (m_X10_body a0) g := by
  have hg0 := hg
  obtain ⟨nb, nh, hd, cd, ck, tl, rt, nn, na, ra, f, hT, hX, hC, hP, hL, hE, hA, hS⟩ := hg
  obtain ⟨⟨hna, hra⟩, ⟨e1, e2, e3, e4⟩, e5, e6⟩ := id hA
  rcases i_cases a0 with h | ⟨k, hk, rfl⟩
  · refine al_.same (r := -1) hg0 ?_ ?_
    · simp only [m_X9_body, if_pos (neg_lt0 h)]
    · simp only [m_X10_body, in_neg h (show 0 ≤ (0 : Int64).toInt by decide), bdd_some, bz_0, if_true]
  · by_cases h8 : k < 8
    · by_cases hf : na = 50
      · refine al_.same (r := -3) hg0 ?_ ?_
        · simp (disch := omega) only [m_X9_body, m_X0_add, e1, fa_lit, nI_nm1, nm1_nI, nI_nm1l, Nat.mul_comm _ 6, Nat.mul_comm _ 60, nI_ltI, nI_leI, nI_eq, nI_add, pk_mul, pk_sub, rm_nI, pk_div, nI_clamp, gdd_true, ix_nI, bdd_some, if_pos, if_neg, rI_wI, rI_wL, rL_wI, rL_wL, rI_cI, rI_cL, rL_cI, rL_cL, false_and, and_false, true_and, and_true, if_true, if_false, not_true_eq_false, not_false_eq_true, reduceCtorEq, zb_bz, bz_t, bz_f, Bool.true_eq_false, Bool.false_eq_true]
        · simp (disch := omega) only [m_X10_body, in_nI 0 7 0 7 hk rfl rfl, e2, decide_eq_true, fa_lit, nI_nm1, nm1_nI, nI_nm1l, Nat.mul_comm _ 6, Nat.mul_comm _ 60, nI_ltI, nI_leI, nI_eq, nI_add, pk_mul, pk_sub, rm_nI, pk_div, nI_clamp, gdd_true, ix_nI, bdd_some, if_pos, if_neg, rI_wI, rI_wL, rL_wI, rL_wL, rI_cI, rI_cL, rL_cI, rL_cL, false_and, and_false, true_and, and_true, if_true, if_false, not_true_eq_false, not_false_eq_true, reduceCtorEq, zb_bz, bz_t, bz_f, Bool.true_eq_false, Bool.false_eq_true]
      · refine ⟨nI na, wrI (wrI g 33 na (nI k)) 32 2 (nI (na + 1)), wrI (wrI (wrI (wrI g 33 na (nI k)) 32 2 (nI (na + 1))) 56 na (nI k)) 40 40 (nI (na + 1)), ?_, ?_, nb, nh, hd, cd, ck, tl, rt, nn, na + 1, ra, f, ?_, ?_, ?_, ?_, ?_, ?_, ?_, ?_⟩
        · simp (disch := omega) only [m_X9_body, m_X0_add, e1, fa_lit, nI_nm1, nm1_nI, nI_nm1l, Nat.mul_comm _ 6, Nat.mul_comm _ 60, nI_ltI, nI_leI, nI_eq, nI_add, pk_mul, pk_sub, rm_nI, pk_div, nI_clamp, gdd_true, ix_nI, bdd_some, if_pos, if_neg, rI_wI, rI_wL, rL_wI, rL_wL, rI_cI, rI_cL, rL_cI, rL_cL, false_and, and_false, true_and, and_true, if_true, if_false, not_true_eq_false, not_false_eq_true, reduceCtorEq, zb_bz, bz_t, bz_f, Bool.true_eq_false, Bool.false_eq_true, Nat.add_sub_cancel]
        · simp (disch := omega) only [m_X10_body, in_nI 0 7 0 7 hk rfl rfl, e2, decide_eq_true, fa_lit, nI_nm1, nm1_nI, nI_nm1l, Nat.mul_comm _ 6, Nat.mul_comm _ 60, nI_ltI, nI_leI, nI_eq, nI_add, pk_mul, pk_sub, rm_nI, pk_div, nI_clamp, gdd_true, ix_nI, bdd_some, if_pos, if_neg, rI_wI, rI_wL, rL_wI, rL_wL, rI_cI, rI_cL, rL_cI, rL_cL, false_and, and_false, true_and, and_true, if_true, if_false, not_true_eq_false, not_false_eq_true, reduceCtorEq, zb_bz, bz_t, bz_f, Bool.true_eq_false, Bool.false_eq_true, Nat.add_sub_cancel]
        · exact hT.cong (kp_w rfl (kp_w rfl (kp_w rfl (kp_w rfl kp_rf))))
        · exact hX.cong (kp_w rfl (kp_w rfl (kp_w rfl (kp_w rfl kp_rf))))
        · exact hC.cong (kp_w rfl (kp_w rfl (kp_w rfl (kp_w rfl kp_rf))))
        · exact hP.cong (kp_w rfl (kp_w rfl (kp_w rfl (kp_w rfl kp_rf))))
        · refine hL.cong ?_
          rcases hL.1 with ⟨rfl, -⟩ | ⟨rfl, -⟩ <;> exact kp_w rfl (kp_w rfl (kp_w rfl (kp_w rfl kp_rf)))
        · exact hE.cong (kp_w rfl (kp_w rfl (kp_w rfl (kp_w rfl kp_rf))))
        · refine ⟨by omega, ⟨?_, ?_, ?_, ?_⟩, fun j hj => ?_, fun j hj hj2 => ?_⟩
          · simp (disch := omega) only [fa_lit, nI_nm1, nm1_nI, nI_nm1l, Nat.mul_comm _ 6, Nat.mul_comm _ 60, nI_ltI, nI_leI, nI_eq, nI_add, pk_mul, pk_sub, rm_nI, pk_div, nI_clamp, gdd_true, ix_nI, bdd_some, if_pos, if_neg, rI_wI, rI_wL, rL_wI, rL_wL, rI_cI, rI_cL, rL_cI, rL_cL, false_and, and_false, true_and, and_true, if_true, if_false, not_true_eq_false, not_false_eq_true, reduceCtorEq, zb_bz, bz_t, bz_f, Bool.true_eq_false, Bool.false_eq_true]
          · simp (disch := omega) only [fa_lit, nI_nm1, nm1_nI, nI_nm1l, Nat.mul_comm _ 6, Nat.mul_comm _ 60, nI_ltI, nI_leI, nI_eq, nI_add, pk_mul, pk_sub, rm_nI, pk_div, nI_clamp, gdd_true, ix_nI, bdd_some, if_pos, if_neg, rI_wI, rI_wL, rL_wI, rL_wL, rI_cI, rI_cL, rL_cI, rL_cL, false_and, and_false, true_and, and_true, if_true, if_false, not_true_eq_false, not_false_eq_true, reduceCtorEq, zb_bz, bz_t, bz_f, Bool.true_eq_false, Bool.false_eq_true]
          · simp (disch := omega) only [e3, fa_lit, nI_nm1, nm1_nI, nI_nm1l, Nat.mul_comm _ 6, Nat.mul_comm _ 60, nI_ltI, nI_leI, nI_eq, nI_add, pk_mul, pk_sub, rm_nI, pk_div, nI_clamp, gdd_true, ix_nI, bdd_some, if_pos, if_neg, rI_wI, rI_wL, rL_wI, rL_wL, rI_cI, rI_cL, rL_cI, rL_cL, false_and, and_false, true_and, and_true, if_true, if_false, not_true_eq_false, not_false_eq_true, reduceCtorEq, zb_bz, bz_t, bz_f, Bool.true_eq_false, Bool.false_eq_true]
          · simp (disch := omega) only [e4, fa_lit, nI_nm1, nm1_nI, nI_nm1l, Nat.mul_comm _ 6, Nat.mul_comm _ 60, nI_ltI, nI_leI, nI_eq, nI_add, pk_mul, pk_sub, rm_nI, pk_div, nI_clamp, gdd_true, ix_nI, bdd_some, if_pos, if_neg, rI_wI, rI_wL, rL_wI, rL_wL, rI_cI, rI_cL, rL_cI, rL_cL, false_and, and_false, true_and, and_true, if_true, if_false, not_true_eq_false, not_false_eq_true, reduceCtorEq, zb_bz, bz_t, bz_f, Bool.true_eq_false, Bool.false_eq_true]
          · by_cases q : j = na
            · subst q
              simp (disch := omega) only [fa_lit, nI_nm1, nm1_nI, nI_nm1l, Nat.mul_comm _ 6, Nat.mul_comm _ 60, nI_ltI, nI_leI, nI_eq, nI_add, pk_mul, pk_sub, rm_nI, pk_div, nI_clamp, gdd_true, ix_nI, bdd_some, if_pos, if_neg, rI_wI, rI_wL, rL_wI, rL_wL, rI_cI, rI_cL, rL_cI, rL_cL, false_and, and_false, true_and, and_true, if_true, if_false, not_true_eq_false, not_false_eq_true, reduceCtorEq, zb_bz, bz_t, bz_f, Bool.true_eq_false, Bool.false_eq_true]
              exact ⟨k, h8, rfl⟩
            · simp (disch := omega) only [fa_lit, nI_nm1, nm1_nI, nI_nm1l, Nat.mul_comm _ 6, Nat.mul_comm _ 60, nI_ltI, nI_leI, nI_eq, nI_add, pk_mul, pk_sub, rm_nI, pk_div, nI_clamp, gdd_true, ix_nI, bdd_some, if_pos, if_neg, rI_wI, rI_wL, rL_wI, rL_wL, rI_cI, rI_cL, rL_cI, rL_cL, false_and, and_false, true_and, and_true, if_true, if_false, not_true_eq_false, not_false_eq_true, reduceCtorEq, zb_bz, bz_t, bz_f, Bool.true_eq_false, Bool.false_eq_true]
              exact e5 j (by omega)
          · simp (disch := omega) only [fa_lit, nI_nm1, nm1_nI, nI_nm1l, Nat.mul_comm _ 6, Nat.mul_comm _ 60, nI_ltI, nI_leI, nI_eq, nI_add, pk_mul, pk_sub, rm_nI, pk_div, nI_clamp, gdd_true, ix_nI, bdd_some, if_pos, if_neg, rI_wI, rI_wL, rL_wI, rL_wL, rI_cI, rI_cL, rL_cI, rL_cL, false_and, and_false, true_and, and_true, if_true, if_false, not_true_eq_false, not_false_eq_true, reduceCtorEq, zb_bz, bz_t, bz_f, Bool.true_eq_false, Bool.false_eq_true]
            exact e6 j hj hj2
        · exact (hS.cong (kp_w rfl (kp_w rfl (kp_w rfl (kp_w rfl kp_rf)))) (fun i => ⟨rfl, rfl⟩)).more (Nat.le_succ na)
    · refine al_.same (r := -1) hg0 ?_ ?_
      · simp (disch := omega) only [m_X9_body, fa_lit, nI_nm1, nm1_nI, nI_nm1l, Nat.mul_comm _ 6, Nat.mul_comm _ 60, nI_ltI, nI_leI, nI_eq, nI_add, pk_mul, pk_sub, rm_nI, pk_div, nI_clamp, gdd_true, ix_nI, bdd_some, if_pos, if_neg, rI_wI, rI_wL, rL_wI, rL_wL, rI_cI, rI_cL, rL_cI, rL_cL, false_and, and_false, true_and, and_true, if_true, if_false, not_true_eq_false, not_false_eq_true, reduceCtorEq, zb_bz, bz_t, bz_f, Bool.true_eq_false, Bool.false_eq_true]
      · simp (disch := omega) only [m_X10_body, in_nI 0 7 0 7 hk rfl rfl, decide_eq_false, fa_lit, nI_nm1, nm1_nI, nI_nm1l, Nat.mul_comm _ 6, Nat.mul_comm _ 60, nI_ltI, nI_leI, nI_eq, nI_add, pk_mul, pk_sub, rm_nI, pk_div, nI_clamp, gdd_true, ix_nI, bdd_some, if_pos, if_neg, rI_wI, rI_wL, rL_wI, rL_wL, rI_cI, rI_cL, rL_cI, rL_cL, false_and, and_false, true_and, and_true, if_true, if_false, not_true_eq_false, not_false_eq_true, reduceCtorEq, zb_bz, bz_t, bz_f, Bool.true_eq_false, Bool.false_eq_true]

theorem op_feed (a0 : Int32) {g : Mm} (hg : gv_ g) : al_ (m_X9_feed a0) (m_X10_feed a0) g := by
  have hg0 := hg
  obtain ⟨nb, nh, hd, cd, ck, tl, rt, nn, na, ra, f, hT, hX, hC, hP, hL, hE, hA, hS⟩ := hg
  obtain ⟨hna, ⟨e1, e2⟩, e5⟩ := id hP
  rcases i_cases a0 with h | ⟨k, hk, rfl⟩
  · refine al_.same (r := -1) hg0 ?_ ?_
    · simp only [m_X9_feed, if_pos (neg_lt0 h)]
    · simp only [m_X10_feed, in_neg h (show 0 ≤ (0 : Int64).toInt by decide), bdd_some, bz_0, if_true]
  · by_cases h8 : k ≤ 255
    · by_cases hf : tl = 120
      · refine al_.same (r := -3) hg0 ?_ ?_
        · simp (disch := omega) only [m_X9_feed, m_X3_add, e1, fa_lit, nI_nm1, nm1_nI, nI_nm1l, Nat.mul_comm _ 6, Nat.mul_comm _ 60, nI_ltI, nI_leI, nI_eq, nI_add, pk_mul, pk_sub, rm_nI, pk_div, nI_clamp, gdd_true, ix_nI, bdd_some, if_pos, if_neg, rI_wI, rI_wL, rL_wI, rL_wL, rI_cI, rI_cL, rL_cI, rL_cL, false_and, and_false, true_and, and_true, if_true, if_false, not_true_eq_false, not_false_eq_true, reduceCtorEq, zb_bz, bz_t, bz_f, Bool.true_eq_false, Bool.false_eq_true]
        · simp (disch := omega) only [m_X10_feed, in_nI 0 255 0 255 hk rfl rfl, e2, decide_eq_true, fa_lit, nI_nm1, nm1_nI, nI_nm1l, Nat.mul_comm _ 6, Nat.mul_comm _ 60, nI_ltI, nI_leI, nI_eq, nI_add, pk_mul, pk_sub, rm_nI, pk_div, nI_clamp, gdd_true, ix_nI, bdd_some, if_pos, if_neg, rI_wI, rI_wL, rL_wI, rL_wL, rI_cI, rI_cL, rL_cI, rL_cL, false_and, and_false, true_and, and_true, if_true, if_false, not_true_eq_false, not_false_eq_true, reduceCtorEq, zb_bz, bz_t, bz_f, Bool.true_eq_false, Bool.false_eq_true]
      · refine ⟨nI (tl + 1), wrI (wrI g 12 tl (nI k)) 11 1 (nI (tl + 1)), wrI (wrI (wrI (wrI g 12 tl (nI k)) 11 1 (nI (tl + 1))) 49 tl (nI k)) 40 15 (nI (tl + 1)), ?_, ?_, nb, nh, hd, cd, ck, tl + 1, rt, nn, na, ra, f, ?_, ?_, ?_, ?_, ?_, ?_, ?_, ?_⟩
        · simp (disch := omega) only [m_X9_feed, m_X3_add, e1, fa_lit, nI_nm1, nm1_nI, nI_nm1l, Nat.mul_comm _ 6, Nat.mul_comm _ 60, nI_ltI, nI_leI, nI_eq, nI_add, pk_mul, pk_sub, rm_nI, pk_div, nI_clamp, gdd_true, ix_nI, bdd_some, if_pos, if_neg, rI_wI, rI_wL, rL_wI, rL_wL, rI_cI, rI_cL, rL_cI, rL_cL, false_and, and_false, true_and, and_true, if_true, if_false, not_true_eq_false, not_false_eq_true, reduceCtorEq, zb_bz, bz_t, bz_f, Bool.true_eq_false, Bool.false_eq_true]
        · simp (disch := omega) only [m_X10_feed, in_nI 0 255 0 255 hk rfl rfl, e2, decide_eq_true, fa_lit, nI_nm1, nm1_nI, nI_nm1l, Nat.mul_comm _ 6, Nat.mul_comm _ 60, nI_ltI, nI_leI, nI_eq, nI_add, pk_mul, pk_sub, rm_nI, pk_div, nI_clamp, gdd_true, ix_nI, bdd_some, if_pos, if_neg, rI_wI, rI_wL, rL_wI, rL_wL, rI_cI, rI_cL, rL_cI, rL_cL, false_and, and_false, true_and, and_true, if_true, if_false, not_true_eq_false, not_false_eq_true, reduceCtorEq, zb_bz, bz_t, bz_f, Bool.true_eq_false, Bool.false_eq_true]
        · exact hT.cong (kp_w rfl (kp_w rfl (kp_w rfl (kp_w rfl kp_rf))))
        · exact hX.cong (kp_w rfl (kp_w rfl (kp_w rfl (kp_w rfl kp_rf))))
        · exact hC.cong (kp_w rfl (kp_w rfl (kp_w rfl (kp_w rfl kp_rf))))
        · refine ⟨by omega, ⟨?_, ?_⟩, fun j hj => ?_⟩
          · simp (disch := omega) only [fa_lit, nI_nm1, nm1_nI, nI_nm1l, Nat.mul_comm _ 6, Nat.mul_comm _ 60, nI_ltI, nI_leI, nI_eq, nI_add, pk_mul, pk_sub, rm_nI, pk_div, nI_clamp, gdd_true, ix_nI, bdd_some, if_pos, if_neg, rI_wI, rI_wL, rL_wI, rL_wL, rI_cI, rI_cL, rL_cI, rL_cL, false_and, and_false, true_and, and_true, if_true, if_false, not_true_eq_false, not_false_eq_true, reduceCtorEq, zb_bz, bz_t, bz_f, Bool.true_eq_false, Bool.false_eq_true]
          · simp (disch := omega) only [fa_lit, nI_nm1, nm1_nI, nI_nm1l, Nat.mul_comm _ 6, Nat.mul_comm _ 60, nI_ltI, nI_leI, nI_eq, nI_add, pk_mul, pk_sub, rm_nI, pk_div, nI_clamp, gdd_true, ix_nI, bdd_some, if_pos, if_neg, rI_wI, rI_wL, rL_wI, rL_wL, rI_cI, rI_cL, rL_cI, rL_cL, false_and, and_false, true_and, and_true, if_true, if_false, not_true_eq_false, not_false_eq_true, reduceCtorEq, zb_bz, bz_t, bz_f, Bool.true_eq_false, Bool.false_eq_true]
          · by_cases q : j = tl
            · subst q
              simp (disch := omega) only [fa_lit, nI_nm1, nm1_nI, nI_nm1l, Nat.mul_comm _ 6, Nat.mul_comm _ 60, nI_ltI, nI_leI, nI_eq, nI_add, pk_mul, pk_sub, rm_nI, pk_div, nI_clamp, gdd_true, ix_nI, bdd_some, if_pos, if_neg, rI_wI, rI_wL, rL_wI, rL_wL, rI_cI, rI_cL, rL_cI, rL_cL, false_and, and_false, true_and, and_true, if_true, if_false, not_true_eq_false, not_false_eq_true, reduceCtorEq, zb_bz, bz_t, bz_f, Bool.true_eq_false, Bool.false_eq_true]
              exact ⟨k, h8, rfl⟩
            · simp (disch := omega) only [fa_lit, nI_nm1, nm1_nI, nI_nm1l, Nat.mul_comm _ 6, Nat.mul_comm _ 60, nI_ltI, nI_leI, nI_eq, nI_add, pk_mul, pk_sub, rm_nI, pk_div, nI_clamp, gdd_true, ix_nI, bdd_some, if_pos, if_neg, rI_wI, rI_wL, rL_wI, rL_wL, rI_cI, rI_cL, rL_cI, rL_cL, false_and, and_false, true_and, and_true, if_true, if_false, not_true_eq_false, not_false_eq_true, reduceCtorEq, zb_bz, bz_t, bz_f, Bool.true_eq_false, Bool.false_eq_true]
              exact e5 j (by omega)
        · refine hL.cong ?_
          rcases hL.1 with ⟨rfl, -⟩ | ⟨rfl, -⟩ <;> exact (kp_w rfl (kp_w rfl (kp_w rfl (kp_w rfl kp_rf))))
        · exact hE.cong (kp_w rfl (kp_w rfl (kp_w rfl (kp_w rfl kp_rf))))
        · exact hA.cong (kp_w rfl (kp_w rfl (kp_w rfl (kp_w rfl kp_rf))))
        · exact hS.cong (kp_w rfl (kp_w rfl (kp_w rfl (kp_w rfl kp_rf)))) (fun i => ⟨rfl, rfl⟩)
    · refine al_.same (r := -1) hg0 ?_ ?_
      · simp (disch := omega) only [m_X9_feed, fa_lit, nI_nm1, nm1_nI, nI_nm1l, Nat.mul_comm _ 6, Nat.mul_comm _ 60, nI_ltI, nI_leI, nI_eq, nI_add, pk_mul, pk_sub, rm_nI, pk_div, nI_clamp, gdd_true, ix_nI, bdd_some, if_pos, if_neg, rI_wI, rI_wL, rL_wI, rL_wL, rI_cI, rI_cL, rL_cI, rL_cL, false_and, and_false, true_and, and_true, if_true, if_false, not_true_eq_false, not_false_eq_true, reduceCtorEq, zb_bz, bz_t, bz_f, Bool.true_eq_false, Bool.false_eq_true]
      · simp (disch := omega) only [m_X10_feed, in_nI 0 255 0 255 hk rfl rfl, decide_eq_false, fa_lit, nI_nm1, nm1_nI, nI_nm1l, Nat.mul_comm _ 6, Nat.mul_comm _ 60, nI_ltI, nI_leI, nI_eq, nI_add, pk_mul, pk_sub, rm_nI, pk_div, nI_clamp, gdd_true, ix_nI, bdd_some, if_pos, if_neg, rI_wI, rI_wL, rL_wI, rL_wL, rI_cI, rI_cL, rL_cI, rL_cL, false_and, and_false, true_and, and_true, if_true, if_false, not_true_eq_false, not_false_eq_true, reduceCtorEq, zb_bz, bz_t, bz_f, Bool.true_eq_false, Bool.false_eq_true]
theorem op_count (a0 : Int32) {g : Mm} (hg : gv_ g) : al_ (m_X9_count a0) (m_X10_count a0) g := by
  have hg0 := hg
  obtain ⟨nb, nh, hd, cd, ck, tl, rt, nn, na, ra, f, hT, hX, hC, hP, hL, hE, hA, hS⟩ := hg
  obtain ⟨-, ⟨t1, t2, t3, t4, t5, t6⟩, -⟩ := hT
  obtain ⟨-, ⟨c1, c2, c3, c4⟩, -⟩ := hC
  obtain ⟨-, ⟨p1, p2⟩, -⟩ := hP
  obtain ⟨-, ⟨e1, e2, e3, e4⟩, -⟩ := hA
  rcases i_cases a0 with h | ⟨k, hk, rfl⟩
  · refine al_.same (r := -1) hg0 ?_ ?_
    · have hn : ∀ n : Nat, n < 2 ^ 31 → ¬ a0 = nI n := fun n hn q => by rw [q, nI_toInt hn] at h; omega
      simp (disch := omega) only [m_X9_count, fa_lit, hn, if_false]
    · simp only [m_X10_count, in_neg h (show 0 ≤ (0 : Int64).toInt by decide), bdd_some, bz_0, if_true]
  · by_cases h8 : k ≤ 6
    · rcases (by omega : k = 0 ∨ k = 1 ∨ k = 2 ∨ k = 3 ∨ k = 4 ∨ k = 5 ∨ k = 6) with rfl | rfl | rfl | rfl | rfl | rfl | rfl
      · refine al_.same (r := nI nb) hg0 ?_ ?_ <;> simp (disch := omega) only [m_X9_count, m_X10_count, in_nI 0 6 0 6 hk rfl rfl, decide_eq_true, t1, t4, fa_lit, nI_nm1, nm1_nI, nI_nm1l, Nat.mul_comm _ 6, Nat.mul_comm _ 60, nI_ltI, nI_leI, nI_eq, nI_add, pk_mul, pk_sub, rm_nI, pk_div, nI_clamp, gdd_true, ix_nI, bdd_some, if_pos, if_neg, rI_wI, rI_wL, rL_wI, rL_wL, rI_cI, rI_cL, rL_cI, rL_cL, false_and, and_false, true_and, and_true, if_true, if_false, not_true_eq_false, not_false_eq_true, reduceCtorEq, zb_bz, bz_t, bz_f, Bool.true_eq_false, Bool.false_eq_true]
      · refine al_.same (r := nI nh) hg0 ?_ ?_ <;> simp (disch := omega) only [m_X9_count, m_X10_count, in_nI 0 6 0 6 hk rfl rfl, decide_eq_true, t2, t5, fa_lit, nI_nm1, nm1_nI, nI_nm1l, Nat.mul_comm _ 6, Nat.mul_comm _ 60, nI_ltI, nI_leI, nI_eq, nI_add, pk_mul, pk_sub, rm_nI, pk_div, nI_clamp, gdd_true, ix_nI, bdd_some, if_pos, if_neg, rI_wI, rI_wL, rL_wI, rL_wL, rI_cI, rI_cL, rL_cI, rL_cL, false_and, and_false, true_and, and_true, if_true, if_false, not_true_eq_false, not_false_eq_true, reduceCtorEq, zb_bz, bz_t, bz_f, Bool.true_eq_false, Bool.false_eq_true]
      · refine al_.same (r := nI hd) hg0 ?_ ?_ <;> simp (disch := omega) only [m_X9_count, m_X10_count, in_nI 0 6 0 6 hk rfl rfl, decide_eq_true, t3, t6, fa_lit, nI_nm1, nm1_nI, nI_nm1l, Nat.mul_comm _ 6, Nat.mul_comm _ 60, nI_ltI, nI_leI, nI_eq, nI_add, pk_mul, pk_sub, rm_nI, pk_div, nI_clamp, gdd_true, ix_nI, bdd_some, if_pos, if_neg, rI_wI, rI_wL, rL_wI, rL_wL, rI_cI, rI_cL, rL_cI, rL_cL, false_and, and_false, true_and, and_true, if_true, if_false, not_true_eq_false, not_false_eq_true, reduceCtorEq, zb_bz, bz_t, bz_f, Bool.true_eq_false, Bool.false_eq_true]
      · refine al_.same (r := nI tl) hg0 ?_ ?_ <;> simp (disch := omega) only [m_X9_count, m_X10_count, in_nI 0 6 0 6 hk rfl rfl, decide_eq_true, p1, p2, fa_lit, nI_nm1, nm1_nI, nI_nm1l, Nat.mul_comm _ 6, Nat.mul_comm _ 60, nI_ltI, nI_leI, nI_eq, nI_add, pk_mul, pk_sub, rm_nI, pk_div, nI_clamp, gdd_true, ix_nI, bdd_some, if_pos, if_neg, rI_wI, rI_wL, rL_wI, rL_wL, rI_cI, rI_cL, rL_cI, rL_cL, false_and, and_false, true_and, and_true, if_true, if_false, not_true_eq_false, not_false_eq_true, reduceCtorEq, zb_bz, bz_t, bz_f, Bool.true_eq_false, Bool.false_eq_true]
      · refine al_.same (r := nI cd) hg0 ?_ ?_ <;> simp (disch := omega) only [m_X9_count, m_X10_count, in_nI 0 6 0 6 hk rfl rfl, decide_eq_true, c1, c3, fa_lit, nI_nm1, nm1_nI, nI_nm1l, Nat.mul_comm _ 6, Nat.mul_comm _ 60, nI_ltI, nI_leI, nI_eq, nI_add, pk_mul, pk_sub, rm_nI, pk_div, nI_clamp, gdd_true, ix_nI, bdd_some, if_pos, if_neg, rI_wI, rI_wL, rL_wI, rL_wL, rI_cI, rI_cL, rL_cI, rL_cL, false_and, and_false, true_and, and_true, if_true, if_false, not_true_eq_false, not_false_eq_true, reduceCtorEq, zb_bz, bz_t, bz_f, Bool.true_eq_false, Bool.false_eq_true]
      · refine al_.same (r := nI na) hg0 ?_ ?_ <;> simp (disch := omega) only [m_X9_count, m_X10_count, in_nI 0 6 0 6 hk rfl rfl, decide_eq_true, e1, e2, fa_lit, nI_nm1, nm1_nI, nI_nm1l, Nat.mul_comm _ 6, Nat.mul_comm _ 60, nI_ltI, nI_leI, nI_eq, nI_add, pk_mul, pk_sub, rm_nI, pk_div, nI_clamp, gdd_true, ix_nI, bdd_some, if_pos, if_neg, rI_wI, rI_wL, rL_wI, rL_wL, rI_cI, rI_cL, rL_cI, rL_cL, false_and, and_false, true_and, and_true, if_true, if_false, not_true_eq_false, not_false_eq_true, reduceCtorEq, zb_bz, bz_t, bz_f, Bool.true_eq_false, Bool.false_eq_true]
      · refine al_.same (r := nI ra) hg0 ?_ ?_ <;> simp (disch := omega) only [m_X9_count, m_X10_count, in_nI 0 6 0 6 hk rfl rfl, decide_eq_true, e3, e4, fa_lit, nI_nm1, nm1_nI, nI_nm1l, Nat.mul_comm _ 6, Nat.mul_comm _ 60, nI_ltI, nI_leI, nI_eq, nI_add, pk_mul, pk_sub, rm_nI, pk_div, nI_clamp, gdd_true, ix_nI, bdd_some, if_pos, if_neg, rI_wI, rI_wL, rL_wI, rL_wL, rI_cI, rI_cL, rL_cI, rL_cL, false_and, and_false, true_and, and_true, if_true, if_false, not_true_eq_false, not_false_eq_true, reduceCtorEq, zb_bz, bz_t, bz_f, Bool.true_eq_false, Bool.false_eq_true]
    · refine al_.same (r := -1) hg0 ?_ ?_
      · simp (disch := omega) only [m_X9_count, fa_lit, nI_nm1, nm1_nI, nI_nm1l, Nat.mul_comm _ 6, Nat.mul_comm _ 60, nI_ltI, nI_leI, nI_eq, nI_add, pk_mul, pk_sub, rm_nI, pk_div, nI_clamp, gdd_true, ix_nI, bdd_some, if_pos, if_neg, rI_wI, rI_wL, rL_wI, rL_wL, rI_cI, rI_cL, rL_cI, rL_cL, false_and, and_false, true_and, and_true, if_true, if_false, not_true_eq_false, not_false_eq_true, reduceCtorEq, zb_bz, bz_t, bz_f, Bool.true_eq_false, Bool.false_eq_true]
      · simp (disch := omega) only [m_X10_count, in_nI 0 6 0 6 hk rfl rfl, decide_eq_false, fa_lit, nI_nm1, nm1_nI, nI_nm1l, Nat.mul_comm _ 6, Nat.mul_comm _ 60, nI_ltI, nI_leI, nI_eq, nI_add, pk_mul, pk_sub, rm_nI, pk_div, nI_clamp, gdd_true, ix_nI, bdd_some, if_pos, if_neg, rI_wI, rI_wL, rL_wI, rL_wL, rI_cI, rI_cL, rL_cI, rL_cL, false_and, and_false, true_and, and_true, if_true, if_false, not_true_eq_false, not_false_eq_true, reduceCtorEq, zb_bz, bz_t, bz_f, Bool.true_eq_false, Bool.false_eq_true]
theorem in_m1 {x : Int32} (h : x.toInt < -1) (g : Mm) : m_X10_in x.toInt64 (-1) 15 g = some (bz false, g) := by
  rw [m10_in, t64, show (-1 : Int64).toInt = -1 from rfl, decide_eq_false (by omega), Bool.false_and]
theorem in_m1t (g : Mm) : m_X10_in (-1 : Int32).toInt64 (-1) 15 g = some (bz true, g) := by
  rw [m10_in, t64]
  rfl
theorem in_m1n {k : Nat} (hk : k < 2 ^ 31) (g : Mm) : m_X10_in (nI k).toInt64 (-1) 15 g = some (bz (decide (k ≤ 15)), g) := by
  rw [m10_in, t64, nI_toInt hk, show (-1 : Int64).toInt = -1 from rfl, show (15 : Int64).toInt = 15 from rfl, decide_eq_true (by omega)]
  by_cases h : k ≤ 15
  · rw [decide_eq_true h, decide_eq_true (by omega)]
    rfl
  · rw [decide_eq_false h, decide_eq_false (by omega)]
    rfl
theorem lt_m1 {x : Int32} (h : x.toInt < -1) : x < (-1 : Int32) := by rw [fa_lt, show (-1 : Int32).toInt = -1 from rfl]; exact h
theorem eq_m1 {x : Int32} (h : x.toInt = -1) : x = -1 := Int32.toInt_inj.mp (h.trans rfl)
set_option maxHeartbeats 1000000 in
theorem hear_ok {x : Int32} (hx : er_ok x) (h1 : ¬ x < (-1 : Int32)) (h2 : x ≤ (15 : Int32)) (h3 : ∀ g : Mm, m_X10_in x.toInt64 (-1) 15 g = some (bz true, g)) {g : Mm} (hg : gv_ g) : al_ (m_X9_hear x) (m_X10_hear x) g := by
  have hg0 := hg
  obtain ⟨nb, nh, hd, cd, ck, tl, rt, nn, na, ra, f, hT, hX, hC, hP, hL, hE, hA, hS⟩ := hg
  obtain ⟨⟨hrt, hnn⟩, ⟨e1, e2, e3, e4⟩, e5, e6⟩ := id hE
  obtain ⟨⟨b1, -⟩, ⟨t1, -, -, t4, -⟩, -⟩ := id hT
  by_cases hf : rt = nb
  · refine al_.same (r := -3) hg0 ?_ ?_
    · rw [m_X9_hear, if_neg h1, if_pos h2]
      simp (disch := omega) only [m_X2_add, e1, t1, fa_lit, nI_nm1, nm1_nI, nI_nm1l, Nat.mul_comm _ 6, Nat.mul_comm _ 60, nI_ltI, nI_leI, nI_eq, nI_add, pk_mul, pk_sub, rm_nI, pk_div, nI_clamp, gdd_true, ix_nI, bdd_some, if_pos, if_neg, rI_wI, rI_wL, rL_wI, rL_wL, rI_cI, rI_cL, rL_cI, rL_cL, false_and, and_false, true_and, and_true, if_true, if_false, not_true_eq_false, not_false_eq_true, reduceCtorEq, zb_bz, bz_t, bz_f, Bool.true_eq_false, Bool.false_eq_true]
    · rw [m_X10_hear, h3, bdd_some]
      simp (disch := omega) only [e3, t4, fa_lit, nI_nm1, nm1_nI, nI_nm1l, Nat.mul_comm _ 6, Nat.mul_comm _ 60, nI_ltI, nI_leI, nI_eq, nI_add, pk_mul, pk_sub, rm_nI, pk_div, nI_clamp, gdd_true, ix_nI, bdd_some, if_pos, if_neg, rI_wI, rI_wL, rL_wI, rL_wL, rI_cI, rI_cL, rL_cI, rL_cL, false_and, and_false, true_and, and_true, if_true, if_false, not_true_eq_false, not_false_eq_true, reduceCtorEq, zb_bz, bz_t, bz_f, Bool.true_eq_false, Bool.false_eq_true]
  · refine ⟨nI (rt + 1), wrI (wrI g 30 rt x) 29 3 (nI (rt + 1)), wrI (wrI (wrI (wrI g 30 rt x) 29 3 (nI (rt + 1))) 51 rt x) 40 33 (nI (rt + 1)), ?_, ?_, nb, nh, hd, cd, ck, tl, rt + 1, nn, na, ra, f, ?_, ?_, ?_, ?_, ?_, ?_, ?_, ?_⟩
    · rw [m_X9_hear, if_neg h1, if_pos h2]
      simp (disch := omega) only [m_X2_add, e1, t1, fa_lit, nI_nm1, nm1_nI, nI_nm1l, Nat.mul_comm _ 6, Nat.mul_comm _ 60, nI_ltI, nI_leI, nI_eq, nI_add, pk_mul, pk_sub, rm_nI, pk_div, nI_clamp, gdd_true, ix_nI, bdd_some, if_pos, if_neg, rI_wI, rI_wL, rL_wI, rL_wL, rI_cI, rI_cL, rL_cI, rL_cL, false_and, and_false, true_and, and_true, if_true, if_false, not_true_eq_false, not_false_eq_true, reduceCtorEq, zb_bz, bz_t, bz_f, Bool.true_eq_false, Bool.false_eq_true]
    · rw [m_X10_hear, h3, bdd_some]
      simp (disch := omega) only [e3, t4, fa_lit, nI_nm1, nm1_nI, nI_nm1l, Nat.mul_comm _ 6, Nat.mul_comm _ 60, nI_ltI, nI_leI, nI_eq, nI_add, pk_mul, pk_sub, rm_nI, pk_div, nI_clamp, gdd_true, ix_nI, bdd_some, if_pos, if_neg, rI_wI, rI_wL, rL_wI, rL_wL, rI_cI, rI_cL, rL_cI, rL_cL, false_and, and_false, true_and, and_true, if_true, if_false, not_true_eq_false, not_false_eq_true, reduceCtorEq, zb_bz, bz_t, bz_f, Bool.true_eq_false, Bool.false_eq_true]
    · exact hT.cong (kp_w rfl (kp_w rfl (kp_w rfl (kp_w rfl kp_rf))))
    · exact hX.cong (kp_w rfl (kp_w rfl (kp_w rfl (kp_w rfl kp_rf))))
    · exact hC.cong (kp_w rfl (kp_w rfl (kp_w rfl (kp_w rfl kp_rf))))
    · exact hP.cong (kp_w rfl (kp_w rfl (kp_w rfl (kp_w rfl kp_rf))))
    · refine hL.cong ?_
      rcases hL.1 with ⟨rfl, -⟩ | ⟨rfl, -⟩ <;> exact (kp_w rfl (kp_w rfl (kp_w rfl (kp_w rfl kp_rf))))
    · refine ⟨by omega, ⟨?_, ?_, ?_, ?_⟩, fun j hj => ⟨fun h => ?_, fun h => ?_⟩, fun j hj => ?_⟩
      · simp (disch := omega) only [fa_lit, nI_nm1, nm1_nI, nI_nm1l, Nat.mul_comm _ 6, Nat.mul_comm _ 60, nI_ltI, nI_leI, nI_eq, nI_add, pk_mul, pk_sub, rm_nI, pk_div, nI_clamp, gdd_true, ix_nI, bdd_some, if_pos, if_neg, rI_wI, rI_wL, rL_wI, rL_wL, rI_cI, rI_cL, rL_cI, rL_cL, false_and, and_false, true_and, and_true, if_true, if_false, not_true_eq_false, not_false_eq_true, reduceCtorEq, zb_bz, bz_t, bz_f, Bool.true_eq_false, Bool.false_eq_true]
      · simp (disch := omega) only [e2, fa_lit, nI_nm1, nm1_nI, nI_nm1l, Nat.mul_comm _ 6, Nat.mul_comm _ 60, nI_ltI, nI_leI, nI_eq, nI_add, pk_mul, pk_sub, rm_nI, pk_div, nI_clamp, gdd_true, ix_nI, bdd_some, if_pos, if_neg, rI_wI, rI_wL, rL_wI, rL_wL, rI_cI, rI_cL, rL_cI, rL_cL, false_and, and_false, true_and, and_true, if_true, if_false, not_true_eq_false, not_false_eq_true, reduceCtorEq, zb_bz, bz_t, bz_f, Bool.true_eq_false, Bool.false_eq_true]
      · simp (disch := omega) only [fa_lit, nI_nm1, nm1_nI, nI_nm1l, Nat.mul_comm _ 6, Nat.mul_comm _ 60, nI_ltI, nI_leI, nI_eq, nI_add, pk_mul, pk_sub, rm_nI, pk_div, nI_clamp, gdd_true, ix_nI, bdd_some, if_pos, if_neg, rI_wI, rI_wL, rL_wI, rL_wL, rI_cI, rI_cL, rL_cI, rL_cL, false_and, and_false, true_and, and_true, if_true, if_false, not_true_eq_false, not_false_eq_true, reduceCtorEq, zb_bz, bz_t, bz_f, Bool.true_eq_false, Bool.false_eq_true]
      · simp (disch := omega) only [e4, fa_lit, nI_nm1, nm1_nI, nI_nm1l, Nat.mul_comm _ 6, Nat.mul_comm _ 60, nI_ltI, nI_leI, nI_eq, nI_add, pk_mul, pk_sub, rm_nI, pk_div, nI_clamp, gdd_true, ix_nI, bdd_some, if_pos, if_neg, rI_wI, rI_wL, rL_wI, rL_wL, rI_cI, rI_cL, rL_cI, rL_cL, false_and, and_false, true_and, and_true, if_true, if_false, not_true_eq_false, not_false_eq_true, reduceCtorEq, zb_bz, bz_t, bz_f, Bool.true_eq_false, Bool.false_eq_true]
      · by_cases q : j = rt
        · subst q
          simp (disch := omega) only [fa_lit, nI_nm1, nm1_nI, nI_nm1l, Nat.mul_comm _ 6, Nat.mul_comm _ 60, nI_ltI, nI_leI, nI_eq, nI_add, pk_mul, pk_sub, rm_nI, pk_div, nI_clamp, gdd_true, ix_nI, bdd_some, if_pos, if_neg, rI_wI, rI_wL, rL_wI, rL_wL, rI_cI, rI_cL, rL_cI, rL_cL, false_and, and_false, true_and, and_true, if_true, if_false, not_true_eq_false, not_false_eq_true, reduceCtorEq, zb_bz, bz_t, bz_f, Bool.true_eq_false, Bool.false_eq_true]
          exact hx
        · simp (disch := omega) only [fa_lit, nI_nm1, nm1_nI, nI_nm1l, Nat.mul_comm _ 6, Nat.mul_comm _ 60, nI_ltI, nI_leI, nI_eq, nI_add, pk_mul, pk_sub, rm_nI, pk_div, nI_clamp, gdd_true, ix_nI, bdd_some, if_pos, if_neg, rI_wI, rI_wL, rL_wI, rL_wL, rI_cI, rI_cL, rL_cI, rL_cL, false_and, and_false, true_and, and_true, if_true, if_false, not_true_eq_false, not_false_eq_true, reduceCtorEq, zb_bz, bz_t, bz_f, Bool.true_eq_false, Bool.false_eq_true]
          exact (e5 j hj).1 (by omega)
      · simp (disch := omega) only [fa_lit, nI_nm1, nm1_nI, nI_nm1l, Nat.mul_comm _ 6, Nat.mul_comm _ 60, nI_ltI, nI_leI, nI_eq, nI_add, pk_mul, pk_sub, rm_nI, pk_div, nI_clamp, gdd_true, ix_nI, bdd_some, if_pos, if_neg, rI_wI, rI_wL, rL_wI, rL_wL, rI_cI, rI_cL, rL_cI, rL_cL, false_and, and_false, true_and, and_true, if_true, if_false, not_true_eq_false, not_false_eq_true, reduceCtorEq, zb_bz, bz_t, bz_f, Bool.true_eq_false, Bool.false_eq_true]
        exact (e5 j hj).2 (by omega)
      · simp (disch := omega) only [fa_lit, nI_nm1, nm1_nI, nI_nm1l, Nat.mul_comm _ 6, Nat.mul_comm _ 60, nI_ltI, nI_leI, nI_eq, nI_add, pk_mul, pk_sub, rm_nI, pk_div, nI_clamp, gdd_true, ix_nI, bdd_some, if_pos, if_neg, rI_wI, rI_wL, rL_wI, rL_wL, rI_cI, rI_cL, rL_cI, rL_cL, false_and, and_false, true_and, and_true, if_true, if_false, not_true_eq_false, not_false_eq_true, reduceCtorEq, zb_bz, bz_t, bz_f, Bool.true_eq_false, Bool.false_eq_true]
        exact e6 j hj
    · exact hA.cong (kp_w rfl (kp_w rfl (kp_w rfl (kp_w rfl kp_rf))))
    · exact hS.cong (kp_w rfl (kp_w rfl (kp_w rfl (kp_w rfl kp_rf)))) (fun i => ⟨rfl, rfl⟩)
theorem op_hear (a0 : Int32) {g : Mm} (hg : gv_ g) : al_ (m_X9_hear a0) (m_X10_hear a0) g := by
  rcases i_cases a0 with h | ⟨k, hk, rfl⟩
  · by_cases h1 : a0.toInt = -1
    · rw [eq_m1 h1]
      exact hear_ok (Or.inl rfl) (by decide) (by decide) in_m1t hg
    · refine al_.same (r := -1) hg ?_ ?_
      · rw [m_X9_hear, if_pos (lt_m1 (by omega))]
      · rw [m_X10_hear, in_m1 (by omega), bdd_some, if_pos (show bz false = 0 from rfl)]
  · by_cases h8 : k ≤ 15
    · refine hear_ok (Or.inr ⟨k, h8, rfl⟩) ?_ ?_ (fun g => by rw [in_m1n hk, decide_eq_true h8]) hg
      · rw [fa_lt, nI_toInt hk, show (-1 : Int32).toInt = -1 from rfl]
        omega
      · rw [fa_le, nI_toInt hk, show (15 : Int32).toInt = 15 from rfl]
        omega
    · refine al_.same (r := -1) hg ?_ ?_
      · rw [m_X9_hear, if_neg (by rw [fa_lt, nI_toInt hk, show (-1 : Int32).toInt = -1 from rfl]; omega), if_neg (by rw [fa_le, nI_toInt hk, show (15 : Int32).toInt = 15 from rfl]; omega)]
      · rw [m_X10_hear, in_m1n hk, decide_eq_false h8, bdd_some, if_pos (show bz false = 0 from rfl)]
