/-! shelves -/
theorem in_lt {n : Nat} (hn : n < 2 ^ 31) (x : Int32) (g : Mm) : m_X10_in x.toInt64 (0 : Int64) (nI n - (1 : Int32)).toInt64 g = some (bz (lt_n x n), g) := by
  rw [m10_in, t64, t64, ti_pred hn]
  congr 2
  unfold lt_n
  rw [show (0 : Int64).toInt = 0 from rfl]
  congr 2
  by_cases q : x.toInt < (n : Int)
  · rw [decide_eq_true q, decide_eq_true (by omega)]
  · rw [decide_eq_false q, decide_eq_false (by omega)]
theorem in_ltn {n : Nat} (hn : n < 2 ^ 31) (x : Int32) (g : Mm) : m_X10_in x.toInt64 (0 : Int64) (nI n - nI 1).toInt64 g = some (bz (lt_n x n), g) := in_lt hn x g
theorem in_le {n : Nat} (hn : n + 1 < 2 ^ 31) (x : Int32) (g : Mm) : m_X10_in x.toInt64 (0 : Int64) (nI n).toInt64 g = some (bz (lt_n x (n + 1)), g) := by
  have h := in_lt hn x g
  rw [nI_pred] at h
  exact h
theorem in_lt7 (x : Int32) (g : Mm) : m_X10_in x.toInt64 (0 : Int64) (7 : Int64) g = some (bz (lt_n x 8), g) := in_lt (n := 8) (by decide) x g
theorem in_lt4 (x : Int32) (g : Mm) : m_X10_in x.toInt64 (0 : Int64) (4 : Int64) g = some (bz (lt_n x 5), g) := in_lt (n := 5) (by decide) x g
theorem in_lt5 (x : Int32) (g : Mm) : m_X10_in x.toInt64 (0 : Int64) (5 : Int64) g = some (bz (lt_n x 6), g) := in_lt (n := 6) (by decide) x g
theorem m6_hasShelf (x : Int32) (g : Mm) : m_X6_hasShelf x g = some (bz (lt_n x 6), g) := by
  rcases i_cases x with h | ⟨k, hk, rfl⟩
  · rw [lt_n_neg h, m_X6_hasShelf, if_pos (neg_lt0 h)]
    rfl
  · rw [lt_n_nI hk]
    by_cases h6 : k < 6
    · simp (disch := omega) only [m_X6_hasShelf, decide_eq_true, fa_lit, nI_nm1, nm1_nI, nI_nm1l, Nat.mul_comm _ 6, Nat.mul_comm _ 60, nI_ltI, nI_leI, nI_eq, nI_add, pk_mul, pk_sub, rm_nI, pk_div, nI_clamp, gdd_true, ix_nI, bdd_some, if_pos, if_neg, rI_wI, rI_wL, rL_wI, rL_wL, rI_cI, rI_cL, rL_cI, rL_cL, false_and, and_false, true_and, and_true, if_true, if_false, not_true_eq_false, not_false_eq_true, reduceCtorEq, zb_bz, bz_t, bz_f, Bool.true_eq_false, Bool.false_eq_true]
    · simp (disch := omega) only [m_X6_hasShelf, decide_eq_false, fa_lit, nI_nm1, nm1_nI, nI_nm1l, Nat.mul_comm _ 6, Nat.mul_comm _ 60, nI_ltI, nI_leI, nI_eq, nI_add, pk_mul, pk_sub, rm_nI, pk_div, nI_clamp, gdd_true, ix_nI, bdd_some, if_pos, if_neg, rI_wI, rI_wL, rL_wI, rL_wL, rI_cI, rI_cL, rL_cI, rL_cL, false_and, and_false, true_and, and_true, if_true, if_false, not_true_eq_false, not_false_eq_true, reduceCtorEq, zb_bz, bz_t, bz_f, Bool.true_eq_false, Bool.false_eq_true]
theorem m10_isShelf (x : Int32) (g : Mm) : m_X10_isShelf x g = some (bz (lt_n x 6), g) := by
  rw [m_X10_isShelf, in_lt5, bdd_some, zb_bz, gdd_true]
theorem gv_s.upd {na s : Nat} {g g' : Mm} (h : gv_s na g) (hs : sh_ok na s g') (hk : ∀ c i, pl_s c i = true → i ≠ s → rdI g' c i = rdI g c i) (hl : ∀ j i, j ≠ s → i < 60 → rdL g' 39 (60 * j + i) = rdL g 39 (60 * j + i) ∧ rdL g' 62 (60 * j + i) = rdL g 62 (60 * j + i)) : gv_s na g' := by
  intro j hj
  by_cases q : j = s
  · subst q
    exact hs
  · exact (h j hj).cong (fun c hc => hk c j hc q) (fun i hi => hl j i q hi)
theorem up_ne {g g' : Mm} {s c j : Nat} {v : Int32} (hk : ∀ c i, pl_s c i = true → i ≠ s → rdI g' c i = rdI g c i) : ∀ d i, pl_s d i = true → i ≠ s → rdI (wrI g' c s v) d i = rdI g d i := by
  intro d i h1 h2
  rw [rI_wI, if_neg (fun q => h2 q.2)]
  exact hk d i h1 h2
theorem hold_loop (s n : Nat) (hs : s < 6) (hn : n ≤ 60) : ∀ (fu i : Nat) (g : Mm), n < i + fu → i ≤ n → ∃ g', m_X6_holdRow_17 fu (nI s) (nI n) (nI i) g = some ((0 : Int32), g') ∧ g'.1 = g.1 ∧ (∀ c j, rdL g' c j = if c = 39 ∧ 60 * s + i ≤ j ∧ j < 60 * s + n then 0 else rdL g c j) := by
  intro fu
  induction fu with
  | zero => intro i g h1 h2; omega
  | succ fu ih =>
    intro i g h1 h2
    rw [m_X6_holdRow_17]
    by_cases q : n ≤ i
    · refine ⟨g, by simp (disch := omega) only [fa_lit, nI_nm1, nm1_nI, nI_nm1l, Nat.mul_comm _ 6, Nat.mul_comm _ 60, nI_ltI, nI_leI, nI_eq, nI_add, pk_mul, pk_sub, rm_nI, pk_div, nI_clamp, gdd_true, ix_nI, bdd_some, if_pos, if_neg, rI_wI, rI_wL, rL_wI, rL_wL, rI_cI, rI_cL, rL_cI, rL_cL, false_and, and_false, true_and, and_true, if_true, if_false, not_true_eq_false, not_false_eq_true, reduceCtorEq, zb_bz, bz_t, bz_f, Bool.true_eq_false, Bool.false_eq_true], rfl, fun c j => ?_⟩
      rw [if_neg (by omega)]
    · obtain ⟨g', e1, e2, e3⟩ := ih (i + 1) (wrL g 39 (60 * s + i) 0) (by omega) (by omega)
      refine ⟨g', ?_, e2, fun c j => ?_⟩
      · simp (disch := omega) only [fa_lit, nI_nm1, nm1_nI, nI_nm1l, Nat.mul_comm _ 6, Nat.mul_comm _ 60, nI_ltI, nI_leI, nI_eq, nI_add, pk_mul, pk_sub, rm_nI, pk_div, nI_clamp, gdd_true, ix_nI, bdd_some, if_pos, if_neg, rI_wI, rI_wL, rL_wI, rL_wL, rI_cI, rI_cL, rL_cI, rL_cL, false_and, and_false, true_and, and_true, if_true, if_false, not_true_eq_false, not_false_eq_true, reduceCtorEq, zb_bz, bz_t, bz_f, Bool.true_eq_false, Bool.false_eq_true]
        exact e1
      · rw [e3, rL_wL]
        by_cases a : c = 39 ∧ 60 * s + (i + 1) ≤ j ∧ j < 60 * s + n
        · rw [if_pos a, if_pos (by omega)]
        · rw [if_neg a]
          by_cases b : c = 39 ∧ j = 60 * s + i
          · rw [if_pos b, if_pos (by omega)]
          · rw [if_neg b, if_neg (by omega)]
theorem row_loop (s n : Nat) (hs : s < 6) (hn : n ≤ 60) : ∀ (fu i : Nat) (g : Mm), n < i + fu → i ≤ n → ∃ g', m_X10_row_58 fu (nI s) (nI n) (nI i) g = some ((1 : Int32), g') ∧ g'.1 = g.1 ∧ (∀ c j, rdL g' c j = if c = 62 ∧ 60 * s + i ≤ j ∧ j < 60 * s + n then 0 else rdL g c j) := by
  intro fu
  induction fu with
  | zero => intro i g h1 h2; omega
  | succ fu ih =>
    intro i g h1 h2
    rw [m_X10_row_58]
    by_cases q : n ≤ i
    · refine ⟨g, by simp (disch := omega) only [fa_lit, nI_nm1, nm1_nI, nI_nm1l, Nat.mul_comm _ 6, Nat.mul_comm _ 60, nI_ltI, nI_leI, nI_eq, nI_add, pk_mul, pk_sub, rm_nI, pk_div, nI_clamp, gdd_true, ix_nI, bdd_some, if_pos, if_neg, rI_wI, rI_wL, rL_wI, rL_wL, rI_cI, rI_cL, rL_cI, rL_cL, false_and, and_false, true_and, and_true, if_true, if_false, not_true_eq_false, not_false_eq_true, reduceCtorEq, zb_bz, bz_t, bz_f, Bool.true_eq_false, Bool.false_eq_true], rfl, fun c j => ?_⟩
      rw [if_neg (by omega)]
    · obtain ⟨g', e1, e2, e3⟩ := ih (i + 1) (wrL g 62 (60 * s + i) 0) (by omega) (by omega)
      refine ⟨g', ?_, e2, fun c j => ?_⟩
      · simp (disch := omega) only [fa_lit, nI_nm1, nm1_nI, nI_nm1l, Nat.mul_comm _ 6, Nat.mul_comm _ 60, nI_ltI, nI_leI, nI_eq, nI_add, pk_mul, pk_sub, rm_nI, pk_div, nI_clamp, gdd_true, ix_nI, bdd_some, if_pos, if_neg, rI_wI, rI_wL, rL_wI, rL_wL, rI_cI, rI_cL, rL_cI, rL_cL, false_and, and_false, true_and, and_true, if_true, if_false, not_true_eq_false, not_false_eq_true, reduceCtorEq, zb_bz, bz_t, bz_f, Bool.true_eq_false, Bool.false_eq_true]
        exact e1
      · rw [e3, rL_wL]
        by_cases a : c = 62 ∧ 60 * s + (i + 1) ≤ j ∧ j < 60 * s + n
        · rw [if_pos a, if_pos (by omega)]
        · rw [if_neg a]
          by_cases b : c = 62 ∧ j = 60 * s + i
          · rw [if_pos b, if_pos (by omega)]
          · rw [if_neg b, if_neg (by omega)]
theorem fu_big : (100000 : Nat) < fuL := by decide
theorem fu_get : ∃ F : Nat, fuL = F ∧ 100000 < F := ⟨fuL, rfl, fu_big⟩
set_option maxHeartbeats 1000000 in
theorem op_keep (a0 a1 : Int32) {g : Mm} (hg : gv_ g) : al_ (m_X9_keep a0 a1) (m_X10_keep a0 a1) g := by
  have hg0 := hg
  obtain ⟨nb, nh, hd, cd, ck, tl, rt, nn, na, ra, f, hT, hX, hC, hP, hL, hE, hA, hS⟩ := hg
  obtain ⟨⟨hna, hra⟩, ⟨e1, e2, e3, e4⟩, e5, e6⟩ := id hA
  cases hsh : lt_n a0 6 with
  | false =>
    refine al_.same (r := -1) hg0 ?_ ?_
    · simp only [m_X9_keep, m6_hasShelf, hsh, bdd_some, bz_0, if_true]
    · simp only [m_X10_keep, m10_isShelf, hsh, bdd_some, bz_0, if_true]
  | true =>
    obtain ⟨s, hs, rfl⟩ := lt_nI hsh (by decide)
    rcases i_cases a1 with h | ⟨k, hk, rfl⟩
    · by_cases h1 : a1.toInt = -1
      · rw [eq_m1 h1]
        refine ⟨nI 1, wrI (wrI g 36 s (-1)) 38 s 0, wrI (wrI (wrI (wrI g 36 s (-1)) 38 s 0) 58 s 0) 59 s (-1), ?_, ?_, nb, nh, hd, cd, ck, tl, rt, nn, na, ra, f, hT.cong (kp_w rfl (kp_w rfl (kp_w rfl (kp_w rfl kp_rf)))), hX.cong (kp_w rfl (kp_w rfl (kp_w rfl (kp_w rfl kp_rf)))), hC.cong (kp_w rfl (kp_w rfl (kp_w rfl (kp_w rfl kp_rf)))), hP.cong (kp_w rfl (kp_w rfl (kp_w rfl (kp_w rfl kp_rf)))), ?_, hE.cong (kp_w rfl (kp_w rfl (kp_w rfl (kp_w rfl kp_rf)))), hA.cong (kp_w rfl (kp_w rfl (kp_w rfl (kp_w rfl kp_rf)))), ?_⟩
        · rw [m_X9_keep, m6_hasShelf, hsh, bdd_some, if_neg (show ¬ bz true = 0 by decide), if_neg (by decide), e1, if_pos (by rw [fa_lt, nI_toInt (by omega), show (-1 : Int32).toInt = -1 from rfl]; omega), if_pos rfl]
          simp (disch := omega) only [m_X6_clear, fa_lit, nI_nm1, nm1_nI, nI_nm1l, Nat.mul_comm _ 6, Nat.mul_comm _ 60, nI_ltI, nI_leI, nI_eq, nI_add, pk_mul, pk_sub, rm_nI, pk_div, nI_clamp, gdd_true, ix_nI, bdd_some, if_pos, if_neg, rI_wI, rI_wL, rL_wI, rL_wL, rI_cI, rI_cL, rL_cI, rL_cL, false_and, and_false, true_and, and_true, if_true, if_false, not_true_eq_false, not_false_eq_true, reduceCtorEq, zb_bz, bz_t, bz_f, Bool.true_eq_false, Bool.false_eq_true]
        · rw [m_X10_keep, m10_isShelf, hsh, bdd_some, if_neg (show ¬ bz true = 0 by decide), if_pos rfl, m_X10_keep_30, if_pos rfl]
          simp (disch := omega) only [fa_lit, nI_nm1, nm1_nI, nI_nm1l, Nat.mul_comm _ 6, Nat.mul_comm _ 60, nI_ltI, nI_leI, nI_eq, nI_add, pk_mul, pk_sub, rm_nI, pk_div, nI_clamp, gdd_true, ix_nI, bdd_some, if_pos, if_neg, rI_wI, rI_wL, rL_wI, rL_wL, rI_cI, rI_cL, rL_cI, rL_cL, false_and, and_false, true_and, and_true, if_true, if_false, not_true_eq_false, not_false_eq_true, reduceCtorEq, zb_bz, bz_t, bz_f, Bool.true_eq_false, Bool.false_eq_true]
        · refine hL.cong ?_
          rcases hL.1 with ⟨rfl, -⟩ | ⟨rfl, -⟩ <;> exact (kp_w rfl (kp_w rfl (kp_w rfl (kp_w rfl kp_rf))))
        · refine hS.upd (s := s) (Or.inl ⟨?_, ?_, ?_⟩) (up_ne (j := 0) (up_ne (j := 0) (up_ne (j := 0) (up_ne (j := 0) (fun _ _ _ _ => rfl))))) (fun _ _ _ _ => ⟨rfl, rfl⟩)
          · simp (disch := omega) only [fa_lit, nI_nm1, nm1_nI, nI_nm1l, Nat.mul_comm _ 6, Nat.mul_comm _ 60, nI_ltI, nI_leI, nI_eq, nI_add, pk_mul, pk_sub, rm_nI, pk_div, nI_clamp, gdd_true, ix_nI, bdd_some, if_pos, if_neg, rI_wI, rI_wL, rL_wI, rL_wL, rI_cI, rI_cL, rL_cI, rL_cL, false_and, and_false, true_and, and_true, if_true, if_false, not_true_eq_false, not_false_eq_true, reduceCtorEq, zb_bz, bz_t, bz_f, Bool.true_eq_false, Bool.false_eq_true]
          · simp (disch := omega) only [fa_lit, nI_nm1, nm1_nI, nI_nm1l, Nat.mul_comm _ 6, Nat.mul_comm _ 60, nI_ltI, nI_leI, nI_eq, nI_add, pk_mul, pk_sub, rm_nI, pk_div, nI_clamp, gdd_true, ix_nI, bdd_some, if_pos, if_neg, rI_wI, rI_wL, rL_wI, rL_wL, rI_cI, rI_cL, rL_cI, rL_cL, false_and, and_false, true_and, and_true, if_true, if_false, not_true_eq_false, not_false_eq_true, reduceCtorEq, zb_bz, bz_t, bz_f, Bool.true_eq_false, Bool.false_eq_true]
          · simp (disch := omega) only [fa_lit, nI_nm1, nm1_nI, nI_nm1l, Nat.mul_comm _ 6, Nat.mul_comm _ 60, nI_ltI, nI_leI, nI_eq, nI_add, pk_mul, pk_sub, rm_nI, pk_div, nI_clamp, gdd_true, ix_nI, bdd_some, if_pos, if_neg, rI_wI, rI_wL, rL_wI, rL_wL, rI_cI, rI_cL, rL_cI, rL_cL, false_and, and_false, true_and, and_true, if_true, if_false, not_true_eq_false, not_false_eq_true, reduceCtorEq, zb_bz, bz_t, bz_f, Bool.true_eq_false, Bool.false_eq_true]
      · refine al_.same (r := -1) hg0 ?_ ?_
        · rw [m_X9_keep, m6_hasShelf, hsh, bdd_some, if_neg (show ¬ bz true = 0 by decide), if_pos (lt_m1 (by omega))]
        · rw [m_X10_keep, m10_isShelf, hsh, bdd_some, if_neg (show ¬ bz true = 0 by decide), if_neg (fun q => h1 (by rw [q]; rfl)), e2, in_lt (by omega), lt_n_neg h, bdd_some, if_pos (show bz false = 0 from rfl)]
    · by_cases h8 : k < na
      · refine ⟨nI 1, wrI (wrI (wrI g 36 s (nI 5)) 38 s 0) 37 s (nI k), wrI (wrI (wrI (wrI (wrI g 36 s (nI 5)) 38 s 0) 37 s (nI k)) 58 s (nI 1)) 59 s (nI k), ?_, ?_, nb, nh, hd, cd, ck, tl, rt, nn, na, ra, f, hT.cong (kp_w rfl (kp_w rfl (kp_w rfl (kp_w rfl (kp_w rfl kp_rf))))), hX.cong (kp_w rfl (kp_w rfl (kp_w rfl (kp_w rfl (kp_w rfl kp_rf))))), hC.cong (kp_w rfl (kp_w rfl (kp_w rfl (kp_w rfl (kp_w rfl kp_rf))))), hP.cong (kp_w rfl (kp_w rfl (kp_w rfl (kp_w rfl (kp_w rfl kp_rf))))), ?_, hE.cong (kp_w rfl (kp_w rfl (kp_w rfl (kp_w rfl (kp_w rfl kp_rf))))), hA.cong (kp_w rfl (kp_w rfl (kp_w rfl (kp_w rfl (kp_w rfl kp_rf))))), ?_⟩
        · simp (disch := omega) only [m_X9_keep, m6_hasShelf, hsh, m_X6_holdTable, e1, fa_lit, nI_nm1, nm1_nI, nI_nm1l, Nat.mul_comm _ 6, Nat.mul_comm _ 60, nI_ltI, nI_leI, nI_eq, nI_add, pk_mul, pk_sub, rm_nI, pk_div, nI_clamp, gdd_true, ix_nI, bdd_some, if_pos, if_neg, rI_wI, rI_wL, rL_wI, rL_wL, rI_cI, rI_cL, rL_cI, rL_cL, false_and, and_false, true_and, and_true, if_true, if_false, not_true_eq_false, not_false_eq_true, reduceCtorEq, zb_bz, bz_t, bz_f, Bool.true_eq_false, Bool.false_eq_true]
        · simp (disch := omega) only [m_X10_keep, m10_isShelf, hsh, m_X10_keep_30, e2, in_le, lt_n_nI, decide_eq_true, fa_lit, nI_nm1, nm1_nI, nI_nm1l, Nat.mul_comm _ 6, Nat.mul_comm _ 60, nI_ltI, nI_leI, nI_eq, nI_add, pk_mul, pk_sub, rm_nI, pk_div, nI_clamp, gdd_true, ix_nI, bdd_some, if_pos, if_neg, rI_wI, rI_wL, rL_wI, rL_wL, rI_cI, rI_cL, rL_cI, rL_cL, false_and, and_false, true_and, and_true, if_true, if_false, not_true_eq_false, not_false_eq_true, reduceCtorEq, zb_bz, bz_t, bz_f, Bool.true_eq_false, Bool.false_eq_true]
        · refine hL.cong ?_
          rcases hL.1 with ⟨rfl, -⟩ | ⟨rfl, -⟩ <;> exact (kp_w rfl (kp_w rfl (kp_w rfl (kp_w rfl (kp_w rfl kp_rf)))))
        · refine hS.upd (s := s) (Or.inr (Or.inl ⟨k, h8, ?_, ?_, ?_, ?_, ?_⟩)) (up_ne (j := 0) (up_ne (j := 0) (up_ne (j := 0) (up_ne (j := 0) (up_ne (j := 0) (fun _ _ _ _ => rfl)))))) (fun _ _ _ _ => ⟨rfl, rfl⟩) <;> simp (disch := omega) only [fa_lit, nI_nm1, nm1_nI, nI_nm1l, Nat.mul_comm _ 6, Nat.mul_comm _ 60, nI_ltI, nI_leI, nI_eq, nI_add, pk_mul, pk_sub, rm_nI, pk_div, nI_clamp, gdd_true, ix_nI, bdd_some, if_pos, if_neg, rI_wI, rI_wL, rL_wI, rL_wL, rI_cI, rI_cL, rL_cI, rL_cL, false_and, and_false, true_and, and_true, if_true, if_false, not_true_eq_false, not_false_eq_true, reduceCtorEq, zb_bz, bz_t, bz_f, Bool.true_eq_false, Bool.false_eq_true]
      · refine al_.same (r := -1) hg0 ?_ ?_
        · simp (disch := omega) only [m_X9_keep, m6_hasShelf, hsh, e1, fa_lit, nI_nm1, nm1_nI, nI_nm1l, Nat.mul_comm _ 6, Nat.mul_comm _ 60, nI_ltI, nI_leI, nI_eq, nI_add, pk_mul, pk_sub, rm_nI, pk_div, nI_clamp, gdd_true, ix_nI, bdd_some, if_pos, if_neg, rI_wI, rI_wL, rL_wI, rL_wL, rI_cI, rI_cL, rL_cI, rL_cL, false_and, and_false, true_and, and_true, if_true, if_false, not_true_eq_false, not_false_eq_true, reduceCtorEq, zb_bz, bz_t, bz_f, Bool.true_eq_false, Bool.false_eq_true]
        · rw [m_X10_keep, m10_isShelf, hsh, bdd_some, if_neg (show ¬ bz true = 0 by decide), if_neg (show ¬ nI k = -1 from by have := nI_nm1 hk; exact fun q => this.mp q), e2, in_lt (by omega), lt_n_nI hk, decide_eq_false h8, bdd_some, if_pos (show bz false = 0 from rfl)]

set_option maxHeartbeats 1000000 in
theorem op_row (a0 a1 a2 : Int32) {g : Mm} (hg : gv_ g) : al_ (m_X9_row a0 a1 a2) (m_X10_row a0 a1 a2) g := by
  have hg0 := hg
  obtain ⟨nb, nh, hd, cd, ck, tl, rt, nn, na, ra, f, hT, hX, hC, hP, hL, hE, hA, hS⟩ := hg
  cases hsh : lt_n a0 6 with
  | false =>
    refine al_.same (r := -1) hg0 ?_ ?_
    · simp only [m_X9_row, m6_hasShelf, hsh, bdd_some, bz_0, if_true]
    · simp only [m_X10_row, m10_isShelf, hsh, bdd_some, bz_0, if_true]
  | true =>
    obtain ⟨s, hs, rfl⟩ := lt_nI hsh (by decide)
    rcases i_cases a1 with h | ⟨t, ht, rfl⟩
    · refine al_.same (r := -1) hg0 ?_ ?_
      · rw [m_X9_row, m6_hasShelf, hsh, bdd_some, if_neg (show ¬ bz true = 0 by decide), if_pos (neg_lt0 h)]
      · rw [m_X10_row, m10_isShelf, hsh, bdd_some, if_neg (show ¬ bz true = 0 by decide), in_lt4, lt_n_neg h, bdd_some, if_pos (show bz false = 0 from rfl)]
    · by_cases h5 : t < 5
      · rcases i_cases a2 with h | ⟨n, hn, rfl⟩
        · have q1 : a2 ≤ (60 : Int32) := by rw [fa_le, show (60 : Int32).toInt = 60 from rfl]; omega
          have q2 : ¬ (0 : Int32) ≤ a2 := by rw [fa_le, show (0 : Int32).toInt = 0 from rfl]; omega
          refine al_.same (r := -14) hg0 ?_ ?_
          · rw [m_X9_row, m6_hasShelf, hsh, bdd_some, if_neg (show ¬ bz true = 0 by decide)]
            simp (disch := omega) only [← fa_lit, if_pos q1, if_neg q2]
            simp (disch := omega) only [fa_lit, nI_nm1, nm1_nI, nI_nm1l, Nat.mul_comm _ 6, Nat.mul_comm _ 60, nI_ltI, nI_leI, nI_eq, nI_add, pk_mul, pk_sub, rm_nI, pk_div, nI_clamp, gdd_true, ix_nI, bdd_some, if_pos, if_neg, rI_wI, rI_wL, rL_wI, rL_wL, rI_cI, rI_cL, rL_cI, rL_cL, false_and, and_false, true_and, and_true, if_true, if_false, not_true_eq_false, not_false_eq_true, reduceCtorEq, zb_bz, bz_t, bz_f, Bool.true_eq_false, Bool.false_eq_true]
          · rw [m_X10_row, m10_isShelf, hsh, bdd_some, if_neg (show ¬ bz true = 0 by decide), in_lt4, lt_n_nI ht, decide_eq_true h5, bdd_some, if_neg (show ¬ bz true = 0 by decide), if_pos q1, if_neg q2]
        · by_cases h60 : n ≤ 60
          · obtain ⟨F, eF, hF⟩ := fu_get
            obtain ⟨g1, p1, p2, p3⟩ := hold_loop s n hs h60 F 0 (wrI (wrI g 36 s (nI t)) 38 s (nI n)) (by omega) (by omega)
            obtain ⟨g2, r1, r2, r3⟩ := row_loop s n hs h60 F 0 (wrI (wrI (wrI g1 58 s (nI 2)) 60 s (nI t)) 61 s (nI n)) (by omega) (by omega)
            have k1 : ∀ c i, rdI g1 c i = rdI (wrI (wrI g 36 s (nI t)) 38 s (nI n)) c i := fun c i => by unfold rdI; rw [p2]
            have k2 : ∀ c i, rdI g2 c i = rdI (wrI (wrI (wrI g1 58 s (nI 2)) 60 s (nI t)) 61 s (nI n)) c i := fun c i => by unfold rdI; rw [r2]
            have kk : ∀ c i, rdI g2 c i = rdI (wrI (wrI (wrI (wrI (wrI g 36 s (nI t)) 38 s (nI n)) 58 s (nI 2)) 60 s (nI t)) 61 s (nI n)) c i := fun c i => by
              rw [k2, rI_wI, rI_wI, rI_wI, k1]
              simp only [rI_wI]
            have kp : ∀ P : Nat → Nat → Bool, kp_ P g (wrI (wrI (wrI (wrI (wrI g 36 s (nI t)) 38 s (nI n)) 58 s (nI 2)) 60 s (nI t)) 61 s (nI n)) → kp_ P g g2 := fun P h c i hc => (kk c i).trans (h c i hc)
            refine ⟨nI 1, g1, g2, ?_, ?_, nb, nh, hd, cd, ck, tl, rt, nn, na, ra, f, hT.cong (kp _ (kp_w rfl (kp_w rfl (kp_w rfl (kp_w rfl (kp_w rfl kp_rf)))))), hX.cong (kp _ (kp_w rfl (kp_w rfl (kp_w rfl (kp_w rfl (kp_w rfl kp_rf)))))), hC.cong (kp _ (kp_w rfl (kp_w rfl (kp_w rfl (kp_w rfl (kp_w rfl kp_rf)))))), hP.cong (kp _ (kp_w rfl (kp_w rfl (kp_w rfl (kp_w rfl (kp_w rfl kp_rf)))))), ?_, hE.cong (kp _ (kp_w rfl (kp_w rfl (kp_w rfl (kp_w rfl (kp_w rfl kp_rf)))))), hA.cong (kp _ (kp_w rfl (kp_w rfl (kp_w rfl (kp_w rfl (kp_w rfl kp_rf)))))), ?_⟩
            · simp (disch := omega) only [m_X9_row, m6_hasShelf, hsh, m_X6_holdRow, eF, fa_lit, nI_nm1, nm1_nI, nI_nm1l, Nat.mul_comm _ 6, Nat.mul_comm _ 60, nI_ltI, nI_leI, nI_eq, nI_add, pk_mul, pk_sub, rm_nI, pk_div, nI_clamp, gdd_true, ix_nI, bdd_some, if_pos, if_neg, rI_wI, rI_wL, rL_wI, rL_wL, rI_cI, rI_cL, rL_cI, rL_cL, false_and, and_false, true_and, and_true, if_true, if_false, not_true_eq_false, not_false_eq_true, reduceCtorEq, zb_bz, bz_t, bz_f, Bool.true_eq_false, Bool.false_eq_true]
              rw [p1, bdd_some]
            · simp (disch := omega) only [m_X10_row, m10_isShelf, hsh, in_lt4, lt_n_nI, decide_eq_true, eF, fa_lit, nI_nm1, nm1_nI, nI_nm1l, Nat.mul_comm _ 6, Nat.mul_comm _ 60, nI_ltI, nI_leI, nI_eq, nI_add, pk_mul, pk_sub, rm_nI, pk_div, nI_clamp, gdd_true, ix_nI, bdd_some, if_pos, if_neg, rI_wI, rI_wL, rL_wI, rL_wL, rI_cI, rI_cL, rL_cI, rL_cL, false_and, and_false, true_and, and_true, if_true, if_false, not_true_eq_false, not_false_eq_true, reduceCtorEq, zb_bz, bz_t, bz_f, Bool.true_eq_false, Bool.false_eq_true]
              exact r1
            · refine hL.cong ?_
              rcases hL.1 with ⟨rfl, -⟩ | ⟨rfl, -⟩ <;> exact kp _ (kp_w rfl (kp_w rfl (kp_w rfl (kp_w rfl (kp_w rfl kp_rf)))))
            · refine hS.upd (s := s) (Or.inr (Or.inr ⟨t, n, h5, h60, ?_, ?_, ?_, ?_, ?_, fun i hi => ?_⟩)) (fun c i hc hi => ?_) (fun j i hj hi => ?_)
              · rw [kk]; simp (disch := omega) only [fa_lit, nI_nm1, nm1_nI, nI_nm1l, Nat.mul_comm _ 6, Nat.mul_comm _ 60, nI_ltI, nI_leI, nI_eq, nI_add, pk_mul, pk_sub, rm_nI, pk_div, nI_clamp, gdd_true, ix_nI, bdd_some, if_pos, if_neg, rI_wI, rI_wL, rL_wI, rL_wL, rI_cI, rI_cL, rL_cI, rL_cL, false_and, and_false, true_and, and_true, if_true, if_false, not_true_eq_false, not_false_eq_true, reduceCtorEq, zb_bz, bz_t, bz_f, Bool.true_eq_false, Bool.false_eq_true]
              · rw [kk]; simp (disch := omega) only [fa_lit, nI_nm1, nm1_nI, nI_nm1l, Nat.mul_comm _ 6, Nat.mul_comm _ 60, nI_ltI, nI_leI, nI_eq, nI_add, pk_mul, pk_sub, rm_nI, pk_div, nI_clamp, gdd_true, ix_nI, bdd_some, if_pos, if_neg, rI_wI, rI_wL, rL_wI, rL_wL, rI_cI, rI_cL, rL_cI, rL_cL, false_and, and_false, true_and, and_true, if_true, if_false, not_true_eq_false, not_false_eq_true, reduceCtorEq, zb_bz, bz_t, bz_f, Bool.true_eq_false, Bool.false_eq_true]
              · rw [kk]; simp (disch := omega) only [fa_lit, nI_nm1, nm1_nI, nI_nm1l, Nat.mul_comm _ 6, Nat.mul_comm _ 60, nI_ltI, nI_leI, nI_eq, nI_add, pk_mul, pk_sub, rm_nI, pk_div, nI_clamp, gdd_true, ix_nI, bdd_some, if_pos, if_neg, rI_wI, rI_wL, rL_wI, rL_wL, rI_cI, rI_cL, rL_cI, rL_cL, false_and, and_false, true_and, and_true, if_true, if_false, not_true_eq_false, not_false_eq_true, reduceCtorEq, zb_bz, bz_t, bz_f, Bool.true_eq_false, Bool.false_eq_true]
              · rw [kk]; simp (disch := omega) only [fa_lit, nI_nm1, nm1_nI, nI_nm1l, Nat.mul_comm _ 6, Nat.mul_comm _ 60, nI_ltI, nI_leI, nI_eq, nI_add, pk_mul, pk_sub, rm_nI, pk_div, nI_clamp, gdd_true, ix_nI, bdd_some, if_pos, if_neg, rI_wI, rI_wL, rL_wI, rL_wL, rI_cI, rI_cL, rL_cI, rL_cL, false_and, and_false, true_and, and_true, if_true, if_false, not_true_eq_false, not_false_eq_true, reduceCtorEq, zb_bz, bz_t, bz_f, Bool.true_eq_false, Bool.false_eq_true]
              · rw [kk]; simp (disch := omega) only [fa_lit, nI_nm1, nm1_nI, nI_nm1l, Nat.mul_comm _ 6, Nat.mul_comm _ 60, nI_ltI, nI_leI, nI_eq, nI_add, pk_mul, pk_sub, rm_nI, pk_div, nI_clamp, gdd_true, ix_nI, bdd_some, if_pos, if_neg, rI_wI, rI_wL, rL_wI, rL_wL, rI_cI, rI_cL, rL_cI, rL_cL, false_and, and_false, true_and, and_true, if_true, if_false, not_true_eq_false, not_false_eq_true, reduceCtorEq, zb_bz, bz_t, bz_f, Bool.true_eq_false, Bool.false_eq_true]
              · rw [r3, if_pos (by omega), r3, if_neg (by omega)]
                show 0 = rdL g1 39 _
                rw [p3, if_pos (by omega)]
              · rw [kk]
                exact up_ne (j := 0) (up_ne (j := 0) (up_ne (j := 0) (up_ne (j := 0) (up_ne (j := 0) (fun _ _ _ _ => rfl))))) c i hc hi
              · rw [r3, if_neg (by omega), r3, if_neg (by omega)]
                refine ⟨?_, ?_⟩
                · show rdL g1 39 _ = _
                  rw [p3, if_neg (by omega)]
                  rfl
                · show rdL g1 62 _ = _
                  rw [p3, if_neg (by omega)]
                  rfl
          · refine al_.same (r := -1) hg0 ?_ ?_
            · simp (disch := omega) only [m_X9_row, m6_hasShelf, hsh, fa_lit, nI_nm1, nm1_nI, nI_nm1l, Nat.mul_comm _ 6, Nat.mul_comm _ 60, nI_ltI, nI_leI, nI_eq, nI_add, pk_mul, pk_sub, rm_nI, pk_div, nI_clamp, gdd_true, ix_nI, bdd_some, if_pos, if_neg, rI_wI, rI_wL, rL_wI, rL_wL, rI_cI, rI_cL, rL_cI, rL_cL, false_and, and_false, true_and, and_true, if_true, if_false, not_true_eq_false, not_false_eq_true, reduceCtorEq, zb_bz, bz_t, bz_f, Bool.true_eq_false, Bool.false_eq_true]
            · simp (disch := omega) only [m_X10_row, m10_isShelf, hsh, in_lt4, lt_n_nI, decide_eq_true, fa_lit, nI_nm1, nm1_nI, nI_nm1l, Nat.mul_comm _ 6, Nat.mul_comm _ 60, nI_ltI, nI_leI, nI_eq, nI_add, pk_mul, pk_sub, rm_nI, pk_div, nI_clamp, gdd_true, ix_nI, bdd_some, if_pos, if_neg, rI_wI, rI_wL, rL_wI, rL_wL, rI_cI, rI_cL, rL_cI, rL_cL, false_and, and_false, true_and, and_true, if_true, if_false, not_true_eq_false, not_false_eq_true, reduceCtorEq, zb_bz, bz_t, bz_f, Bool.true_eq_false, Bool.false_eq_true]
      · refine al_.same (r := -1) hg0 ?_ ?_
        · simp (disch := omega) only [m_X9_row, m6_hasShelf, hsh, fa_lit, nI_nm1, nm1_nI, nI_nm1l, Nat.mul_comm _ 6, Nat.mul_comm _ 60, nI_ltI, nI_leI, nI_eq, nI_add, pk_mul, pk_sub, rm_nI, pk_div, nI_clamp, gdd_true, ix_nI, bdd_some, if_pos, if_neg, rI_wI, rI_wL, rL_wI, rL_wL, rI_cI, rI_cL, rL_cI, rL_cL, false_and, and_false, true_and, and_true, if_true, if_false, not_true_eq_false, not_false_eq_true, reduceCtorEq, zb_bz, bz_t, bz_f, Bool.true_eq_false, Bool.false_eq_true]
        · simp (disch := omega) only [m_X10_row, m10_isShelf, hsh, in_lt4, lt_n_nI, decide_eq_false, fa_lit, nI_nm1, nm1_nI, nI_nm1l, Nat.mul_comm _ 6, Nat.mul_comm _ 60, nI_ltI, nI_leI, nI_eq, nI_add, pk_mul, pk_sub, rm_nI, pk_div, nI_clamp, gdd_true, ix_nI, bdd_some, if_pos, if_neg, rI_wI, rI_wL, rL_wI, rL_wL, rI_cI, rI_cL, rL_cI, rL_cL, false_and, and_false, true_and, and_true, if_true, if_false, not_true_eq_false, not_false_eq_true, reduceCtorEq, zb_bz, bz_t, bz_f, Bool.true_eq_false, Bool.false_eq_true]
/-- where element i of a shelf is: what both answer -/
theorem look_ok (a0 a1 : Int32) {g : Mm} {na : Nat} (hS : gv_s na g) : (∃ r : Nat, 1 ≤ r ∧ r ≤ 13 ∧ m_X6_refusalAt a0 a1 g = some (-nI r, g) ∧ m_X10_look a0 a1 g = some (-nI r, g)) ∨
    ∃ s t n i, s < 6 ∧ t < 5 ∧ n ≤ 60 ∧ i < n ∧ a0 = nI s ∧ a1 = nI i ∧ m_X6_refusalAt a0 a1 g = some (nI 0, g) ∧ m_X10_look a0 a1 g = some (nI 1, g) ∧ rdI g 36 s = nI t ∧ rdI g 60 s = nI t ∧ rdI g 38 s = nI n ∧ ∀ i, i < n → rdL g 62 (60 * s + i) = rdL g 39 (60 * s + i) := by
  cases hsh : lt_n a0 6 with
  | false =>
    refine Or.inl ⟨1, by decide, by decide, ?_, ?_⟩
    · simp only [m_X6_refusalAt, m6_hasShelf, hsh, bdd_some, bz_0, if_true]
      rfl
    · simp only [m_X10_look, m10_isShelf, hsh, bdd_some, bz_0, if_true]
      rfl
  | true =>
    obtain ⟨s, hs, rfl⟩ := lt_nI hsh (by decide)
    rcases hS s hs with ⟨b1, b2, b3⟩ | ⟨b, hb, b1, b2, b3, b4, b5⟩ | ⟨t, n, ht, hn, b1, b2, b3, b4, b5, b6⟩
    · refine Or.inl ⟨11, by decide, by decide, ?_, ?_⟩
      · simp (disch := omega) only [m_X6_refusalAt, m6_hasShelf, hsh, m_X6_isBare, b1, fa_lit, nI_nm1, nm1_nI, nI_nm1l, Nat.mul_comm _ 6, Nat.mul_comm _ 60, nI_ltI, nI_leI, nI_eq, nI_add, pk_mul, pk_sub, rm_nI, pk_div, nI_clamp, gdd_true, ix_nI, bdd_some, if_pos, if_neg, rI_wI, rI_wL, rL_wI, rL_wL, rI_cI, rI_cL, rL_cI, rL_cL, false_and, and_false, true_and, and_true, if_true, if_false, not_true_eq_false, not_false_eq_true, reduceCtorEq, zb_bz, bz_t, bz_f, Bool.true_eq_false, Bool.false_eq_true]
      · simp (disch := omega) only [m_X10_look, m10_isShelf, hsh, b2, fa_lit, nI_nm1, nm1_nI, nI_nm1l, Nat.mul_comm _ 6, Nat.mul_comm _ 60, nI_ltI, nI_leI, nI_eq, nI_add, pk_mul, pk_sub, rm_nI, pk_div, nI_clamp, gdd_true, ix_nI, bdd_some, if_pos, if_neg, rI_wI, rI_wL, rL_wI, rL_wL, rI_cI, rI_cL, rL_cI, rL_cL, false_and, and_false, true_and, and_true, if_true, if_false, not_true_eq_false, not_false_eq_true, reduceCtorEq, zb_bz, bz_t, bz_f, Bool.true_eq_false, Bool.false_eq_true]
    · refine Or.inl ⟨12, by decide, by decide, ?_, ?_⟩
      · simp (disch := omega) only [m_X6_refusalAt, m6_hasShelf, hsh, m_X6_isBare, m_X6_holdsARow, b1, fa_lit, nI_nm1, nm1_nI, nI_nm1l, Nat.mul_comm _ 6, Nat.mul_comm _ 60, nI_ltI, nI_leI, nI_eq, nI_add, pk_mul, pk_sub, rm_nI, pk_div, nI_clamp, gdd_true, ix_nI, bdd_some, if_pos, if_neg, rI_wI, rI_wL, rL_wI, rL_wL, rI_cI, rI_cL, rL_cI, rL_cL, false_and, and_false, true_and, and_true, if_true, if_false, not_true_eq_false, not_false_eq_true, reduceCtorEq, zb_bz, bz_t, bz_f, Bool.true_eq_false, Bool.false_eq_true]
      · simp (disch := omega) only [m_X10_look, m10_isShelf, hsh, b2, fa_lit, nI_nm1, nm1_nI, nI_nm1l, Nat.mul_comm _ 6, Nat.mul_comm _ 60, nI_ltI, nI_leI, nI_eq, nI_add, pk_mul, pk_sub, rm_nI, pk_div, nI_clamp, gdd_true, ix_nI, bdd_some, if_pos, if_neg, rI_wI, rI_wL, rL_wI, rL_wL, rI_cI, rI_cL, rL_cI, rL_cL, false_and, and_false, true_and, and_true, if_true, if_false, not_true_eq_false, not_false_eq_true, reduceCtorEq, zb_bz, bz_t, bz_f, Bool.true_eq_false, Bool.false_eq_true]
    · rcases i_cases a1 with h | ⟨i, hi, rfl⟩
      · refine Or.inl ⟨13, by decide, by decide, ?_, ?_⟩
        · simp (disch := omega) only [m_X6_refusalAt, m6_hasShelf, hsh, m_X6_isBare, m_X6_holdsARow, m_X6_hasPlace, neg_lt (k := 0) h (by decide), b1, fa_lit, nI_nm1, nm1_nI, nI_nm1l, Nat.mul_comm _ 6, Nat.mul_comm _ 60, nI_ltI, nI_leI, nI_eq, nI_add, pk_mul, pk_sub, rm_nI, pk_div, nI_clamp, gdd_true, ix_nI, bdd_some, if_pos, if_neg, rI_wI, rI_wL, rL_wI, rL_wL, rI_cI, rI_cL, rL_cI, rL_cL, false_and, and_false, true_and, and_true, if_true, if_false, not_true_eq_false, not_false_eq_true, reduceCtorEq, zb_bz, bz_t, bz_f, Bool.true_eq_false, Bool.false_eq_true]
        · simp (disch := omega) only [m_X10_look, m10_isShelf, hsh, b2, b5, in_ltn (show n < 2 ^ 31 by omega), lt_n_neg h, fa_lit, nI_nm1, nm1_nI, nI_nm1l, Nat.mul_comm _ 6, Nat.mul_comm _ 60, nI_ltI, nI_leI, nI_eq, nI_add, pk_mul, pk_sub, rm_nI, pk_div, nI_clamp, gdd_true, ix_nI, bdd_some, if_pos, if_neg, rI_wI, rI_wL, rL_wI, rL_wL, rI_cI, rI_cL, rL_cI, rL_cL, false_and, and_false, true_and, and_true, if_true, if_false, not_true_eq_false, not_false_eq_true, reduceCtorEq, zb_bz, bz_t, bz_f, Bool.true_eq_false, Bool.false_eq_true]
      · by_cases hin : i < n
        · refine Or.inr ⟨s, t, n, i, hs, ht, hn, hin, rfl, rfl, ?_, ?_, b1, b3, b4, b6⟩
          · simp (disch := omega) only [m_X6_refusalAt, m6_hasShelf, hsh, m_X6_isBare, m_X6_holdsARow, m_X6_hasPlace, b1, b4, fa_lit, nI_nm1, nm1_nI, nI_nm1l, Nat.mul_comm _ 6, Nat.mul_comm _ 60, nI_ltI, nI_leI, nI_eq, nI_add, pk_mul, pk_sub, rm_nI, pk_div, nI_clamp, gdd_true, ix_nI, bdd_some, if_pos, if_neg, rI_wI, rI_wL, rL_wI, rL_wL, rI_cI, rI_cL, rL_cI, rL_cL, false_and, and_false, true_and, and_true, if_true, if_false, not_true_eq_false, not_false_eq_true, reduceCtorEq, zb_bz, bz_t, bz_f, Bool.true_eq_false, Bool.false_eq_true]
          · simp (disch := omega) only [m_X10_look, m10_isShelf, hsh, b2, b5, in_le, lt_n_nI, decide_eq_true, fa_lit, nI_nm1, nm1_nI, nI_nm1l, Nat.mul_comm _ 6, Nat.mul_comm _ 60, nI_ltI, nI_leI, nI_eq, nI_add, pk_mul, pk_sub, rm_nI, pk_div, nI_clamp, gdd_true, ix_nI, bdd_some, if_pos, if_neg, rI_wI, rI_wL, rL_wI, rL_wL, rI_cI, rI_cL, rL_cI, rL_cL, false_and, and_false, true_and, and_true, if_true, if_false, not_true_eq_false, not_false_eq_true, reduceCtorEq, zb_bz, bz_t, bz_f, Bool.true_eq_false, Bool.false_eq_true]
        · refine Or.inl ⟨13, by decide, by decide, ?_, ?_⟩
          · simp (disch := omega) only [m_X6_refusalAt, m6_hasShelf, hsh, m_X6_isBare, m_X6_holdsARow, m_X6_hasPlace, b1, b4, fa_lit, nI_nm1, nm1_nI, nI_nm1l, Nat.mul_comm _ 6, Nat.mul_comm _ 60, nI_ltI, nI_leI, nI_eq, nI_add, pk_mul, pk_sub, rm_nI, pk_div, nI_clamp, gdd_true, ix_nI, bdd_some, if_pos, if_neg, rI_wI, rI_wL, rL_wI, rL_wL, rI_cI, rI_cL, rL_cI, rL_cL, false_and, and_false, true_and, and_true, if_true, if_false, not_true_eq_false, not_false_eq_true, reduceCtorEq, zb_bz, bz_t, bz_f, Bool.true_eq_false, Bool.false_eq_true]
          · rw [m_X10_look, m10_isShelf, hsh, bdd_some, if_neg (show ¬ bz true = 0 by decide), nI_clamp (by omega), b2, b5, ix_nI hs (by omega), gdd_true, if_pos (show nI 2 = 2 from rfl), gdd_true, in_lt (by omega), lt_n_nI hi, decide_eq_false hin, bdd_some, if_pos (show bz false = 0 from rfl)]
            rfl
theorem nn_eq {r k : Nat} (h1 : 1 ≤ r) (hr : r < 2 ^ 31) (hk : k < 2 ^ 31) : (-nI r = nI k) = False := by
  refine eq_false fun q => ?_
  have h := congrArg Int32.toInt q
  rw [nI_toInt hk, sb_negT hr] at h
  omega
theorem put_gv {s t n i : Nat} {w : Int64} {g : Mm} (hg : gv_ g) (hs : s < 6) (hi : i < n) (hn : n ≤ 60) (b1 : rdI g 36 s = nI t) (ht : t < 5) (b4 : rdI g 38 s = nI n) : gv_ (wrL (wrL g 39 (60 * s + i) w) 62 (60 * s + i) w) := by
  obtain ⟨nb, nh, hd, cd, ck, tl, rt, nn, na, ra, f, hT, hX, hC, hP, hL, hE, hA, hS⟩ := hg
  refine ⟨nb, nh, hd, cd, ck, tl, rt, nn, na, ra, f, hT.cong kp_rf, hX.cong kp_rf, hC.cong kp_rf, hP.cong kp_rf, hL.cong kp_rf, hE.cong kp_rf, hA.cong kp_rf, ?_⟩
  refine hS.upd (s := s) ?_ (fun _ _ _ _ => rfl) (fun j k hj hk => ?_)
  · rcases hS s hs with ⟨c1, -⟩ | ⟨b, -, c1, -⟩ | ⟨t', n', h1, h2, c1, c2, c3, c4, c5, c6⟩
    · rw [b1] at c1
      exact absurd c1 (fun q => (nI_nm1 (show t < 2 ^ 31 by omega)).mp q)
    · rw [b1, nI_eq (by omega) (by omega)] at c1
      omega
    · have e1 : t' = t := by rw [b1, nI_eq (by omega) (by omega)] at c1; exact c1.symm
      have e2 : n' = n := by rw [b4, nI_eq (by omega) (by omega)] at c4; exact c4.symm
      subst e1
      subst e2
      refine Or.inr (Or.inr ⟨t', n', h1, h2, c1, c2, c3, c4, c5, fun k hk => ?_⟩)
      rw [rL_wL, rL_wL, rL_wL, rL_wL, if_neg (by omega : ¬ (39 = 62 ∧ 60 * s + k = 60 * s + i)), if_neg (by omega : ¬ (62 = 39 ∧ 60 * s + k = 60 * s + i))]
      by_cases q : k = i
      · subst q
        rw [if_pos ⟨rfl, rfl⟩, if_pos ⟨rfl, rfl⟩]
      · rw [if_neg (by omega), if_neg (by omega)]
        exact c6 k hk
  · rw [rL_wL, rL_wL, rL_wL, rL_wL, if_neg (by omega), if_neg (by omega), if_neg (by omega), if_neg (by omega)]
    exact ⟨rfl, rfl⟩
set_option maxHeartbeats 1000000 in
theorem op_put (a0 a1 : Int32) (a2 : Int64) {g : Mm} (hg : gv_ g) : al_ (m_X9_put a0 a1 a2) (m_X10_put a0 a1 a2) g := by
  have hg0 := hg
  obtain ⟨nb, nh, hd, cd, ck, tl, rt, nn, na, ra, f, hT, hX, hC, hP, hL, hE, hA, hS⟩ := hg
  rcases look_ok a0 a1 hS with ⟨r, h1, h2, e1, e2⟩ | ⟨s, t, n, i, hs, ht, hn, hi, rfl, rfl, e1, e2, b1, b3, b4, b6⟩
  · refine al_.same (r := -nI r) hg0 ?_ ?_
    · simp (disch := omega) only [m_X9_put, e1, nn_eq, fa_lit, nI_nm1, nm1_nI, nI_nm1l, Nat.mul_comm _ 6, Nat.mul_comm _ 60, nI_ltI, nI_leI, nI_eq, nI_add, pk_mul, pk_sub, rm_nI, pk_div, nI_clamp, gdd_true, ix_nI, bdd_some, if_pos, if_neg, rI_wI, rI_wL, rL_wI, rL_wL, rI_cI, rI_cL, rL_cI, rL_cL, false_and, and_false, true_and, and_true, if_true, if_false, not_true_eq_false, not_false_eq_true, reduceCtorEq, zb_bz, bz_t, bz_f, Bool.true_eq_false, Bool.false_eq_true]
    · simp (disch := omega) only [m_X10_put, e2, nn_eq, fa_lit, nI_nm1, nm1_nI, nI_nm1l, Nat.mul_comm _ 6, Nat.mul_comm _ 60, nI_ltI, nI_leI, nI_eq, nI_add, pk_mul, pk_sub, rm_nI, pk_div, nI_clamp, gdd_true, ix_nI, bdd_some, if_pos, if_neg, rI_wI, rI_wL, rL_wI, rL_wL, rI_cI, rI_cL, rL_cI, rL_cL, false_and, and_false, true_and, and_true, if_true, if_false, not_true_eq_false, not_false_eq_true, reduceCtorEq, zb_bz, bz_t, bz_f, Bool.true_eq_false, Bool.false_eq_true]
  · have fin : ∀ w : Int64, m_X6_lowestBits (nI t) a2 g = some (w, g) → (∀ g', m_X10_look (nI s) (nI i) g' = some (nI 1, g') → rdI g' 60 s = nI t → m_X10_put (nI s) (nI i) a2 g' = some (nI 1, wrL g' 62 (60 * s + i) w)) → al_ (m_X9_put (nI s) (nI i) a2) (m_X10_put (nI s) (nI i) a2) g := by
      intro w hw hm
      refine ⟨nI 1, wrL g 39 (60 * s + i) w, wrL (wrL g 39 (60 * s + i) w) 62 (60 * s + i) w, ?_, ?_, put_gv hg0 hs hi hn b1 ht b4⟩
      · simp (disch := omega) only [m_X9_put, e1, m_X6_write, b1, hw, fa_lit, nI_nm1, nm1_nI, nI_nm1l, Nat.mul_comm _ 6, Nat.mul_comm _ 60, nI_ltI, nI_leI, nI_eq, nI_add, pk_mul, pk_sub, rm_nI, pk_div, nI_clamp, gdd_true, ix_nI, bdd_some, if_pos, if_neg, rI_wI, rI_wL, rL_wI, rL_wL, rI_cI, rI_cL, rL_cI, rL_cL, false_and, and_false, true_and, and_true, if_true, if_false, not_true_eq_false, not_false_eq_true, reduceCtorEq, zb_bz, bz_t, bz_f, Bool.true_eq_false, Bool.false_eq_true]
      · have hg1 : gv_s na (wrL g 39 (60 * s + i) w) ∨ True := Or.inr trivial
        refine hm _ ?_ b3
        have key : ∀ g' : Mm, (∀ c j, rdI g' c j = rdI g c j) → m_X10_look (nI s) (nI i) g' = some (nI 1, g') := by
          intro g' hg'
          rcases hS s hs with ⟨c1, -⟩ | ⟨b, -, c1, -⟩ | ⟨t', n', h1, h2, c1, c2, c3, c4, c5, c6⟩
          · rw [b1] at c1
            exact absurd c1 (fun q => (nI_nm1 (show t < 2 ^ 31 by omega)).mp q)
          · rw [b1, nI_eq (by omega) (by omega)] at c1
            omega
          · have e2 : n' = n := by rw [b4, nI_eq (by omega) (by omega)] at c4; exact c4.symm
            subst e2
            have hsh : lt_n (nI s) 6 = true := by rw [lt_n_nI (by omega)]; exact decide_eq_true hs
            simp (disch := omega) only [m_X10_look, m10_isShelf, hsh, hg', c2, c5, in_le, lt_n_nI, decide_eq_true, fa_lit, nI_nm1, nm1_nI, nI_nm1l, Nat.mul_comm _ 6, Nat.mul_comm _ 60, nI_ltI, nI_leI, nI_eq, nI_add, pk_mul, pk_sub, rm_nI, pk_div, nI_clamp, gdd_true, ix_nI, bdd_some, if_pos, if_neg, rI_wI, rI_wL, rL_wI, rL_wL, rI_cI, rI_cL, rL_cI, rL_cL, false_and, and_false, true_and, and_true, if_true, if_false, not_true_eq_false, not_false_eq_true, reduceCtorEq, zb_bz, bz_t, bz_f, Bool.true_eq_false, Bool.false_eq_true]
        exact key _ (fun _ _ => rfl)
    rcases (by omega : t = 0 ∨ t = 1 ∨ t = 2 ∨ t = 3 ∨ t = 4) with rfl | rfl | rfl | rfl | rfl
    · refine fin a2.toInt32.toInt8.toInt32.toInt64 ?_ (fun g' q1 q2 => ?_) <;> simp (disch := omega) only [m_X6_lowestBits, m_X10_put, *, fa_lit, nI_nm1, nm1_nI, nI_nm1l, Nat.mul_comm _ 6, Nat.mul_comm _ 60, nI_ltI, nI_leI, nI_eq, nI_add, pk_mul, pk_sub, rm_nI, pk_div, nI_clamp, gdd_true, ix_nI, bdd_some, if_pos, if_neg, rI_wI, rI_wL, rL_wI, rL_wL, rI_cI, rI_cL, rL_cI, rL_cL, false_and, and_false, true_and, and_true, if_true, if_false, not_true_eq_false, not_false_eq_true, reduceCtorEq, zb_bz, bz_t, bz_f, Bool.true_eq_false, Bool.false_eq_true]
    · refine fin a2.toInt32.toInt16.toInt32.toInt64 ?_ (fun g' q1 q2 => ?_) <;> simp (disch := omega) only [m_X6_lowestBits, m_X10_put, *, fa_lit, nI_nm1, nm1_nI, nI_nm1l, Nat.mul_comm _ 6, Nat.mul_comm _ 60, nI_ltI, nI_leI, nI_eq, nI_add, pk_mul, pk_sub, rm_nI, pk_div, nI_clamp, gdd_true, ix_nI, bdd_some, if_pos, if_neg, rI_wI, rI_wL, rL_wI, rL_wL, rI_cI, rI_cL, rL_cI, rL_cL, false_and, and_false, true_and, and_true, if_true, if_false, not_true_eq_false, not_false_eq_true, reduceCtorEq, zb_bz, bz_t, bz_f, Bool.true_eq_false, Bool.false_eq_true]
    · refine fin a2.toInt32.toInt64 ?_ (fun g' q1 q2 => ?_) <;> simp (disch := omega) only [m_X6_lowestBits, m_X10_put, *, fa_lit, nI_nm1, nm1_nI, nI_nm1l, Nat.mul_comm _ 6, Nat.mul_comm _ 60, nI_ltI, nI_leI, nI_eq, nI_add, pk_mul, pk_sub, rm_nI, pk_div, nI_clamp, gdd_true, ix_nI, bdd_some, if_pos, if_neg, rI_wI, rI_wL, rL_wI, rL_wL, rI_cI, rI_cL, rL_cI, rL_cL, false_and, and_false, true_and, and_true, if_true, if_false, not_true_eq_false, not_false_eq_true, reduceCtorEq, zb_bz, bz_t, bz_f, Bool.true_eq_false, Bool.false_eq_true]
    · refine fin a2 ?_ (fun g' q1 q2 => ?_) <;> simp (disch := omega) only [m_X6_lowestBits, m_X10_put, *, fa_lit, nI_nm1, nm1_nI, nI_nm1l, Nat.mul_comm _ 6, Nat.mul_comm _ 60, nI_ltI, nI_leI, nI_eq, nI_add, pk_mul, pk_sub, rm_nI, pk_div, nI_clamp, gdd_true, ix_nI, bdd_some, if_pos, if_neg, rI_wI, rI_wL, rL_wI, rL_wL, rI_cI, rI_cL, rL_cI, rL_cL, false_and, and_false, true_and, and_true, if_true, if_false, not_true_eq_false, not_false_eq_true, reduceCtorEq, zb_bz, bz_t, bz_f, Bool.true_eq_false, Bool.false_eq_true]
    · by_cases q : lg_cmp a2 (0 : Int64) = nI 0
      · refine fin 0 ?_ (fun g' q1 q2 => ?_) <;> simp (disch := omega) only [m_X6_lowestBits, m_X10_put, *, fa_lit, nI_nm1, nm1_nI, nI_nm1l, Nat.mul_comm _ 6, Nat.mul_comm _ 60, nI_ltI, nI_leI, nI_eq, nI_add, pk_mul, pk_sub, rm_nI, pk_div, nI_clamp, gdd_true, ix_nI, bdd_some, if_pos, if_neg, rI_wI, rI_wL, rL_wI, rL_wL, rI_cI, rI_cL, rL_cI, rL_cL, false_and, and_false, true_and, and_true, if_true, if_false, not_true_eq_false, not_false_eq_true, reduceCtorEq, zb_bz, bz_t, bz_f, Bool.true_eq_false, Bool.false_eq_true]
      · refine fin 1 ?_ (fun g' q1 q2 => ?_) <;> simp (disch := omega) only [m_X6_lowestBits, m_X10_put, *, fa_lit, nI_nm1, nm1_nI, nI_nm1l, Nat.mul_comm _ 6, Nat.mul_comm _ 60, nI_ltI, nI_leI, nI_eq, nI_add, pk_mul, pk_sub, rm_nI, pk_div, nI_clamp, gdd_true, ix_nI, bdd_some, if_pos, if_neg, rI_wI, rI_wL, rL_wI, rL_wL, rI_cI, rI_cL, rL_cI, rL_cL, false_and, and_false, true_and, and_true, if_true, if_false, not_true_eq_false, not_false_eq_true, reduceCtorEq, zb_bz, bz_t, bz_f, Bool.true_eq_false, Bool.false_eq_true]
theorem op_element (a0 a1 : Int32) {g : Mm} (hg : gv_ g) : al_ (m_X9_element a0 a1) (m_X10_element a0 a1) g := by
  have hg0 := hg
  obtain ⟨nb, nh, hd, cd, ck, tl, rt, nn, na, ra, f, hT, hX, hC, hP, hL, hE, hA, hS⟩ := hg
  rcases look_ok a0 a1 hS with ⟨r, h1, h2, e1, e2⟩ | ⟨s, t, n, i, hs, ht, hn, hi, rfl, rfl, e1, e2, b1, b3, b4, b6⟩
  · refine al_.same (r := -9223372036854775808) hg0 ?_ ?_
    · simp (disch := omega) only [m_X9_element, e1, nn_eq, fa_lit, nI_nm1, nm1_nI, nI_nm1l, Nat.mul_comm _ 6, Nat.mul_comm _ 60, nI_ltI, nI_leI, nI_eq, nI_add, pk_mul, pk_sub, rm_nI, pk_div, nI_clamp, gdd_true, ix_nI, bdd_some, if_pos, if_neg, rI_wI, rI_wL, rL_wI, rL_wL, rI_cI, rI_cL, rL_cI, rL_cL, false_and, and_false, true_and, and_true, if_true, if_false, not_true_eq_false, not_false_eq_true, reduceCtorEq, zb_bz, bz_t, bz_f, Bool.true_eq_false, Bool.false_eq_true]
    · simp (disch := omega) only [m_X10_element, e2, nn_eq, fa_lit, nI_nm1, nm1_nI, nI_nm1l, Nat.mul_comm _ 6, Nat.mul_comm _ 60, nI_ltI, nI_leI, nI_eq, nI_add, pk_mul, pk_sub, rm_nI, pk_div, nI_clamp, gdd_true, ix_nI, bdd_some, if_pos, if_neg, rI_wI, rI_wL, rL_wI, rL_wL, rI_cI, rI_cL, rL_cI, rL_cL, false_and, and_false, true_and, and_true, if_true, if_false, not_true_eq_false, not_false_eq_true, reduceCtorEq, zb_bz, bz_t, bz_f, Bool.true_eq_false, Bool.false_eq_true]
  · refine al_.same (r := rdL g 39 (60 * s + i)) hg0 ?_ ?_
    · simp (disch := omega) only [m_X9_element, e1, m_X6_at, fa_lit, nI_nm1, nm1_nI, nI_nm1l, Nat.mul_comm _ 6, Nat.mul_comm _ 60, nI_ltI, nI_leI, nI_eq, nI_add, pk_mul, pk_sub, rm_nI, pk_div, nI_clamp, gdd_true, ix_nI, bdd_some, if_pos, if_neg, rI_wI, rI_wL, rL_wI, rL_wL, rI_cI, rI_cL, rL_cI, rL_cL, false_and, and_false, true_and, and_true, if_true, if_false, not_true_eq_false, not_false_eq_true, reduceCtorEq, zb_bz, bz_t, bz_f, Bool.true_eq_false, Bool.false_eq_true]
    · simp (disch := omega) only [m_X10_element, e2, fa_lit, nI_nm1, nm1_nI, nI_nm1l, Nat.mul_comm _ 6, Nat.mul_comm _ 60, nI_ltI, nI_leI, nI_eq, nI_add, pk_mul, pk_sub, rm_nI, pk_div, nI_clamp, gdd_true, ix_nI, bdd_some, if_pos, if_neg, rI_wI, rI_wL, rL_wI, rL_wL, rI_cI, rI_cL, rL_cI, rL_cL, false_and, and_false, true_and, and_true, if_true, if_false, not_true_eq_false, not_false_eq_true, reduceCtorEq, zb_bz, bz_t, bz_f, Bool.true_eq_false, Bool.false_eq_true, b6 i hi]
theorem op_trace (a0 : Int32) {g : Mm} (hg : gv_ g) : al_ (m_X9_trace a0) (m_X10_trace a0) g := by
  have hg0 := hg
  obtain ⟨nb, nh, hd, cd, ck, tl, rt, nn, na, ra, f, hT, hX, hC, hP, hL, hE, hA, hS⟩ := hg
  obtain ⟨⟨hna, hra⟩, ⟨e1, e2, e3, e4⟩, e5, e6⟩ := id hA
  rcases i_cases a0 with h | ⟨k, hk, rfl⟩
  · refine al_.same (r := -1) hg0 ?_ ?_
    · rw [m_X9_trace, if_pos (neg_lt0 h)]
    · by_cases q : 24 ≤ ra
      · simp (disch := omega) only [m_X10_trace, m_X10_trace_21, e4, in_le, lt_n_neg h, fa_lit, nI_nm1, nm1_nI, nI_nm1l, Nat.mul_comm _ 6, Nat.mul_comm _ 60, nI_ltI, nI_leI, nI_eq, nI_add, pk_mul, pk_sub, rm_nI, pk_div, nI_clamp, gdd_true, ix_nI, bdd_some, if_pos, if_neg, rI_wI, rI_wL, rL_wI, rL_wL, rI_cI, rI_cL, rL_cI, rL_cL, false_and, and_false, true_and, and_true, if_true, if_false, not_true_eq_false, not_false_eq_true, reduceCtorEq, zb_bz, bz_t, bz_f, Bool.true_eq_false, Bool.false_eq_true]
      · by_cases q0 : ra = 0
        · subst q0
          simp (disch := omega) only [m_X10_trace, m_X10_trace_21, e4, in_ltn, lt_n_neg h, fa_lit, nI_nm1, nm1_nI, nI_nm1l, Nat.mul_comm _ 6, Nat.mul_comm _ 60, nI_ltI, nI_leI, nI_eq, nI_add, pk_mul, pk_sub, rm_nI, pk_div, nI_clamp, gdd_true, ix_nI, bdd_some, if_pos, if_neg, rI_wI, rI_wL, rL_wI, rL_wL, rI_cI, rI_cL, rL_cI, rL_cL, false_and, and_false, true_and, and_true, if_true, if_false, not_true_eq_false, not_false_eq_true, reduceCtorEq, zb_bz, bz_t, bz_f, Bool.true_eq_false, Bool.false_eq_true]
        · simp (disch := omega) only [m_X10_trace, m_X10_trace_21, e4, in_le, lt_n_neg h, fa_lit, nI_nm1, nm1_nI, nI_nm1l, Nat.mul_comm _ 6, Nat.mul_comm _ 60, nI_ltI, nI_leI, nI_eq, nI_add, pk_mul, pk_sub, rm_nI, pk_div, nI_clamp, gdd_true, ix_nI, bdd_some, if_pos, if_neg, rI_wI, rI_wL, rL_wI, rL_wL, rI_cI, rI_cL, rL_cI, rL_cL, false_and, and_false, true_and, and_true, if_true, if_false, not_true_eq_false, not_false_eq_true, reduceCtorEq, zb_bz, bz_t, bz_f, Bool.true_eq_false, Bool.false_eq_true]
  · by_cases q : 24 ≤ ra
    · by_cases q2 : k < 24
      · refine al_.same (r := rdI g 34 k) hg0 ?_ ?_
        · by_cases q3 : ra = 24
          · subst q3
            simp (disch := omega) only [m_X9_trace, m_X0_tracesKept, m_J9_min_7cf53, e3, fa_lit, nI_nm1, nm1_nI, nI_nm1l, Nat.mul_comm _ 6, Nat.mul_comm _ 60, nI_ltI, nI_leI, nI_eq, nI_add, pk_mul, pk_sub, rm_nI, pk_div, nI_clamp, gdd_true, ix_nI, bdd_some, if_pos, if_neg, rI_wI, rI_wL, rL_wI, rL_wL, rI_cI, rI_cL, rL_cI, rL_cL, false_and, and_false, true_and, and_true, if_true, if_false, not_true_eq_false, not_false_eq_true, reduceCtorEq, zb_bz, bz_t, bz_f, Bool.true_eq_false, Bool.false_eq_true]
          · simp (disch := omega) only [m_X9_trace, m_X0_tracesKept, m_J9_min_7cf53, e3, fa_lit, nI_nm1, nm1_nI, nI_nm1l, Nat.mul_comm _ 6, Nat.mul_comm _ 60, nI_ltI, nI_leI, nI_eq, nI_add, pk_mul, pk_sub, rm_nI, pk_div, nI_clamp, gdd_true, ix_nI, bdd_some, if_pos, if_neg, rI_wI, rI_wL, rL_wI, rL_wL, rI_cI, rI_cL, rL_cI, rL_cL, false_and, and_false, true_and, and_true, if_true, if_false, not_true_eq_false, not_false_eq_true, reduceCtorEq, zb_bz, bz_t, bz_f, Bool.true_eq_false, Bool.false_eq_true]
        · simp (disch := omega) only [m_X10_trace, m_X10_trace_21, e4, in_le, lt_n_nI, decide_eq_true, fa_lit, nI_nm1, nm1_nI, nI_nm1l, Nat.mul_comm _ 6, Nat.mul_comm _ 60, nI_ltI, nI_leI, nI_eq, nI_add, pk_mul, pk_sub, rm_nI, pk_div, nI_clamp, gdd_true, ix_nI, bdd_some, if_pos, if_neg, rI_wI, rI_wL, rL_wI, rL_wL, rI_cI, rI_cL, rL_cI, rL_cL, false_and, and_false, true_and, and_true, if_true, if_false, not_true_eq_false, not_false_eq_true, reduceCtorEq, zb_bz, bz_t, bz_f, Bool.true_eq_false, Bool.false_eq_true, e6 k (by omega) q2]
      · refine al_.same (r := -1) hg0 ?_ ?_
        · by_cases q3 : ra = 24
          · subst q3
            simp (disch := omega) only [m_X9_trace, m_X0_tracesKept, m_J9_min_7cf53, e3, fa_lit, nI_nm1, nm1_nI, nI_nm1l, Nat.mul_comm _ 6, Nat.mul_comm _ 60, nI_ltI, nI_leI, nI_eq, nI_add, pk_mul, pk_sub, rm_nI, pk_div, nI_clamp, gdd_true, ix_nI, bdd_some, if_pos, if_neg, rI_wI, rI_wL, rL_wI, rL_wL, rI_cI, rI_cL, rL_cI, rL_cL, false_and, and_false, true_and, and_true, if_true, if_false, not_true_eq_false, not_false_eq_true, reduceCtorEq, zb_bz, bz_t, bz_f, Bool.true_eq_false, Bool.false_eq_true]
          · simp (disch := omega) only [m_X9_trace, m_X0_tracesKept, m_J9_min_7cf53, e3, fa_lit, nI_nm1, nm1_nI, nI_nm1l, Nat.mul_comm _ 6, Nat.mul_comm _ 60, nI_ltI, nI_leI, nI_eq, nI_add, pk_mul, pk_sub, rm_nI, pk_div, nI_clamp, gdd_true, ix_nI, bdd_some, if_pos, if_neg, rI_wI, rI_wL, rL_wI, rL_wL, rI_cI, rI_cL, rL_cI, rL_cL, false_and, and_false, true_and, and_true, if_true, if_false, not_true_eq_false, not_false_eq_true, reduceCtorEq, zb_bz, bz_t, bz_f, Bool.true_eq_false, Bool.false_eq_true]
        · simp (disch := omega) only [m_X10_trace, m_X10_trace_21, e4, in_le, lt_n_nI, decide_eq_false, fa_lit, nI_nm1, nm1_nI, nI_nm1l, Nat.mul_comm _ 6, Nat.mul_comm _ 60, nI_ltI, nI_leI, nI_eq, nI_add, pk_mul, pk_sub, rm_nI, pk_div, nI_clamp, gdd_true, ix_nI, bdd_some, if_pos, if_neg, rI_wI, rI_wL, rL_wI, rL_wL, rI_cI, rI_cL, rL_cI, rL_cL, false_and, and_false, true_and, and_true, if_true, if_false, not_true_eq_false, not_false_eq_true, reduceCtorEq, zb_bz, bz_t, bz_f, Bool.true_eq_false, Bool.false_eq_true]
    · by_cases q2 : k < ra
      · refine al_.same (r := rdI g 34 k) hg0 ?_ ?_
        · simp (disch := omega) only [m_X9_trace, m_X0_tracesKept, m_J9_min_7cf53, e3, fa_lit, nI_nm1, nm1_nI, nI_nm1l, Nat.mul_comm _ 6, Nat.mul_comm _ 60, nI_ltI, nI_leI, nI_eq, nI_add, pk_mul, pk_sub, rm_nI, pk_div, nI_clamp, gdd_true, ix_nI, bdd_some, if_pos, if_neg, rI_wI, rI_wL, rL_wI, rL_wL, rI_cI, rI_cL, rL_cI, rL_cL, false_and, and_false, true_and, and_true, if_true, if_false, not_true_eq_false, not_false_eq_true, reduceCtorEq, zb_bz, bz_t, bz_f, Bool.true_eq_false, Bool.false_eq_true]
        · simp (disch := omega) only [m_X10_trace, m_X10_trace_21, e4, in_le, lt_n_nI, decide_eq_true, fa_lit, nI_nm1, nm1_nI, nI_nm1l, Nat.mul_comm _ 6, Nat.mul_comm _ 60, nI_ltI, nI_leI, nI_eq, nI_add, pk_mul, pk_sub, rm_nI, pk_div, nI_clamp, gdd_true, ix_nI, bdd_some, if_pos, if_neg, rI_wI, rI_wL, rL_wI, rL_wL, rI_cI, rI_cL, rL_cI, rL_cL, false_and, and_false, true_and, and_true, if_true, if_false, not_true_eq_false, not_false_eq_true, reduceCtorEq, zb_bz, bz_t, bz_f, Bool.true_eq_false, Bool.false_eq_true, e6 k (by omega) (by omega)]
      · refine al_.same (r := -1) hg0 ?_ ?_
        · simp (disch := omega) only [m_X9_trace, m_X0_tracesKept, m_J9_min_7cf53, e3, fa_lit, nI_nm1, nm1_nI, nI_nm1l, Nat.mul_comm _ 6, Nat.mul_comm _ 60, nI_ltI, nI_leI, nI_eq, nI_add, pk_mul, pk_sub, rm_nI, pk_div, nI_clamp, gdd_true, ix_nI, bdd_some, if_pos, if_neg, rI_wI, rI_wL, rL_wI, rL_wL, rI_cI, rI_cL, rL_cI, rL_cL, false_and, and_false, true_and, and_true, if_true, if_false, not_true_eq_false, not_false_eq_true, reduceCtorEq, zb_bz, bz_t, bz_f, Bool.true_eq_false, Bool.false_eq_true]
        · by_cases q0 : ra = 0
          · subst q0
            simp (disch := omega) only [m_X10_trace, m_X10_trace_21, e4, in_ltn, lt_n_nI, decide_eq_false, fa_lit, nI_nm1, nm1_nI, nI_nm1l, Nat.mul_comm _ 6, Nat.mul_comm _ 60, nI_ltI, nI_leI, nI_eq, nI_add, pk_mul, pk_sub, rm_nI, pk_div, nI_clamp, gdd_true, ix_nI, bdd_some, if_pos, if_neg, rI_wI, rI_wL, rL_wI, rL_wL, rI_cI, rI_cL, rL_cI, rL_cL, false_and, and_false, true_and, and_true, if_true, if_false, not_true_eq_false, not_false_eq_true, reduceCtorEq, zb_bz, bz_t, bz_f, Bool.true_eq_false, Bool.false_eq_true]
          · simp (disch := omega) only [m_X10_trace, m_X10_trace_21, e4, in_le, lt_n_nI, decide_eq_false, fa_lit, nI_nm1, nm1_nI, nI_nm1l, Nat.mul_comm _ 6, Nat.mul_comm _ 60, nI_ltI, nI_leI, nI_eq, nI_add, pk_mul, pk_sub, rm_nI, pk_div, nI_clamp, gdd_true, ix_nI, bdd_some, if_pos, if_neg, rI_wI, rI_wL, rL_wI, rL_wL, rI_cI, rI_cL, rL_cI, rL_cL, false_and, and_false, true_and, and_true, if_true, if_false, not_true_eq_false, not_false_eq_true, reduceCtorEq, zb_bz, bz_t, bz_f, Bool.true_eq_false, Bool.false_eq_true]
