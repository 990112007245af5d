theorem al_step {X Y : Mm → Option (Int32 × Mm)} {F : Mm → Option (Int32 × Mm)} {g : Mm} (h : al_ X Y g) (K : ∀ g2, gv_ g2 → ∃ ge, F g2 = some ((1 : Int32), ge)) : ∃ ge, bdd (X g) (fun r g1 => bdd (Y g1) (fun q g2 => if r = q then F g2 else some ((0 : Int32), g2))) = some ((1 : Int32), ge) := by
  obtain ⟨r, g1, g2, h1, h2, h3⟩ := h
  obtain ⟨ge, h4⟩ := K g2 h3
  refine ⟨ge, ?_⟩
  rw [h1, bdd_some, h2, bdd_some, if_pos rfl, h4]
theorem al_stepL {X Y : Mm → Option (Int64 × Mm)} {F : Mm → Option (Int32 × Mm)} {g : Mm} (h : al_ X Y g) (K : ∀ g2, gv_ g2 → ∃ ge, F g2 = some ((1 : Int32), ge)) : ∃ ge, bdd (X g) (fun r g1 => bdd (Y g1) (fun q g2 => if lg_cmp r q = (0 : Int32) then F g2 else some ((0 : Int32), g2))) = some ((1 : Int32), ge) := by
  obtain ⟨r, g1, g2, h1, h2, h3⟩ := h
  obtain ⟨ge, h4⟩ := K g2 h3
  refine ⟨ge, ?_⟩
  rw [h1, bdd_some, h2, bdd_some, if_pos ((cmp_eq r r).mpr rfl), h4]
set_option maxHeartbeats 8000000 in
theorem run_law {L : Nat} (hL : L ≤ 3072) (xs : Nat → Int32) : ∀ (n k : Nat) (g : Mm), gv_ g → k ≤ L → L < k + 6 * n → ∃ ge, m_L_law_18 xs L n (nI k) g = some ((1 : Int32), ge) := by
  intro n
  induction n with
  | zero => intro k g _ h1 h2; omega
  | succ n ih =>
    intro k g hg hk hn
    rw [m_L_law_18]
    have t1 : ((Int32.ofNat L) - (6 : Int32)).toInt = (L : Int) - 6 := by
      have e0 : (Int32.ofNat L).toInt = (L : Int) := nI_toInt (by omega)
      have e6 : ((6 : Int32)).toInt = 6 := rfl
      rw [ti_sub (by omega) (by omega)]
      omega
    by_cases hend : ((Int32.ofNat L) - (6 : Int32)) < nI k
    · exact ⟨g, by rw [if_pos hend]⟩
    · rw [if_neg hend]
      rw [fa_lt, t1, nI_toInt (by omega)] at hend
      have x0 : ixo (nI k) L = true := ix_nI (by omega) (by omega)
      have p1 : nI k + (1 : Int32) = nI (k + 1) := nI_add k 1
      have p2 : nI k + (2 : Int32) = nI (k + 2) := nI_add k 2
      have p3 : nI k + (3 : Int32) = nI (k + 3) := nI_add k 3
      have p4 : nI k + (4 : Int32) = nI (k + 4) := nI_add k 4
      have p5 : nI k + (5 : Int32) = nI (k + 5) := nI_add k 5
      have p6 : nI k + (6 : Int32) = nI (k + 6) := nI_add k 6
      have x1 : ixo (nI (k + 1)) L = true := ix_nI (by omega) (by omega)
      have x2 : ixo (nI (k + 2)) L = true := ix_nI (by omega) (by omega)
      have x3 : ixo (nI (k + 3)) L = true := ix_nI (by omega) (by omega)
      have x4 : ixo (nI (k + 4)) L = true := ix_nI (by omega) (by omega)
      have x5 : ixo (nI (k + 5)) L = true := ix_nI (by omega) (by omega)
      have K : ∀ g2, gv_ g2 → ∃ ge, m_L_law_18 xs L n (nI (k + 6)) g2 = some ((1 : Int32), ge) := fun g2 h2 => ih (k + 6) g2 h2 (by omega) (by omega)
      simp only [p1, p2, p3, p4, p5, p6, x0, x1, x2, x3, x4, x5, gdd_true]
      generalize hop : (xs (nI k).toNatClampNeg &&& (63 : Int32)) = op
      by_cases q0 : op = (0 : Int32)
      · rw [if_pos q0]
        exact al_step (op_bell _ _ hg) K
      rw [if_neg q0]
      by_cases q1 : op = (1 : Int32)
      · rw [if_pos q1]
        exact al_step (op_set _ _ hg) K
      rw [if_neg q1]
      by_cases q2 : op = (2 : Int32)
      · rw [if_pos q2]
        exact al_step (op_strike _ _ hg) K
      rw [if_neg q2]
      by_cases q3 : op = (3 : Int32)
      · rw [if_pos q3]
        exact al_step (op_strikes _ _ _ _ hg) K
      rw [if_neg q3]
      by_cases q4 : op = (4 : Int32)
      · rw [if_pos q4]
        exact al_step (op_most _ _ hg) K
      rw [if_neg q4]
      by_cases q5 : op = (5 : Int32)
      · rw [if_pos q5]
        exact al_step (op_mix _ _ hg) K
      rw [if_neg q5]
      by_cases q6 : op = (6 : Int32)
      · rw [if_pos q6]
        exact al_step (op_feed _ hg) K
      rw [if_neg q6]
      by_cases q7 : op = (7 : Int32)
      · rw [if_pos q7]
        exact al_step (op_law hg) K
      rw [if_neg q7]
      by_cases q8 : op = (8 : Int32)
      · rw [if_pos q8]
        exact al_step (op_lay hg) K
      rw [if_neg q8]
      by_cases q9 : op = (9 : Int32)
      · rw [if_pos q9]
        exact al_step (op_line _ _ hg) K
      rw [if_neg q9]
      by_cases q10 : op = (10 : Int32)
      · rw [if_pos q10]
        exact al_step (op_sum _ _ hg) K
      rw [if_neg q10]
      by_cases q11 : op = (11 : Int32)
      · rw [if_pos q11]
        exact al_step (op_of _ _ hg) K
      rw [if_neg q11]
      by_cases q12 : op = (12 : Int32)
      · rw [if_pos q12]
        exact al_step (op_tells _ hg) K
      rw [if_neg q12]
      by_cases q13 : op = (13 : Int32)
      · rw [if_pos q13]
        exact al_step (op_gap _ hg) K
      rw [if_neg q13]
      by_cases q14 : op = (14 : Int32)
      · rw [if_pos q14]
        exact al_step (op_bears hg) K
      rw [if_neg q14]
      by_cases q15 : op = (15 : Int32)
      · rw [if_pos q15]
        exact al_step (op_hear _ hg) K
      rw [if_neg q15]
      by_cases q16 : op = (16 : Int32)
      · rw [if_pos q16]
        exact al_step (op_which hg) K
      rw [if_neg q16]
      by_cases q17 : op = (17 : Int32)
      · rw [if_pos q17]
        exact al_step (op_alone _ _ hg) K
      rw [if_neg q17]
      by_cases q18 : op = (18 : Int32)
      · rw [if_pos q18]
        exact al_step (op_strokes _ hg) K
      rw [if_neg q18]
      by_cases q19 : op = (19 : Int32)
      · rw [if_pos q19]
        exact al_step (op_kept hg) K
      rw [if_neg q19]
      by_cases q20 : op = (20 : Int32)
      · rw [if_pos q20]
        exact al_stepL (op_odds _ _ hg) K
      rw [if_neg q20]
      by_cases q21 : op = (21 : Int32)
      · rw [if_pos q21]
        exact al_step (op_least _ hg) K
      rw [if_neg q21]
      by_cases q22 : op = (22 : Int32)
      · rw [if_pos q22]
        exact al_step (op_greedy _ hg) K
      rw [if_neg q22]
      by_cases q23 : op = (23 : Int32)
      · rw [if_pos q23]
        exact al_step (op_alarm _ hg) K
      rw [if_neg q23]
      by_cases q24 : op = (24 : Int32)
      · rw [if_pos q24]
        exact al_step (op_night _ hg) K
      rw [if_neg q24]
      by_cases q25 : op = (25 : Int32)
      · rw [if_pos q25]
        exact al_step (op_begins _ hg) K
      rw [if_neg q25]
      by_cases q26 : op = (26 : Int32)
      · rw [if_pos q26]
        exact al_step (op_rest hg) K
      rw [if_neg q26]
      by_cases q27 : op = (27 : Int32)
      · rw [if_pos q27]
        exact al_step (op_undo hg) K
      rw [if_neg q27]
      by_cases q28 : op = (28 : Int32)
      · rw [if_pos q28]
        exact al_step (op_redo hg) K
      rw [if_neg q28]
      by_cases q29 : op = (29 : Int32)
      · rw [if_pos q29]
        exact al_step (op_body _ hg) K
      rw [if_neg q29]
      by_cases q30 : op = (30 : Int32)
      · rw [if_pos q30]
        exact al_step (op_act _ _ _ hg) K
      rw [if_neg q30]
      by_cases q31 : op = (31 : Int32)
      · rw [if_pos q31]
        exact al_step (op_trace _ hg) K
      rw [if_neg q31]
      by_cases q32 : op = (32 : Int32)
      · rw [if_pos q32]
        exact al_step (op_keep _ _ hg) K
      rw [if_neg q32]
      by_cases q33 : op = (33 : Int32)
      · rw [if_pos q33]
        exact al_step (op_row _ _ _ hg) K
      rw [if_neg q33]
      by_cases q34 : op = (34 : Int32)
      · rw [if_pos q34]
        exact al_step (op_put _ _ _ hg) K
      rw [if_neg q34]
      by_cases q35 : op = (35 : Int32)
      · rw [if_pos q35]
        exact al_stepL (op_element _ _ hg) K
      rw [if_neg q35]
      by_cases q36 : op = (36 : Int32)
      · rw [if_pos q36]
        exact al_step (op_shift _ _ _ _ _ hg) K
      rw [if_neg q36]
      by_cases q37 : op = (37 : Int32)
      · rw [if_pos q37]
        exact al_step (op_taken _ _ hg) K
      rw [if_neg q37]
      by_cases q38 : op = (38 : Int32)
      · rw [if_pos q38]
        exact al_step (op_count _ hg) K
      rw [if_neg q38]
      exact K g hg
