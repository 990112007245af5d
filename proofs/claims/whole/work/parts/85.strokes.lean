/-! strokes -/
theorem sm_add (f h : Nat → Nat) (n : Nat) : sm (fun i => f i + h i) n = sm f n + sm h n := by
  induction n with
  | zero => rfl
  | succ n ih => rw [sm, sm, sm, ih]; omega
theorem sm_zero (n : Nat) : sm (fun _ => 0) n = 0 := by
  induction n with
  | zero => rfl
  | succ n ih => rw [sm, ih]
theorem sm_swap (T : Nat → Nat → Nat) (n m : Nat) : sm (fun b => sm (fun h => T h b) n) m = sm (fun h => sm (fun b => T h b) m) n := by
  induction m with
  | zero => exact (sm_zero n).symm
  | succ m ih =>
    rw [sm, ih]
    exact (sm_add (fun h => sm (fun b => T h b) m) (fun h => T h m) n).symm
theorem sm_more {f : Nat → Nat} {n m : Nat} (h : n ≤ m) (hz : ∀ i, n ≤ i → i < m → f i = 0) : sm f m = sm f n := by
  induction m with
  | zero => rw [show n = 0 by omega]
  | succ m ih =>
    by_cases q : n = m + 1
    · rw [q]
    · rw [sm, ih (by omega) (fun i h1 h2 => hz i h1 (by omega)), hz m (by omega) (by omega), Nat.add_zero]
theorem sm_rows (f : Nat → Nat) (n : Nat) : sm f (6 * n) = sm (fun h => sm (fun b => f (6 * h + b)) 6) n := by
  induction n with
  | zero => rfl
  | succ n ih =>
    rw [show 6 * (n + 1) = 6 * n + 6 by omega]
    simp only [sm, ih]
    simp only [Nat.add_zero, Nat.zero_add]
    omega
/-- the first of the greatest -/
def am (f : Nat → Nat) : Nat → Nat
  | 0 => 0
  | n + 1 => if f n ≤ f (am f n) then am f n else n
theorem am_lt (f : Nat → Nat) {n : Nat} (h : 0 < n) : am f n < n := by
  induction n with
  | zero => omega
  | succ n ih =>
    rw [am]
    split
    · by_cases q : n = 0
      · subst q; rw [am]; omega
      · have := ih (by omega); omega
    · omega
theorem am_1 (f : Nat → Nat) : am f 1 = 0 := by
  rw [am, am]
  exact if_pos (Nat.le_refl _)
def hs_ (g : Mm) (nb h : Nat) : Nat := sm (fun b => tv g h b) nb
def bs_ (g : Mm) (nh b : Nat) : Nat := sm (fun h => tv g h b) nh
theorem hour_sum {nb nh hd h : Nat} {g : Mm} (hT : gv_t nb nh hd g) (hh : h < 24) : m_X8_totalOfHour (nI h) g = some (nI (hs_ g nb h), g) := by
  obtain ⟨⟨b1, b2, b3, b4, b5⟩, ⟨t1, t2, t3, t4, t5, t6⟩, -⟩ := id hT
  have key : ∀ (fu i : Nat), nb < i + fu → i ≤ nb → m_X8_totalOfHour_4 fu (nI h) (nI (hs_ g i h)) (nI i) g = some (nI (hs_ g nb h), g) := by
    intro fu
    induction fu with
    | zero => intro i h1 h2; omega
    | succ fu ih =>
      intro i h1 h2
      rw [m_X8_totalOfHour_4, t1]
      by_cases q : i = nb
      · subst q
        rw [if_pos (by rw [nI_leI (by omega) (by omega)]; omega)]
      · rw [if_neg (by rw [nI_leI (by omega) (by omega)]; omega), m8_struck hh (by omega), bdd_some, (tv_get hT hh (by omega)).1, nI_add, nI_1]
        exact ih (i + 1) (by omega) (by omega)
  obtain ⟨F, eF, hF⟩ := fu_get
  rw [m_X8_totalOfHour, eF]
  exact key F 0 (by omega) (by omega)
theorem hour_sumM {nb nh hd h : Nat} {g : Mm} (hT : gv_t nb nh hd g) (hh : h < 24) : m_X10_strokesOf (nI h) g = some (nI (hs_ g nb h), g) := by
  obtain ⟨⟨b1, b2, b3, b4, b5⟩, ⟨t1, t2, t3, t4, t5, t6⟩, -⟩ := id hT
  have key : ∀ (fu i : Nat), nb < i + fu → i ≤ nb → m_X10_strokesOf_4 fu (nI h) (nI (hs_ g i h)) (nI i) g = some (nI (hs_ g nb h), g) := by
    intro fu
    induction fu with
    | zero => intro i h1 h2; omega
    | succ fu ih =>
      intro i h1 h2
      rw [m_X10_strokesOf_4, t4]
      by_cases q : i = nb
      · subst q
        rw [if_pos (by rw [nI_leI (by omega) (by omega)]; omega)]
      · have hix : (6 : Int32) * nI h + nI i = nI (6 * h + i) := by
          rw [show (6 : Int32) = nI 6 from rfl, pk_mul, nI_add]
        rw [if_neg (by rw [nI_leI (by omega) (by omega)]; omega), hix, ix_nI (by omega) (by omega), gdd_true, nI_clamp (by omega), lti, (tv_get hT hh (by omega)).2.1, nI_add, nI_1]
        exact ih (i + 1) (by omega) (by omega)
  obtain ⟨F, eF, hF⟩ := fu_get
  rw [m_X10_strokesOf, eF]
  exact key F 0 (by omega) (by omega)
theorem hs_le {nb nh hd h : Nat} {g : Mm} (hT : gv_t nb nh hd g) (hh : h < 24) : hs_ g nb h ≤ 90 := by
  obtain ⟨⟨b1, -⟩, -⟩ := id hT
  have h1 : hs_ g nb h ≤ nb * 15 := sm_le (fun b hb => (tv_get hT hh (by omega)).2.2)
  omega
theorem bs_le {nb nh hd b : Nat} {g : Mm} (hT : gv_t nb nh hd g) (hb : b < 6) : bs_ g nh b ≤ 360 := by
  obtain ⟨⟨b1, b2, b3, -⟩, -⟩ := id hT
  have h1 : bs_ g nh b ≤ nh * 15 := sm_le (fun h hh => (tv_get hT (by omega) hb).2.2)
  omega
theorem bs_c {nb nh hd b : Nat} {g : Mm} (hT : gv_t nb nh hd g) (hb : b < 6) : m_X8_totalOfBell (nI b) g = some (nI (bs_ g nh b), g) := by
  obtain ⟨⟨b1, b2, b3, b4, b5⟩, ⟨t1, t2, t3, t4, t5, t6⟩, -⟩ := id hT
  exact bell_sum t2 b3 hb (fun h hh => (tv_get hT (by omega) hb).1)
theorem bs_m {nb nh hd b : Nat} {g : Mm} (hT : gv_t nb nh hd g) (hb : b < 6) : m_X10_sumOf (nI b) g = some (nI (bs_ g nh b), g) := by
  obtain ⟨⟨b1, b2, b3, b4, b5⟩, ⟨t1, t2, t3, t4, t5, t6⟩, -⟩ := id hT
  exact bell_sumM t5 b3 hb (fun h hh => (tv_get hT (by omega) hb).2.1)
theorem all_c {nb nh hd : Nat} {g : Mm} (hT : gv_t nb nh hd g) : m_X8_totalOfAll g = some (nI (sm (bs_ g nh) nb), g) := by
  obtain ⟨⟨b1, b2, b3, b4, b5⟩, ⟨t1, t2, t3, t4, t5, t6⟩, -⟩ := id hT
  have key : ∀ (fu i : Nat), nb < i + fu → i ≤ nb → m_X8_totalOfAll_4 fu (nI (sm (bs_ g nh) i)) (nI i) g = some (nI (sm (bs_ g nh) nb), g) := by
    intro fu
    induction fu with
    | zero => intro i h1 h2; omega
    | succ fu ih =>
      intro i h1 h2
      rw [m_X8_totalOfAll_4, t1]
      by_cases q : i = nb
      · subst q
        rw [if_pos (by rw [nI_leI (by omega) (by omega)]; omega)]
      · rw [if_neg (by rw [nI_leI (by omega) (by omega)]; omega), bs_c hT (by omega), bdd_some, nI_add, nI_1]
        exact ih (i + 1) (by omega) (by omega)
  obtain ⟨F, eF, hF⟩ := fu_get
  rw [m_X8_totalOfAll, eF]
  exact key F 0 (by omega) (by omega)
theorem all_eq {nb nh hd : Nat} {g : Mm} (hT : gv_t nb nh hd g) : sm (fun k => (rdI g 44 k).toNatClampNeg) (6 * nh) = sm (bs_ g nh) nb := by
  obtain ⟨⟨b1, b2, b3, b4, b5⟩, ⟨t1, t2, t3, t4, t5, t6⟩, t7, t8, t9, t10⟩ := id hT
  rw [sm_rows]
  show _ = sm (fun b => sm (fun h => tv g h b) nh) nb
  rw [sm_swap (tv g) nh nb]
  refine sm_congr (fun h hh => ?_)
  rw [show sm (fun b => tv g h b) nb = sm (fun b => tv g h b) 6 from (sm_more b1 (fun b h1 h2 => by rw [tv, t10 h b (by omega) h2 (Or.inr h1)]; rfl)).symm]
  refine sm_congr (fun b hb => ?_)
  show (rdI g 44 (6 * h + b)).toNatClampNeg = tv g h b
  rw [(t9 _ (by omega)).1, tv]
theorem all_m {nb nh hd : Nat} {g : Mm} (hT : gv_t nb nh hd g) : m_X10_sumAll g = some (nI (sm (bs_ g nh) nb), g) := by
  obtain ⟨⟨b1, b2, b3, b4, b5⟩, ⟨t1, t2, t3, t4, t5, t6⟩, t7, t8, t9, t10⟩ := id hT
  rw [← all_eq hT]
  have e6 : (6 : Int32) * nI nh = nI (6 * nh) := by rw [show (6 : Int32) = nI 6 from rfl, pk_mul]
  have key : ∀ (fu i : Nat), 6 * nh < i + fu → i ≤ 6 * nh → m_X10_sumAll_4 fu (nI (sm (fun k => (rdI g 44 k).toNatClampNeg) i)) (nI i) g = some (nI (sm (fun k => (rdI g 44 k).toNatClampNeg) (6 * nh)), g) := by
    intro fu
    induction fu with
    | zero => intro i h1 h2; omega
    | succ fu ih =>
      intro i h1 h2
      rw [m_X10_sumAll_4, t5, e6]
      by_cases q : i = 6 * nh
      · subst q
        rw [if_pos (by rw [nI_leI (by omega) (by omega)]; omega)]
      · have ev : rdI g 44 i = nI (rdI g 44 i).toNatClampNeg := by
          obtain ⟨r1, v, hv, r2⟩ := t9 i (by omega)
          rw [r1, r2, nI_clamp (by omega)]
        rw [if_neg (by rw [nI_leI (by omega) (by omega)]; omega), ix_nI (by omega) (by omega), gdd_true, nI_clamp (by omega), ev, nI_add, nI_1]
        exact ih (i + 1) (by omega) (by omega)
  obtain ⟨F, eF, hF⟩ := fu_get
  rw [m_X10_sumAll, eF]
  exact key F 0 (by omega) (by omega)
theorem worst_c {nb nh hd : Nat} {g : Mm} (hT : gv_t nb nh hd g) : m_X8_worstHour g = some (nI (am (hs_ g nb) nh), g) := by
  obtain ⟨⟨b1, b2, b3, b4, b5⟩, ⟨t1, t2, t3, t4, t5, t6⟩, -⟩ := id hT
  have key : ∀ (fu i : Nat), nh < i + fu → 1 ≤ i → i ≤ nh → m_X8_worstHour_4 fu (nI (am (hs_ g nb) i)) (nI i) g = some (nI (am (hs_ g nb) nh), g) := by
    intro fu
    induction fu with
    | zero => intro i h1 h2; omega
    | succ fu ih =>
      intro i h1 h0 h2
      rw [m_X8_worstHour_4, t2]
      by_cases q : i = nh
      · subst q
        rw [if_pos (by rw [nI_leI (by omega) (by omega)]; omega)]
      · have ha := am_lt (hs_ g nb) h0
        have l1 := hs_le hT (show i < 24 by omega)
        have l2 := hs_le hT (show am (hs_ g nb) i < 24 by omega)
        have e := ih (i + 1) (by omega) (by omega) (by omega)
        rw [if_neg (by rw [nI_leI (by omega) (by omega)]; omega), hour_sum hT (by omega), bdd_some, hour_sum hT (by omega), bdd_some, nI_1]
        rw [am] at e
        by_cases z : hs_ g nb i ≤ hs_ g nb (am (hs_ g nb) i)
        · rw [if_pos z] at e
          rw [if_pos (by rw [nI_leI (by omega) (by omega)]; exact z)]
          exact e
        · rw [if_neg z] at e
          rw [if_neg (by rw [nI_leI (by omega) (by omega)]; exact z)]
          exact e
  obtain ⟨F, eF, hF⟩ := fu_get
  have e := key F 1 (by omega) (by omega) (by omega)
  rw [am_1] at e
  rw [m_X8_worstHour, eF]
  exact e
theorem worst_m {nb nh hd : Nat} {g : Mm} (hT : gv_t nb nh hd g) : m_X10_worst g = some (nI (am (hs_ g nb) nh), g) := by
  obtain ⟨⟨b1, b2, b3, b4, b5⟩, ⟨t1, t2, t3, t4, t5, t6⟩, -⟩ := id hT
  have key : ∀ (fu i : Nat), nh < i + fu → 1 ≤ i → i ≤ nh → m_X10_worst_4 fu (nI (am (hs_ g nb) i)) (nI i) g = some (nI (am (hs_ g nb) nh), g) := by
    intro fu
    induction fu with
    | zero => intro i h1 h2; omega
    | succ fu ih =>
      intro i h1 h0 h2
      rw [m_X10_worst_4, t5]
      by_cases q : i = nh
      · subst q
        rw [if_pos (by rw [nI_leI (by omega) (by omega)]; omega)]
      · have ha := am_lt (hs_ g nb) h0
        have l1 := hs_le hT (show i < 24 by omega)
        have l2 := hs_le hT (show am (hs_ g nb) i < 24 by omega)
        have e := ih (i + 1) (by omega) (by omega) (by omega)
        rw [if_neg (by rw [nI_leI (by omega) (by omega)]; omega), hour_sumM hT (by omega), bdd_some, hour_sumM hT (by omega), bdd_some, nI_1]
        rw [am] at e
        by_cases z : hs_ g nb i ≤ hs_ g nb (am (hs_ g nb) i)
        · rw [if_pos z] at e
          rw [if_pos (by rw [nI_leI (by omega) (by omega)]; exact z)]
          exact e
        · rw [if_neg z] at e
          rw [if_neg (by rw [nI_leI (by omega) (by omega)]; exact z)]
          exact e
  obtain ⟨F, eF, hF⟩ := fu_get
  have e := key F 1 (by omega) (by omega) (by omega)
  rw [am_1] at e
  rw [m_X10_worst, eF]
  exact e
def co_ (g : Mm) (nh b : Nat) : Nat := 2 * (rdI g 3 b).toNatClampNeg * bs_ g nh b
theorem co_le {nb nh hd b : Nat} {g : Mm} (hT : gv_t nb nh hd g) (hb : b < nb) : co_ g nh b ≤ 2 * 99 * 360 := by
  obtain ⟨⟨b1, -⟩, -, -, t8, -⟩ := id hT
  obtain ⟨-, ⟨k, hk, e⟩, -⟩ := t8 b hb
  have := bs_le hT (show b < 6 by omega)
  rw [co_, e, nI_clamp (by omega)]
  exact Nat.mul_le_mul (by omega) this
theorem cost_c {nb nh hd b : Nat} {g : Mm} (hT : gv_t nb nh hd g) (hb : b < nb) : m_X8_costOfBell (nI b) g = some (nI (co_ g nh b), g) := by
  obtain ⟨⟨b1, -⟩, -, -, t8, -⟩ := id hT
  obtain ⟨-, ⟨k, hk, e⟩, -⟩ := t8 b hb
  rw [m_X8_costOfBell, ix_nI (by omega) (by omega), gdd_true, bs_c hT (by omega), bdd_some, nI_clamp (by omega), co_, e, nI_clamp (by omega), show (2 : Int32) = nI 2 from rfl, pk_mul, pk_mul]
theorem cost_m {nb nh hd b : Nat} {g : Mm} (hT : gv_t nb nh hd g) (hb : b < nb) : m_X10_costOf (nI b) g = some (nI (co_ g nh b), g) := by
  obtain ⟨⟨b1, -⟩, -, t7, t8, -⟩ := id hT
  obtain ⟨-, ⟨k, hk, e⟩, -⟩ := t8 b hb
  rw [m_X10_costOf, bs_m hT (by omega), bdd_some, ix_nI (by omega) (by omega), gdd_true, nI_clamp (by omega), (t7 b (by omega)).2.1, co_, e, nI_clamp (by omega), show (2 : Int32) = nI 2 from rfl, pk_mul, pk_mul]
  rw [Nat.mul_right_comm]
theorem day_c {nb nh hd : Nat} {g : Mm} (hT : gv_t nb nh hd g) : m_X8_costOfADay g = some (nI (sm (co_ g nh) nb), g) := by
  obtain ⟨⟨b1, b2, b3, b4, b5⟩, ⟨t1, t2, t3, t4, t5, t6⟩, -⟩ := id hT
  have key : ∀ (fu i : Nat), nb < i + fu → i ≤ nb → m_X8_costOfADay_4 fu (nI (sm (co_ g nh) i)) (nI i) g = some (nI (sm (co_ g nh) nb), g) := by
    intro fu
    induction fu with
    | zero => intro i h1 h2; omega
    | succ fu ih =>
      intro i h1 h2
      rw [m_X8_costOfADay_4, t1]
      by_cases q : i = nb
      · subst q
        rw [if_pos (by rw [nI_leI (by omega) (by omega)]; omega)]
      · rw [if_neg (by rw [nI_leI (by omega) (by omega)]; omega), cost_c hT (by omega), bdd_some, nI_add, nI_1]
        exact ih (i + 1) (by omega) (by omega)
  obtain ⟨F, eF, hF⟩ := fu_get
  rw [m_X8_costOfADay, eF]
  exact key F 0 (by omega) (by omega)
theorem dear_c {nb nh hd : Nat} {g : Mm} (hT : gv_t nb nh hd g) (h0 : 0 < nb) : m_X8_dearestBell g = some (nI (am (co_ g nh) nb), g) := by
  obtain ⟨⟨b1, b2, b3, b4, b5⟩, ⟨t1, t2, t3, t4, t5, t6⟩, -⟩ := id hT
  have key : ∀ (fu i : Nat), nb < i + fu → 1 ≤ i → i ≤ nb → m_X8_dearestBell_4 fu (nI (am (co_ g nh) i)) (nI i) g = some (nI (am (co_ g nh) nb), g) := by
    intro fu
    induction fu with
    | zero => intro i h1 h2; omega
    | succ fu ih =>
      intro i h1 h0 h2
      rw [m_X8_dearestBell_4, t1]
      by_cases q : i = nb
      · subst q
        rw [if_pos (by rw [nI_leI (by omega) (by omega)]; omega)]
      · have ha := am_lt (co_ g nh) h0
        have l1 := co_le hT (show i < nb by omega)
        have l2 := co_le hT (show am (co_ g nh) i < nb by omega)
        have e := ih (i + 1) (by omega) (by omega) (by omega)
        rw [if_neg (by rw [nI_leI (by omega) (by omega)]; omega), cost_c hT (by omega), bdd_some, cost_c hT (by omega), bdd_some, nI_1]
        rw [am] at e
        by_cases z : co_ g nh i ≤ co_ g nh (am (co_ g nh) i)
        · rw [if_pos z] at e
          rw [if_pos (by rw [nI_leI (by omega) (by omega)]; exact z)]
          exact e
        · rw [if_neg z] at e
          rw [if_neg (by rw [nI_leI (by omega) (by omega)]; exact z)]
          exact e
  obtain ⟨F, eF, hF⟩ := fu_get
  have e := key F 1 (by omega) (by omega) (by omega)
  rw [am_1] at e
  rw [m_X8_dearestBell, eF]
  exact e
theorem day_m {nb nh hd k : Nat} {g : Mm} (hT : gv_t nb nh hd g) (hk : k = 103 ∨ k = 104) : ∀ (fu i : Nat), nb < i + fu → i ≤ nb → m_X10_strokes_78 fu (nI k) (nI (sm (co_ g nh) i)) (nI (am (co_ g nh) i)) (nI i) g = some (if k = 103 then nI (sm (co_ g nh) nb) else if nb = 0 then -5 else nI (am (co_ g nh) nb), g) := by
  obtain ⟨⟨b1, b2, b3, b4, b5⟩, ⟨t1, t2, t3, t4, t5, t6⟩, -⟩ := id hT
  intro fu
  induction fu with
  | zero => intro i h1 h2; omega
  | succ fu ih =>
    intro i h1 h2
    rw [m_X10_strokes_78, t4]
    by_cases q : i = nb
    · subst q
      rw [if_pos (by rw [nI_leI (by omega) (by omega)]; omega)]
      rcases hk with rfl | rfl
      · rw [if_pos (by decide), if_pos rfl]
      · rw [if_neg (show ¬ nI 104 = (103 : Int32) by decide), if_neg (show ¬ (104 = 103) by decide)]
        by_cases z : i = 0
        · subst z
          rw [if_pos (show nI 0 = (0 : Int32) from rfl), if_pos rfl]
        · rw [if_neg (show ¬ nI i = (0 : Int32) from fun y => z ((nI_eq (b := 0) (by omega) (by omega)).mp y)), if_neg z]
    · have ha : am (co_ g nh) i < nb := by
        by_cases z : i = 0
        · subst z
          show 0 < nb
          omega
        · have := am_lt (co_ g nh) (show 0 < i by omega)
          omega
      have l1 := co_le hT (show i < nb by omega)
      have l2 := co_le hT ha
      have e := ih (i + 1) (by omega) (by omega)
      rw [if_neg (by rw [nI_leI (by omega) (by omega)]; omega), cost_m hT (by omega), bdd_some, cost_m hT (by omega), bdd_some, cost_m hT ha, bdd_some, nI_1, nI_add]
      rw [am, sm] at e
      by_cases z : co_ g nh i ≤ co_ g nh (am (co_ g nh) i)
      · rw [if_pos z] at e
        rw [if_pos (by rw [nI_leI (by omega) (by omega)]; exact z)]
        exact e
      · rw [if_neg z] at e
        rw [if_neg (by rw [nI_leI (by omega) (by omega)]; exact z)]
        exact e
theorem st_100 {nb nh hd : Nat} {g : Mm} (hT : gv_t nb nh hd g) (xc : m_X8_hasHour (nI 100) g = some (nI 0, g)) (xm : m_X10_isHour (nI 100) g = some (nI 0, g)) (xi : m_X10_in (nI 100).toInt64 100 104 g = some (nI 1, g)) :
    m_X9_strokes (nI 100) g = some (nI (2 * sm (bs_ g nh) nb), g) ∧ m_X10_strokes (nI 100) g = some (nI (2 * sm (bs_ g nh) nb), g) := by
  refine ⟨?_, ?_⟩
  · simp (disch := omega) only [m_X9_strokes, xc, all_c hT, fa_lit, nI_nm1, nm1_nI, nI_nm1l, Nat.mul_comm _ 6, Nat.mul_comm _ 60, nI_ltI, nI_leI, nI_eq, nI_add, pk_mul, pk_sub, rm_nI, pk_div, nI_clamp, gdd_true, ix_nI, bdd_some, if_pos, if_neg, rI_wI, rI_wL, rL_wI, rL_wL, rI_cI, rI_cL, rL_cI, rL_cL, false_and, and_false, true_and, and_true, if_true, if_false, not_true_eq_false, not_false_eq_true, reduceCtorEq, zb_bz, bz_t, bz_f, Bool.true_eq_false, Bool.false_eq_true]
  · simp (disch := omega) only [m_X10_strokes, xm, xi, all_m hT, fa_lit, nI_nm1, nm1_nI, nI_nm1l, Nat.mul_comm _ 6, Nat.mul_comm _ 60, nI_ltI, nI_leI, nI_eq, nI_add, pk_mul, pk_sub, rm_nI, pk_div, nI_clamp, gdd_true, ix_nI, bdd_some, if_pos, if_neg, rI_wI, rI_wL, rL_wI, rL_wL, rI_cI, rI_cL, rL_cI, rL_cL, false_and, and_false, true_and, and_true, if_true, if_false, not_true_eq_false, not_false_eq_true, reduceCtorEq, zb_bz, bz_t, bz_f, Bool.true_eq_false, Bool.false_eq_true]
theorem st_101 {nb nh hd : Nat} {g : Mm} (hT : gv_t nb nh hd g) (ha : am (hs_ g nb) nh < 24) (xc : m_X8_hasHour (nI 101) g = some (nI 0, g)) (xm : m_X10_isHour (nI 101) g = some (nI 0, g)) (xi : m_X10_in (nI 101).toInt64 100 104 g = some (nI 1, g)) :
    m_X9_strokes (nI 101) g = some (nI (hs_ g nb (am (hs_ g nb) nh)), g) ∧ m_X10_strokes (nI 101) g = some (nI (hs_ g nb (am (hs_ g nb) nh)), g) := by
  refine ⟨?_, ?_⟩
  · simp (disch := omega) only [m_X9_strokes, xc, worst_c hT, hour_sum hT ha, fa_lit, nI_nm1, nm1_nI, nI_nm1l, Nat.mul_comm _ 6, Nat.mul_comm _ 60, nI_ltI, nI_leI, nI_eq, nI_add, pk_mul, pk_sub, rm_nI, pk_div, nI_clamp, gdd_true, ix_nI, bdd_some, if_pos, if_neg, rI_wI, rI_wL, rL_wI, rL_wL, rI_cI, rI_cL, rL_cI, rL_cL, false_and, and_false, true_and, and_true, if_true, if_false, not_true_eq_false, not_false_eq_true, reduceCtorEq, zb_bz, bz_t, bz_f, Bool.true_eq_false, Bool.false_eq_true]
  · simp (disch := omega) only [m_X10_strokes, xm, xi, worst_m hT, hour_sumM hT ha, fa_lit, nI_nm1, nm1_nI, nI_nm1l, Nat.mul_comm _ 6, Nat.mul_comm _ 60, nI_ltI, nI_leI, nI_eq, nI_add, pk_mul, pk_sub, rm_nI, pk_div, nI_clamp, gdd_true, ix_nI, bdd_some, if_pos, if_neg, rI_wI, rI_wL, rL_wI, rL_wL, rI_cI, rI_cL, rL_cI, rL_cL, false_and, and_false, true_and, and_true, if_true, if_false, not_true_eq_false, not_false_eq_true, reduceCtorEq, zb_bz, bz_t, bz_f, Bool.true_eq_false, Bool.false_eq_true]
theorem st_102 {nb nh hd : Nat} {g : Mm} (hT : gv_t nb nh hd g) (xc : m_X8_hasHour (nI 102) g = some (nI 0, g)) (xm : m_X10_isHour (nI 102) g = some (nI 0, g)) (xi : m_X10_in (nI 102).toInt64 100 104 g = some (nI 1, g)) :
    m_X9_strokes (nI 102) g = some (nI (am (hs_ g nb) nh), g) ∧ m_X10_strokes (nI 102) g = some (nI (am (hs_ g nb) nh), g) := by
  refine ⟨?_, ?_⟩
  · rw [m_X9_strokes, xc, bdd_some, if_pos (show nI 0 = (0 : Int32) from rfl), if_neg (show ¬ nI 102 = (100 : Int32) by decide), if_neg (show ¬ nI 102 = (101 : Int32) by decide), if_pos (show nI 102 = (102 : Int32) from rfl), worst_c hT, bdd_some]
  · rw [m_X10_strokes, xm, bdd_some, if_pos (show nI 0 = (0 : Int32) from rfl), xi, bdd_some, if_neg (show ¬ nI 1 = (0 : Int32) by decide), if_neg (show ¬ nI 102 = (100 : Int32) by decide), if_neg (show ¬ (103 : Int32) ≤ nI 102 by decide), if_neg (show ¬ nI 102 = (101 : Int32) by decide), worst_m hT, bdd_some]
theorem st_103 {nb nh hd : Nat} {g : Mm} (hT : gv_t nb nh hd g) (xc : m_X8_hasHour (nI 103) g = some (nI 0, g)) (xm : m_X10_isHour (nI 103) g = some (nI 0, g)) (xi : m_X10_in (nI 103).toInt64 100 104 g = some (nI 1, g)) :
    m_X9_strokes (nI 103) g = some (nI (sm (co_ g nh) nb), g) ∧ m_X10_strokes (nI 103) g = some (nI (sm (co_ g nh) nb), g) := by
  have h1 := hT.1
  obtain ⟨F, eF, hF⟩ := fu_get
  have e := day_m hT (k := 103) (Or.inl rfl) F 0 (by omega) (by omega)
  rw [if_pos rfl] at e
  refine ⟨?_, ?_⟩
  · simp (disch := omega) only [m_X9_strokes, xc, day_c hT, fa_lit, nI_nm1, nm1_nI, nI_nm1l, Nat.mul_comm _ 6, Nat.mul_comm _ 60, nI_ltI, nI_leI, nI_eq, nI_add, pk_mul, pk_sub, rm_nI, pk_div, nI_clamp, gdd_true, ix_nI, bdd_some, if_pos, if_neg, rI_wI, rI_wL, rL_wI, rL_wL, rI_cI, rI_cL, rL_cI, rL_cL, false_and, and_false, true_and, and_true, if_true, if_false, not_true_eq_false, not_false_eq_true, reduceCtorEq, zb_bz, bz_t, bz_f, Bool.true_eq_false, Bool.false_eq_true]
  · simp (disch := omega) only [m_X10_strokes, xm, xi, eF, fa_lit, nI_nm1, nm1_nI, nI_nm1l, Nat.mul_comm _ 6, Nat.mul_comm _ 60, nI_ltI, nI_leI, nI_eq, nI_add, pk_mul, pk_sub, rm_nI, pk_div, nI_clamp, gdd_true, ix_nI, bdd_some, if_pos, if_neg, rI_wI, rI_wL, rL_wI, rL_wL, rI_cI, rI_cL, rL_cI, rL_cL, false_and, and_false, true_and, and_true, if_true, if_false, not_true_eq_false, not_false_eq_true, reduceCtorEq, zb_bz, bz_t, bz_f, Bool.true_eq_false, Bool.false_eq_true]
    exact e
theorem st_104 {nb nh hd : Nat} {g : Mm} (hT : gv_t nb nh hd g) (xc : m_X8_hasHour (nI 104) g = some (nI 0, g)) (xm : m_X10_isHour (nI 104) g = some (nI 0, g)) (xi : m_X10_in (nI 104).toInt64 100 104 g = some (nI 1, g)) :
    ∃ r, m_X9_strokes (nI 104) g = some (r, g) ∧ m_X10_strokes (nI 104) g = some (r, g) := by
  obtain ⟨h1, ⟨t1, t2, t3, t4, t5, t6⟩, -⟩ := id hT
  obtain ⟨F, eF, hF⟩ := fu_get
  have e := day_m hT (k := 104) (Or.inr rfl) F 0 (by omega) (by omega)
  rw [if_neg (show ¬ (104 = 103) by decide)] at e
  by_cases z : nb = 0
  · subst z
    rw [if_pos rfl] at e
    refine ⟨-5, ?_, ?_⟩
    · simp (disch := omega) only [m_X9_strokes, xc, t1, fa_lit, nI_nm1, nm1_nI, nI_nm1l, Nat.mul_comm _ 6, Nat.mul_comm _ 60, nI_ltI, nI_leI, nI_eq, nI_add, pk_mul, pk_sub, rm_nI, pk_div, nI_clamp, gdd_true, ix_nI, bdd_some, if_pos, if_neg, rI_wI, rI_wL, rL_wI, rL_wL, rI_cI, rI_cL, rL_cI, rL_cL, false_and, and_false, true_and, and_true, if_true, if_false, not_true_eq_false, not_false_eq_true, reduceCtorEq, zb_bz, bz_t, bz_f, Bool.true_eq_false, Bool.false_eq_true]
    · simp (disch := omega) only [m_X10_strokes, xm, xi, eF, fa_lit, nI_nm1, nm1_nI, nI_nm1l, Nat.mul_comm _ 6, Nat.mul_comm _ 60, nI_ltI, nI_leI, nI_eq, nI_add, pk_mul, pk_sub, rm_nI, pk_div, nI_clamp, gdd_true, ix_nI, bdd_some, if_pos, if_neg, rI_wI, rI_wL, rL_wI, rL_wL, rI_cI, rI_cL, rL_cI, rL_cL, false_and, and_false, true_and, and_true, if_true, if_false, not_true_eq_false, not_false_eq_true, reduceCtorEq, zb_bz, bz_t, bz_f, Bool.true_eq_false, Bool.false_eq_true]
      exact e
  · rw [if_neg z] at e
    refine ⟨nI (am (co_ g nh) nb), ?_, ?_⟩
    · simp (disch := omega) only [m_X9_strokes, xc, t1, dear_c hT (show 0 < nb by omega), fa_lit, nI_nm1, nm1_nI, nI_nm1l, Nat.mul_comm _ 6, Nat.mul_comm _ 60, nI_ltI, nI_leI, nI_eq, nI_add, pk_mul, pk_sub, rm_nI, pk_div, nI_clamp, gdd_true, ix_nI, bdd_some, if_pos, if_neg, rI_wI, rI_wL, rL_wI, rL_wL, rI_cI, rI_cL, rL_cI, rL_cL, false_and, and_false, true_and, and_true, if_true, if_false, not_true_eq_false, not_false_eq_true, reduceCtorEq, zb_bz, bz_t, bz_f, Bool.true_eq_false, Bool.false_eq_true]
    · simp (disch := omega) only [m_X10_strokes, xm, xi, eF, fa_lit, nI_nm1, nm1_nI, nI_nm1l, Nat.mul_comm _ 6, Nat.mul_comm _ 60, nI_ltI, nI_leI, nI_eq, nI_add, pk_mul, pk_sub, rm_nI, pk_div, nI_clamp, gdd_true, ix_nI, bdd_some, if_pos, if_neg, rI_wI, rI_wL, rL_wI, rL_wL, rI_cI, rI_cL, rL_cI, rL_cL, false_and, and_false, true_and, and_true, if_true, if_false, not_true_eq_false, not_false_eq_true, reduceCtorEq, zb_bz, bz_t, bz_f, Bool.true_eq_false, Bool.false_eq_true]
      exact e
theorem op_strokes (a0 : Int32) {g : Mm} (hg : gv_ g) : al_ (m_X9_strokes a0) (m_X10_strokes a0) g := by
  have hg0 := hg
  obtain ⟨nb, nh, hd, cd, ck, tl, rt, nn, na, ra, f, hT, hX, hC, hP, hL, hE, hA, hS⟩ := hg
  obtain ⟨⟨b1, b2, b3, b4, b5⟩, ⟨t1, t2, t3, t4, t5, t6⟩, t7, t8, t9, t10⟩ := id hT
  rcases i_cases a0 with h | ⟨k, hk, rfl⟩
  · have hn : ∀ n : Nat, n < 2 ^ 31 → ¬ a0 = nI n := fun n hn q => by rw [q, nI_toInt hn] at h; omega
    refine al_.same (r := -1) hg0 ?_ ?_
    · rw [m_X9_strokes, m8_hasHour t2 (by omega), lt_n_neg h, bdd_some, if_pos (show bz false = 0 from rfl), if_neg (show ¬ a0 = 100 from hn 100 (by decide)), if_neg (show ¬ a0 = 101 from hn 101 (by decide)), if_neg (show ¬ a0 = 102 from hn 102 (by decide)), if_neg (show ¬ a0 = 103 from hn 103 (by decide)), if_neg (show ¬ a0 = 104 from hn 104 (by decide))]
    · rw [m_X10_strokes, m10_isHour t5 (by omega), lt_n_neg h, bdd_some, if_pos (show bz false = 0 from rfl), in_neg h (by decide), bdd_some, if_pos (show bz false = 0 from rfl)]
  · by_cases hkh : k < nh
    · refine al_.same (r := nI (hs_ g nb k)) hg0 ?_ ?_
      · rw [m_X9_strokes, m8_hasHour t2 (by omega), lt_n_nI hk, decide_eq_true hkh, bdd_some, if_neg (show ¬ bz true = 0 by decide), hour_sum hT (by omega), bdd_some]
      · rw [m_X10_strokes, m10_isHour t5 (by omega), lt_n_nI hk, decide_eq_true hkh, bdd_some, if_neg (show ¬ bz true = 0 by decide), hour_sumM hT (by omega), bdd_some]
    · have xc : m_X8_hasHour (nI k) g = some (nI 0, g) := by rw [m8_hasHour t2 (by omega), lt_n_nI hk, decide_eq_false hkh]; rfl
      have xm : m_X10_isHour (nI k) g = some (nI 0, g) := by rw [m10_isHour t5 (by omega), lt_n_nI hk, decide_eq_false hkh]; rfl
      by_cases hk2 : 100 ≤ k ∧ k ≤ 104
      · have xi : m_X10_in (nI k).toInt64 100 104 g = some (nI 1, g) := by rw [in_nI 100 104 100 104 hk rfl rfl, decide_eq_true hk2]; rfl
        have ha := am_lt (hs_ g nb) (show 0 < nh by omega)
        rcases (by omega : k = 100 ∨ k = 101 ∨ k = 102 ∨ k = 103 ∨ k = 104) with rfl | rfl | rfl | rfl | rfl
        · exact al_.same hg0 (st_100 hT xc xm xi).1 (st_100 hT xc xm xi).2
        · exact al_.same hg0 (st_101 hT (by omega) xc xm xi).1 (st_101 hT (by omega) xc xm xi).2
        · exact al_.same hg0 (st_102 hT xc xm xi).1 (st_102 hT xc xm xi).2
        · exact al_.same hg0 (st_103 hT xc xm xi).1 (st_103 hT xc xm xi).2
        · obtain ⟨r, e1, e2⟩ := st_104 hT xc xm xi
          exact al_.same hg0 e1 e2
      · refine al_.same (r := -1) hg0 ?_ ?_
        · simp (disch := omega) only [m_X9_strokes, xc, fa_lit, nI_nm1, nm1_nI, nI_nm1l, Nat.mul_comm _ 6, Nat.mul_comm _ 60, nI_ltI, nI_leI, nI_eq, nI_add, pk_mul, pk_sub, rm_nI, pk_div, nI_clamp, gdd_true, ix_nI, bdd_some, if_pos, if_neg, rI_wI, rI_wL, rL_wI, rL_wL, rI_cI, rI_cL, rL_cI, rL_cL, false_and, and_false, true_and, and_true, if_true, if_false, not_true_eq_false, not_false_eq_true, reduceCtorEq, zb_bz, bz_t, bz_f, Bool.true_eq_false, Bool.false_eq_true]
        · rw [m_X10_strokes, xm, bdd_some, if_pos (by decide), in_nI 100 104 100 104 hk rfl rfl, decide_eq_false hk2, bdd_some, if_pos (show bz false = 0 from rfl)]
