/-! least: the reference -/
def ms_ (nb nh hd : Nat) (mo : Nat → Nat) (M : Nat → Nat → Bool) (N : Nat) (r : Option Nat) (g : Mm) : Prop := sr_ nb nh hd mo g ∧ mxv 45 M g ∧ (∀ a b, a < 24 → b < 6 → rdI g 44 (6 * a + b) = nI (TN nb nh mo N a b)) ∧ ∀ X, r = some X → ∀ a b, a < nh → b < nb → rdI g 53 (6 * a + b) = nI (TN nb nh mo X a b)
def vq_ (nb nh hd : Nat) (mo : Nat → Nat) (M : Nat → Nat → Bool) (N : Nat) : Bool := dw (TN nb nh mo N) M nb nh (2 ^ nb - 1) (nb - min hd nb + 1)
theorem sum_T {nb nh hd : Nat} {mo : Nat → Nat} {M : Nat → Nat → Bool} {N : Nat} {r : Option Nat} {g : Mm} (h : ms_ nb nh hd mo M N r g) : m_X10_sumAll g = some (nI (tot_ nb nh mo N), g) := by
  obtain ⟨⟨⟨a1, a2, a3, a4, a5⟩, ⟨t1, t2, t3⟩, t4⟩, -, hT, -⟩ := h
  have e6 : (6 : Int32) * nI nh = nI (6 * nh) := by rw [show (6 : Int32) = nI 6 from rfl, pk_mul]
  have key : ∀ (fu i : Nat), 6 * nh < i + fu → i ≤ 6 * nh → m_X10_sumAll_4 fu (nI (sm (fun k => TN nb nh mo N (k / 6) (k % 6)) i)) (nI i) g = some (nI (sm (fun k => TN nb nh mo N (k / 6) (k % 6)) (6 * nh)), g) := by
    intro fu
    induction fu with
    | zero => intro i h1 h2; omega
    | succ fu ih =>
      intro i h1 h2
      rw [m_X10_sumAll_4, t2, e6]
      by_cases q : i = 6 * nh
      · subst q
        rw [if_pos (by rw [nI_leI (by omega) (by omega)]; omega)]
      · have e := ih (i + 1) (by omega) (by omega)
        have hk := hT (i / 6) (i % 6) (by omega) (by omega)
        rw [show 6 * (i / 6) + i % 6 = i by omega] at hk
        rw [sm] at e
        rw [if_neg (by rw [nI_leI (by omega) (by omega)]; omega), ix_nI (by omega) (by omega), gdd_true, nI_clamp (by omega), hk, nI_add, nI_1]
        exact e
  have es : sm (fun k => TN nb nh mo N (k / 6) (k % 6)) (6 * nh) = tot_ nb nh mo N := by
    rw [sm_rows, tot_]
    refine sm_congr (fun h hh => ?_)
    have e1 : sm (fun b => TN nb nh mo N ((6 * h + b) / 6) ((6 * h + b) % 6)) 6 = sm (fun b => TN nb nh mo N h b) 6 := sm_congr (fun b hb => by rw [show (6 * h + b) / 6 = h by omega, show (6 * h + b) % 6 = b by omega])
    rw [e1]
    exact sm_more (by omega) (fun b h1 _ => TN_b h1)
  obtain ⟨F, eF, hF⟩ := fu_get
  rw [m_X10_sumAll, eF]
  rw [← es]
  exact key F 0 (by omega) (Nat.zero_le _)
def fin79 (x1 x2 : Int32) (g : Mm) : Option (Int32 × Mm) := bdd (m_X10_laysBack g) (fun _ ga3 => (if x2 = (-2 : Int32) then some (x2, ga3) else (if x1 = (-1 : Int32) then some (x2, ga3) else gdd (ixo (((6 : Int32) * (x1 / (10 : Int32))) + (rmI x1 (10 : Int32))) 144) (some ((rdI ga3 53 (((6 : Int32) * (x1 / (10 : Int32))) + (rmI x1 (10 : Int32))).toNatClampNeg), ga3)))))
def pLe (c i : Nat) : Bool := decide ((c = 44 ∧ i < 144) ∨ c = 53 ∨ (c = 40 ∧ 29 ≤ i ∧ i ≤ 31))
theorem gp_none (t : Nat → Nat) : gp_o (Option.map t none) = (-2 : Int32) := rfl
theorem le79 {nb nh hd : Nat} {mo : Nat → Nat} {M : Nat → Nat → Bool} (hnh : 2 ≤ nh) (x1 : Int32) : ∀ (fu N : Nat) (r : Option Nat) (g : Mm), pw_ mo nb ^ nh + 1 < N + fu → N < pw_ mo nb ^ nh → ms_ nb nh hd mo M N r g → lb_ (vq_ nb nh hd mo M) (tot_ nb nh mo) N r →
    ∃ r' g', lb_ (vq_ nb nh hd mo M) (tot_ nb nh mo) (pw_ mo nb ^ nh) r' ∧ m_X10_least_79 fu x1 (gp_o (r.map (tot_ nb nh mo))) 1 g = fin79 x1 (gp_o (r'.map (tot_ nb nh mo))) g' ∧ fr_ pLe g g' ∧ ∀ X, r' = some X → ∀ a b, a < nh → b < nb → rdI g' 53 (6 * a + b) = nI (TN nb nh mo X a b) := by
  intro fu
  induction fu with
  | zero => intro N r g h1 h2; omega
  | succ fu ih =>
    intro N r g h1 h2 hms hlb
    obtain ⟨hs, hM, hT, hb⟩ := id hms
    obtain ⟨⟨a1, a2, a3, a4, a5⟩, ⟨t1, t2, t3⟩, t4⟩ := id hs
    have ht15 : ∀ b, b < nb → mo b ≤ 15 := fun b hb => (t4 b hb).2
    have htot : ∀ Y, tot_ nb nh mo Y < 5000 := fun Y => by
      have := tot_le (nh := nh) a2 ht15 Y
      omega
    obtain ⟨F, eF, hF⟩ := fu_get
    -- then the next table
    have next : ∀ (r2 : Option Nat) (g2 : Mm), fr_ pLe g g2 → ms_ nb nh hd mo M N r2 g2 → lb_ (vq_ nb nh hd mo M) (tot_ nb nh mo) (N + 1) r2 →
        ∃ r' g', lb_ (vq_ nb nh hd mo M) (tot_ nb nh mo) (pw_ mo nb ^ nh) r' ∧ m_X10_least_127 (m_X10_least_79 fu) x1 (gp_o (r2.map (tot_ nb nh mo))) g2 = fin79 x1 (gp_o (r'.map (tot_ nb nh mo))) g' ∧ fr_ pLe g g' ∧ ∀ X, r' = some X → ∀ a b, a < nh → b < nb → rdI g' 53 (6 * a + b) = nI (TN nb nh mo X a b) := by
      intro r2 g2 hf hm2 hl2
      obtain ⟨hs2, hM2, hT2, hb2⟩ := hm2
      obtain ⟨g3, f3, k⟩ := ct7 (nb := nb) (nh := nh) (hd := hd) (mo := mo) nh F N g2 a3 (by omega) h2 hs2 (fun a b ha hb => hT2 a b (by omega) (by omega))
      have f3' : fr_ pLe g2 g3 := f3.le (fun c i w => by
        rw [decide_eq_true_eq] at w
        exact decide_eq_true (Or.inl ⟨w.1, by omega⟩))
      have hcn : m_X10_counts g2 = m_X10_counts_7 F (ii_ nh) g2 := by rw [m_X10_counts, hs2.2.1.2.1, ii_last (by omega), eF]
      have hb3 : ∀ X, r2 = some X → ∀ a b, a < nh → b < nb → rdI g3 53 (6 * a + b) = nI (TN nb nh mo X a b) := fun X hX a b ha hb => by
        rw [f3.1 53 _ (decide_eq_false (by omega))]
        exact hb2 X hX a b ha hb
      rw [m_X10_least_127, hcn]
      rcases k with ⟨k1, k2, k3⟩ | ⟨k1, k2⟩
      · have hm3 : ms_ nb nh hd mo M (N + 1) r2 g3 := by
          refine ⟨hs2.fr f3 (decide_eq_false (by omega)) (decide_eq_false (by omega)) (decide_eq_false (by omega)) (fun _ => decide_eq_false (by omega)), hM2.fr f3 (fun _ => decide_eq_false (by omega)), fun a b ha hb => ?_, hb3⟩
          by_cases w : a < nh ∧ b < nb
          · exact k3 a b w.1 w.2
          · rw [f3.1 44 _ (decide_eq_false (by omega)), hT2 a b ha hb]
            by_cases w1 : a < nh
            · rw [TN_b (by omega), TN_b (by omega)]
            · rw [TN_h (by omega), TN_h (by omega)]
        obtain ⟨r', g', y1, y2, y3, y4⟩ := ih (N + 1) r2 g3 (by omega) k1 hm3 hl2
        refine ⟨r', g', y1, ?_, (hf.tr f3').tr y3, y4⟩
        rw [k2, bdd_some]
        exact y2
      · obtain ⟨fu, rfl⟩ : ∃ f, fu = f + 1 := ⟨fu - 1, by omega⟩
        refine ⟨r2, g3, by rw [← k1]; exact hl2, ?_, hf.tr f3', hb3⟩
        rw [k2, bdd_some, m_X10_least_79, if_pos rfl]
        rfl
    have hp0 := Nat.two_pow_pos nb
    -- asking whether this table tells
    have ask : (∀ X, r = some X → tot_ nb nh mo N < tot_ nb nh mo X) → ∃ r' g', lb_ (vq_ nb nh hd mo M) (tot_ nb nh mo) (pw_ mo nb ^ nh) r' ∧ m_X10_least_101 (m_X10_least_127 (m_X10_least_79 fu)) x1 (gp_o (r.map (tot_ nb nh mo))) (nI (tot_ nb nh mo N)) g = fin79 x1 (gp_o (r'.map (tot_ nb nh mo))) g' ∧ fr_ pLe g g' ∧ ∀ X, r' = some X → ∀ a b, a < nh → b < nb → rdI g' 53 (6 * a + b) = nI (TN nb nh mo X a b) := by
      intro hlt
      have hum : um_ nb nh (TN nb nh mo N) M g := ⟨⟨by omega, a3⟩, ⟨t1, t2⟩, fun i j hi hj => mix_m hM hi hj, fun i j hi hj => dif_m (by omega) t1 hi hj (fun b hb => ⟨hT i b hi (by omega), by have := TN_le (nh := nh) ht15 N i b; omega⟩) (fun b hb => ⟨hT j b hj (by omega), by have := TN_le (nh := nh) ht15 N j b; omega⟩)⟩
      obtain ⟨g1, e1, e2, e3⟩ := ub_ok hum (S := 2 ^ nb - 1) (k := min hd nb) (by omega) (by rw [all_pc (by omega)]; omega)
      rw [all_pc (by omega)] at e1
      have f1 : fr_ pLe g g1 := ⟨fun c i w => e2 c i (by
        unfold pLe at w
        rw [decide_eq_false_iff_not] at w
        omega), e3⟩
      have f40 : fr_ (fun c i => decide (c = 40 ∧ 29 ≤ i ∧ i ≤ 31)) g g1 := ⟨fun c i w => e2 c i (of_decide_eq_false w), e3⟩
      have hm1 : ms_ nb nh hd mo M N r g1 := by
        refine ⟨hs.fr f40 (decide_eq_false (by omega)) (decide_eq_false (by omega)) (decide_eq_false (by omega)) (fun _ => decide_eq_false (by omega)), hM.fr f40 (fun _ => decide_eq_false (by omega)), fun a b ha hb => ?_, fun X hX a b ha hb2 => ?_⟩
        · rw [e2 44 _ (by omega)]; exact hT a b ha hb
        · rw [e2 53 _ (by omega)]; exact hb X hX a b ha hb2
      rw [m_X10_least_101, heard_m t1 t3 (by omega) a5, bdd_some, t1, mask1 (by omega), e1, bdd_some]
      cases hv : dw (TN nb nh mo N) M nb nh (2 ^ nb - 1) (nb - min hd nb + 1) with
      | false =>
        rw [if_pos (show bz false = 0 from rfl)]
        refine next r g1 f1 hm1 (lb_skip hlb (Nat.le_succ _) (fun Y h1 h2 h3 => ?_))
        have : Y = N := by omega
        subst this
        have h4 : vq_ nb nh hd mo M Y = false := hv
        rw [h4] at h3
        cases h3
      | true =>
        obtain ⟨g2, k1, k2, k3⟩ := keep_m F 0 g1 (by omega) (by omega)
        have f2 : fr_ (fun c _ => decide (c = 53)) g1 g2 := ⟨fun c i w => by rw [k2, if_neg (fun v => of_decide_eq_false w v.1)], k3⟩
        have f2' : fr_ pLe g1 g2 := f2.le (fun c i w => decide_eq_true (Or.inr (Or.inl (of_decide_eq_true w))))
        have hm2 : ms_ nb nh hd mo M N (some N) g2 := by
          refine ⟨hm1.1.fr f2 (decide_eq_false (by omega)) (decide_eq_false (by omega)) (decide_eq_false (by omega)) (fun _ => decide_eq_false (by omega)), hm1.2.1.fr f2 (fun _ => decide_eq_false (by omega)), fun a b ha hb => ?_, fun X hX a b ha hb2 => ?_⟩
          · rw [f2.1 44 _ (decide_eq_false (by omega))]; exact hm1.2.2.1 a b ha hb
          · cases hX
            rw [k2, if_pos ⟨rfl, Nat.zero_le _, by omega⟩]
            exact hm1.2.2.1 a b (by omega) (by omega)
        rw [if_neg (show ¬ bz true = 0 by decide), m_X10_keepsBest, eF]
        rw [show m_X10_keepsBest_2 F 0 g1 = some (0, g2) from k1, bdd_some]
        exact next (some N) g2 (f1.tr f2') hm2 (lb_new hlb hv hlt)
    rw [m_X10_least_79, if_neg (by decide), sum_T hms, bdd_some]
    cases r with
    | none =>
      rw [if_pos (gp_none _)]
      exact ask (fun X h => by cases h)
    | some X =>
      have hX := htot X
      have hN := htot N
      rw [show gp_o (Option.map (tot_ nb nh mo) (some X)) = nI (tot_ nb nh mo X) from rfl, if_neg (nn2 (by omega))]
      by_cases z : tot_ nb nh mo X ≤ tot_ nb nh mo N
      · rw [if_pos (by rw [nI_leI (by omega) (by omega)]; exact z)]
        exact next (some X) g fr_.rf hms (lb_skip hlb (Nat.le_succ _) (fun Y h1 h2 h3 => by
          have : Y = N := by omega
          subst this
          exact ⟨X, rfl, z⟩))
      · rw [if_neg (by rw [nI_leI (by omega) (by omega)]; exact z)]
        exact ask (fun X' h => by cases h; omega)
/-! few tables -/
def iv2 (v P : Nat) : Prop := (v = P ∧ v ≤ 65536 * 16) ∨ (65536 < v ∧ v ≤ 65536 * 16 ∧ 65536 < P)
theorem gt_lN {v : Nat} (hv : v < 2 ^ 62) : ((0 : Int32) < lg_cmp (lN v) (65536 : Int64)) ↔ 65536 < v := by
  rw [cmp_gt]
  exact pk_lLT (a := 65536) (b := v) (by omega) (by omega)
theorem few15 {nb nh hd : Nat} {mo : Nat → Nat} {g : Mm} (hs : sr_ nb nh hd mo g) (K : Int64 → Int32 → Mm → Option (Int32 × Mm)) (h : Nat) {A : Nat} : ∀ (fu i v : Nat), nb < i + fu → i ≤ nb → iv2 v (A * pw_ mo i) → ∃ v', m_X10_isFewTables_15 K fu (lN v) (nI h) (nI i) g = K (lN v') (nI (h + 1)) g ∧ iv2 v' (A * pw_ mo nb) := by
  obtain ⟨⟨a1, a2, a3, a4, a5⟩, ⟨t1, t2, t3⟩, t4⟩ := hs
  intro fu
  induction fu with
  | zero => intro i v h1 h2; omega
  | succ fu ih =>
    intro i v h1 h2 hv
    rw [m_X10_isFewTables_15, t1]
    by_cases q : i = nb
    · subst q
      exact ⟨v, by rw [if_pos (by rw [nI_leI (by omega) (by omega)]; omega), nI_1], hv⟩
    · have hv16 : v ≤ 65536 * 16 := by
        rcases hv with h | h
        · exact h.2
        · exact h.2.1
      obtain ⟨m1, m2⟩ := t4 i (by omega)
      rw [if_neg (by rw [nI_leI (by omega) (by omega)]; omega)]
      by_cases z : 65536 < v
      · refine ⟨v, by rw [if_pos ((gt_lN (by omega)).mpr z), nI_1], Or.inr ⟨z, hv16, ?_⟩⟩
        have hP : 65536 < A * pw_ mo i := by
          rcases hv with h | h
          · omega
          · exact h.2.2
        -- the product grows
        have mono : ∀ k, i ≤ k → pw_ mo i ≤ pw_ mo k := by
          intro k
          induction k with
          | zero => intro hk; rw [show i = 0 by omega]; exact Nat.le_refl _
          | succ k ih2 =>
            intro hk
            by_cases w : i = k + 1
            · rw [w]; exact Nat.le_refl _
            · have h5 := ih2 (by omega)
              rw [pw_]
              exact Nat.le_trans h5 (Nat.le_mul_of_pos_right _ (Nat.succ_pos _))
        exact Nat.lt_of_lt_of_le hP (Nat.mul_le_mul_left _ (mono nb h2))
      · have hvP : v = A * pw_ mo i := by
          rcases hv with h | h
          · exact h.1
          · omega
        have hvm : v * (mo i + 1) ≤ 65536 * 16 := Nat.mul_le_mul (by omega) (by omega)
        obtain ⟨v', y1, y2⟩ := ih (i + 1) (v * (mo i + 1)) (by omega) (by omega) (Or.inl ⟨by rw [pw_, hvP, Nat.mul_assoc], hvm⟩)
        refine ⟨v', ?_, y2⟩
        rw [if_neg (fun w => z ((gt_lN (by omega)).mp w)), ix_nI (by omega) (by omega), gdd_true, nI_clamp (by omega), m1, nI_1, nI_l (by omega), lN_mul, nI_1]
        exact y1
theorem few_m {nb nh hd : Nat} {mo : Nat → Nat} {g : Mm} (hs : sr_ nb nh hd mo g) : m_X10_isFewTables g = some (bz (decide (pw_ mo nb ^ nh ≤ 65536)), g) := by
  obtain ⟨⟨a1, a2, a3, a4, a5⟩, ⟨t1, t2, t3⟩, t4⟩ := id hs
  obtain ⟨F, eF, hF⟩ := fu_get
  have key : ∀ (fu h v : Nat), nh < h + fu → h ≤ nh → iv2 v (pw_ mo nb ^ h) → m_X10_isFewTables_4 fu (lN v) (nI h) g = some (bz (decide (pw_ mo nb ^ nh ≤ 65536)), g) := by
    intro fu
    induction fu with
    | zero => intro h v h1 h2; omega
    | succ fu ih =>
      intro h v h1 h2 hv
      have hv16 : v ≤ 65536 * 16 := by
        rcases hv with h | h
        · exact h.2
        · exact h.2.1
      rw [m_X10_isFewTables_4, t2]
      by_cases q : h = nh
      · subst q
        rw [if_pos (by rw [nI_leI (by omega) (by omega)]; omega)]
        by_cases z : 65536 < v
        · rw [if_pos ((gt_lN (by omega)).mpr z), decide_eq_false (by
            rcases hv with h5 | h5 <;> omega)]
          rfl
        · rw [if_neg (fun w => z ((gt_lN (by omega)).mp w)), decide_eq_true (by
            rcases hv with h5 | h5 <;> omega)]
          rfl
      · obtain ⟨v', y1, y2⟩ := few15 hs (m_X10_isFewTables_4 fu) h (A := pw_ mo nb ^ h) F 0 v (by omega) (Nat.zero_le _) (by rw [pw_, Nat.mul_one]; exact hv)
        rw [if_neg (by rw [nI_leI (by omega) (by omega)]; omega), eF]
        rw [show m_X10_isFewTables_15 (m_X10_isFewTables_4 fu) F (lN v) (nI h) 0 g = _ from y1]
        exact ih (h + 1) v' (by omega) (by omega) (by rw [Nat.pow_succ]; exact y2)
  rw [m_X10_isFewTables, eF]
  exact key F 0 1 (by omega) (Nat.zero_le _) (Or.inl ⟨rfl, by omega⟩)
theorem zero_m (x1 : Int32) : ∀ (fu i : Nat) (g : Mm), 144 < i + fu → i ≤ 144 → ∃ g', m_X10_least_54 fu x1 (nI i) g = m_X10_least_79 fuL x1 (-2) 1 g' ∧ (∀ c k, rdI g' c k = if c = 44 ∧ i ≤ k ∧ k < 144 then 0 else rdI g c k) ∧ g'.2 = g.2 := by
  intro fu
  induction fu with
  | zero => intro i g h1 h2; omega
  | succ fu ih =>
    intro i g h1 h2
    rw [m_X10_least_54]
    by_cases q : i = 144
    · subst q
      exact ⟨g, by rw [if_pos (by decide)], fun c k => by rw [if_neg (by omega)], rfl⟩
    · obtain ⟨g', e1, e2, e3⟩ := ih (i + 1) (wrI g 44 i 0) (by omega) (by omega)
      refine ⟨g', ?_, fun c k => ?_, e3⟩
      · rw [if_neg (show ¬ (144 : Int32) ≤ nI i from fun w => by have := (nI_leI (a := 144) (by omega) (by omega)).mp w; omega), ix_nI (by omega) (by omega), gdd_true, nI_clamp (by omega), nI_1]
        exact e1
      · rw [e2, rI_wI]
        by_cases z : c = 44 ∧ i ≤ k ∧ k < 144
        · rw [if_pos z]
          by_cases z2 : k = i
          · rw [if_neg (by omega), if_pos ⟨z.1, z2⟩]
          · rw [if_pos (by omega)]
        · rw [if_neg z, if_neg (by omega), if_neg (by omega)]
