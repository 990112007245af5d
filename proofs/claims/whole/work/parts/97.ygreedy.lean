/-! greedy -/
theorem told_rows {nb nh w X : Nat} {R R' : Nat → Nat → Nat} {r : Nat → Nat} (h : ∀ a b, a < nh → X.testBit a = true → b < nb → R a b = R' a b) : told_ nb nh w R r X = told_ nb nh w R' r X := by
  refine alN_congr (fun a ha => ?_)
  cases q : X.testBit a with
  | false => rfl
  | true => rw [cnt_congr (fun b hb => by rw [h a b ha q hb])]
/-- the rows are the first ones, each told from those ahead -/
def PG (nb nh w : Nat) (mr : Nat → Nat) (R : Nat → Nat → Nat) (h x y z : Nat) : Bool := told_ nb nh w R (T3 x y z) (XA (mr h) h)
def gd_ (nb nh w : Nat) (mo mr : Nat → Nat) (R : Nat → Nat → Nat) (h : Nat) : Prop := ∀ a, a < h → ft_ (ga3 nb mo) (PG nb nh w mr R a) (some (R a 0, R a 1, R a 2))
theorem PG_congr {nb nh w h : Nat} {mr : Nat → Nat} {R R' : Nat → Nat → Nat} (hh : h ≤ 24) (e : ∀ a b, a < h → b < nb → R a b = R' a b) : PG nb nh w mr R h = PG nb nh w mr R' h := by
  funext x y z
  refine told_rows (fun a b _ hX hb => e a b ?_ hb)
  rw [XA_bit (by omega), Bool.and_eq_true, decide_eq_true_eq] at hX
  exact hX.1
theorem gd_agree {nb nh w : Nat} {mo mr : Nat → Nat} {R R' : Nat → Nat → Nat} {h h' : Nat} (hnb : nb ≤ 3) (hh : h ≤ 24) (k : gd_ nb nh w mo mr R h) (k' : gd_ nb nh w mo mr R' h') : ∀ n a, a < n → a < h → a < h' → ∀ b, b < 3 → R a b = R' a b := by
  intro n
  induction n with
  | zero => intro a h1; omega
  | succ n ih =>
    intro a h1 h2 h3 b hb
    have e := PG_congr (nb := nb) (nh := nh) (w := w) (mr := mr) (h := a) (R := R) (R' := R') (by omega) (fun c d hc hd => ih c (by omega) (by omega) (by omega) d (by omega))
    have f1 := k a h2
    rw [e] at f1
    have f2 := Option.some.inj (ft_uniq f1 (k' a h3))
    have f3 := Prod.mk.inj f2
    have f4 := Prod.mk.inj f3.2
    rcases (by omega : b = 0 ∨ b = 1 ∨ b = 2) with rfl | rfl | rfl
    · exact f3.1
    · exact f4.1
    · exact f4.2
theorem gd_more {nb nh w : Nat} {mo mr : Nat → Nat} {R : Nat → Nat → Nat} {h x y z : Nat} (hh : h < 24) (k : gd_ nb nh w mo mr R h) (f : ft_ (ga3 nb mo) (PG nb nh w mr R h) (some (x, y, z))) : gd_ nb nh w mo mr (fun a b => if a = h then T3 x y z b else R a b) (h + 1) := by
  intro a ha
  have e : PG nb nh w mr (fun a b => if a = h then T3 x y z b else R a b) a = PG nb nh w mr R a := PG_congr (by omega) (fun c d hc _ => if_neg (by omega))
  rw [e]
  by_cases q : a = h
  · subst q
    show ft_ _ _ (some ((if a = a then T3 x y z 0 else R a 0), (if a = a then T3 x y z 1 else R a 1), (if a = a then T3 x y z 2 else R a 2)))
    rw [if_pos rfl, if_pos rfl, if_pos rfl]
    exact f
  · show ft_ _ _ (some ((if a = h then T3 x y z 0 else R a 0), (if a = h then T3 x y z 1 else R a 1), (if a = h then T3 x y z 2 else R a 2)))
    rw [if_neg q, if_neg q, if_neg q]
    exact k a (by omega)
def c28 (c i : Nat) : Bool := decide (c = 26 ∨ c = 28)
def mrv (cell : Nat) (mr : Nat → Nat) (g : Mm) : Prop := ∀ a, a < 24 → rdI g cell a = nI (mr a) ∧ mr a < 2 ^ 24
theorem ahead_c {mr : Nat → Nat} {g : Mm} (hm : mrv 6 mr g) {h : Nat} (hh : h < 24) : m_X5_hoursAhead (nI h) g = some (nI (XA (mr h) h), g) := by
  have hp := Nat.two_pow_pos h
  rw [m_X5_hoursAhead, ix_nI hh (by omega), gdd_true, nI_clamp (by omega), (hm h hh).1, shl_1 (by omega), show nI (2 ^ h) - (1 : Int32) = nI (2 ^ h - 1) from pk_sub (b := 1) hp, show (-1 : Int32) = nI (2 ^ 32 - 1) by decide, nI_xor, nI_and]
  rfl
theorem acp6 : ∀ h, h < 24 → acp (nI h * (6 : Int32)) (6 : Int32) 144 = true := by decide +kernel
theorem greedy_c {nb nh hd : Nat} {mo mr : Nat → Nat} : ∀ (fu h : Nat) (R : Nat → Nat → Nat) (g : Mm), nh < h + fu → h ≤ nh → sb_ nb nh hd mo g → mrv 6 mr g → (∀ a b, a < h → b < nb → rdI g 28 (6 * a + b) = nI (R a b)) → (∀ a b, a < h → b < 3 → R a b ≤ 15) → gd_ nb nh (nb - min hd nb + 1) mo mr R h →
    ∃ g', fr_ c28 g g' ∧ ((∃ R', m_X5_greedyTable_4 fu (nI (sm (fun a => R a 0 + R a 1 + R a 2) h)) (nI h) g = some (nI (sm (fun a => R' a 0 + R' a 1 + R' a 2) nh), g') ∧ gd_ nb nh (nb - min hd nb + 1) mo mr R' nh ∧ ∀ a b, a < nh → b < nb → rdI g' 28 (6 * a + b) = nI (R' a b)) ∨
      (∃ R' h', h' < nh ∧ gd_ nb nh (nb - min hd nb + 1) mo mr R' h' ∧ ft_ (ga3 nb mo) (PG nb nh (nb - min hd nb + 1) mr R' h') none ∧ m_X5_greedyTable_4 fu (nI (sm (fun a => R a 0 + R a 1 + R a 2) h)) (nI h) g = some (-1, g'))) := by
  intro fu
  induction fu with
  | zero => intro h R g h1 h2; omega
  | succ fu ih =>
    intro h R g h1 h2 hs hm hR hRb hgd
    obtain ⟨⟨a1, a2, a3, a4, a5⟩, ⟨t1, t2, t3⟩, t4⟩ := id hs
    rw [m_X5_greedyTable_4, t2]
    by_cases q : h = nh
    · subst q
      exact ⟨g, fr_.rf, Or.inl ⟨R, by rw [if_pos (by rw [nI_leI (by omega) (by omega)]; omega)], hgd, hR⟩⟩
    · have hX := XA_lt (m := mr h) (h := h) (by omega)
      obtain ⟨o, g1, f1, e1, e2, e3⟩ := first_c (a := 28) (X := XA (mr h) h) (R := R) (g := g) (by omega) (by decide) hs (fun a b ha hXa hb => by
        rw [XA_bit (by omega), Bool.and_eq_true, decide_eq_true_eq] at hXa
        exact ⟨hR a b hXa.1 hb, by have := hRb a b hXa.1 (by omega); omega⟩)
      have f1' : fr_ c28 g g1 := f1.le (fun c i z => by
        unfold c26 at z
        rw [decide_eq_true_eq] at z
        exact decide_eq_true (Or.inl z))
      rw [if_neg (by rw [nI_leI (by omega) (by omega)]; omega), ahead_c hm (by omega), bdd_some, e1, bdd_some]
      match o, e2, e3 with
      | none, e2, _ => exact ⟨g1, f1', Or.inr ⟨R, h, by omega, hgd, e2, by rw [if_pos (show bz (none : Option (Nat × Nat × Nat)).isSome = 0 from rfl)]⟩⟩
      | some (x, y, z), e2, ⟨k0, k1, k2⟩ =>
        obtain ⟨⟨gx, gy, gz, -⟩, -⟩ := id e2
        have l0 := ga3_le hs 0
        have l1 := ga3_le hs 1
        have l2 := ga3_le hs 2
        have e6 : (nI h * (6 : Int32)).toNatClampNeg = 6 * h := by rw [show (6 : Int32) = nI 6 from rfl, pk_mul, nI_clamp (by omega), Nat.mul_comm]
        have f2 : fr_ c28 g1 (cpI g1 26 0 28 (6 * h) 6) := ⟨fun c i z => by
          unfold c28 at z
          rw [decide_eq_false_iff_not] at z
          rw [rI_cI, if_neg (by omega)], rfl⟩
        have r0 : rdI (cpI g1 26 0 28 (6 * h) 6) 26 0 = nI x := by rw [rI_cI, if_neg (by omega)]; exact k0
        have r1 : rdI (cpI g1 26 0 28 (6 * h) 6) 26 1 = nI y := by rw [rI_cI, if_neg (by omega)]; exact k1
        have r2 : rdI (cpI g1 26 0 28 (6 * h) 6) 26 2 = nI z := by rw [rI_cI, if_neg (by omega)]; exact k2
        have f3 := f1'.tr f2
        have hm2 : mrv 6 mr (cpI g1 26 0 28 (6 * h) 6) := fun a ha => by
          rw [f3.1 6 a rfl]
          exact hm a ha
        have hR2 : ∀ a b, a < h + 1 → b < nb → rdI (cpI g1 26 0 28 (6 * h) 6) 28 (6 * a + b) = nI (if a = h then T3 x y z b else R a b) := fun a b ha hb => by
          rw [rI_cI]
          by_cases w : a = h
          · rw [if_pos (by omega), if_pos w, show 0 + (6 * a + b - 6 * h) = b by omega]
            rcases (by omega : b = 0 ∨ b = 1 ∨ b = 2) with rfl | rfl | rfl
            · exact k0
            · exact k1
            · exact k2
          · rw [if_neg (by omega), if_neg w, f1.1 28 _ rfl]
            exact hR a b (by omega) hb
        obtain ⟨g', y1, y2⟩ := ih (h + 1) (fun a b => if a = h then T3 x y z b else R a b) _ (by omega) (by omega) (hs.fr f3 (fun _ => rfl) (fun _ => rfl)) hm2 hR2 (fun a b ha hb => by
          by_cases w : a = h
          · rw [if_pos w]
            rcases (by omega : b = 0 ∨ b = 1 ∨ b = 2) with rfl | rfl | rfl
            · show x ≤ 15; omega
            · show y ≤ 15; omega
            · show z ≤ 15; omega
          · rw [if_neg w]
            exact hRb a b (by omega) hb) (gd_more (by omega) hgd e2)
        have hsum : sm (fun a => (if a = h then T3 x y z 0 else R a 0) + (if a = h then T3 x y z 1 else R a 1) + (if a = h then T3 x y z 2 else R a 2)) (h + 1) = sm (fun a => R a 0 + R a 1 + R a 2) h + (x + y + z) := by
          rw [sm, if_pos rfl, if_pos rfl, if_pos rfl]
          congr 1
          exact sm_congr (fun i hi => by rw [if_neg (by omega), if_neg (by omega), if_neg (by omega)])
        have e9 : m_X5_greedyTable_4 fu (nI (sm (fun a => R a 0 + R a 1 + R a 2) h + (x + y + z))) (nI (h + 1)) (cpI g1 26 0 28 (6 * h) 6) = m_X5_greedyTable_4 fu (nI (sm (fun a => (if a = h then T3 x y z 0 else R a 0) + (if a = h then T3 x y z 1 else R a 1) + (if a = h then T3 x y z 2 else R a 2)) (h + 1))) (nI (h + 1)) (cpI g1 26 0 28 (6 * h) 6) := by rw [hsum]
        refine ⟨g', f3.tr y1, ?_⟩
        rw [if_neg (show ¬ bz (some (x, y, z)).isSome = 0 from (by decide : ¬ bz true = 0)), show acp (0 : Int32) (6 : Int32) 6 = true by decide, gdd_true, acp6 h (by omega), gdd_true, show ixo (0 : Int32) 6 = true from rfl, gdd_true, show ixo (1 : Int32) 6 = true from rfl, gdd_true, show ixo (2 : Int32) 6 = true from rfl, gdd_true]
        rw [show (0 : Int32).toNatClampNeg = 0 from rfl, show (1 : Int32).toNatClampNeg = 1 from rfl, show (2 : Int32).toNatClampNeg = 2 from rfl, show (6 : Int32).toNatClampNeg = 6 from rfl, e6, r0, r1, r2]
        dsimp only [lti]
        rw [nI_add, nI_add, nI_add, nI_1, e9]
        exact y2
/-! the reference's -/
def c44 (c i : Nat) : Bool := decide (c = 44 ∧ i < 144)
theorem gr62 {nb nh hd : Nat} {mo mr : Nat → Nat} {M : Nat → Nat → Bool} {enc : Nat → Nat → Nat → Nat} {R : Nat → Nat → Nat} {h s : Nat} (hh : h < nh) (hs2 : s < 5000)
    (hE : (∀ x y z, x ≤ ga3 nb mo 0 → y ≤ ga3 nb mo 1 → z ≤ ga3 nb mo 2 → enc x y z < pw_ mo nb ∧ xd nb mo (enc x y z) 0 = x ∧ xd nb mo (enc x y z) 1 = y ∧ xd nb mo (enc x y z) 2 = z) ∧ ∀ c x y z, c < pw_ mo nb → x ≤ ga3 nb mo 0 → y ≤ ga3 nb mo 1 → z ≤ ga3 nb mo 2 → c ≤ enc x y z → xd nb mo c 0 < x ∨ (xd nb mo c 0 = x ∧ xd nb mo c 1 ≤ y))
    (hmr : ∀ b, b < 24 → (mr h).testBit b = M h b) (hsym : ∀ i j, i < 24 → j < 24 → M i j = M j i) (K : Int32 → Int32 → Int32 → Int32 → Mm → Option (Int32 × Mm)) (x1 : Int32) : ∀ (fu n : Nat) (g : Mm), sm mo nb + 2 < n + fu → n ≤ sm mo nb + 1 → sr_ nb nh hd mo g → mxv 45 M g → (∀ a b, a < h → b < nb → rdI g 44 (6 * a + b) = nI (R a b) ∧ R a b < 1000) →
    mv_ nb mo enc (PG nb nh (nb - min hd nb + 1) mr R h) n 0 →
    ∃ g', fr_ (c44r h) g g' ∧ ((∃ x y z, m_X10_greedy_62 K fu x1 0 (nI s) (nI h) (nI n) g = K x1 1 (nI (s + (x + y + z))) (nI (h + 1)) g' ∧ ft_ (ga3 nb mo) (PG nb nh (nb - min hd nb + 1) mr R h) (some (x, y, z)) ∧ ∀ b, b < nb → rdI g' 44 (6 * h + b) = nI (T3 x y z b)) ∨
      (m_X10_greedy_62 K fu x1 0 (nI s) (nI h) (nI n) g = K x1 0 (nI s) (nI (h + 1)) g' ∧ ft_ (ga3 nb mo) (PG nb nh (nb - min hd nb + 1) mr R h) none)) := by
  intro fu
  induction fu with
  | zero => intro n g h1 h2; omega
  | succ fu ih =>
    intro n g h1 h2 hs hM hR hv
    obtain ⟨s1, s2⟩ := sr_sum hs
    have a1 := hs.1.1
    have a2 := hs.1.2.1
    have a3 := hs.1.2.2.1
    rw [m_X10_greedy_62, most_m hs, bdd_some]
    by_cases q : n = sm mo nb + 1
    · refine ⟨g, fr_.rf, Or.inr ⟨by rw [if_pos (by rw [nI_ltI (by omega) (by omega)]; omega), nI_1], fun x y z k1 k2 k3 => ?_⟩⟩
      cases w : PG nb nh (nb - min hd nb + 1) mr R h x y z with
      | false => rfl
      | true =>
        have := hv x y z k1 k2 k3 w
        omega
    · rw [if_neg (by rw [nI_ltI (by omega) (by omega)]; omega), if_pos rfl]
      obtain ⟨g1, f1, k⟩ := finds_m hs hM (show h < 24 by omega) (show n < 100 by omega) hR
      have hs1 := hs.fr f1 (decide_eq_false (by omega)) (decide_eq_false (by omega)) (decide_eq_false (by omega)) (fun _ => decide_eq_false (by omega))
      have hM1 := hM.fr f1 (fun _ => decide_eq_false (by omega))
      -- what is asked of the row of number c
      have hP : ∀ c, pm_ nb (nb - min hd nb + 1) mo M R h n c = (decide (xd nb mo c 0 + xd nb mo c 1 + xd nb mo c 2 = n) && PG nb nh (nb - min hd nb + 1) mr R h (xd nb mo c 0) (xd nb mo c 1) (xd nb mo c 2)) := by
        intro c
        rw [pm_, xd_sum a1 a2, PG, told_ahead hh a3 hmr hsym]
        congr 1
        refine alN_congr (fun i hi => ?_)
        have e : cnt_ (fun b => decide (¬ R i b = T3 (xd nb mo c 0) (xd nb mo c 1) (xd nb mo c 2) b)) nb = cnt_ (fun b => decide (¬ R i b = rdig mo nb c b)) nb := cnt_congr (fun b hb => by rw [T3_xd mo a2 c b hb])
        rw [chk, chk, e]
      rcases k with ⟨c, k1, k2, k3, k4, k5⟩ | ⟨k1, k2⟩
      · rw [hP, Bool.and_eq_true, decide_eq_true_eq] at k3
        obtain ⟨k3, k6⟩ := k3
        obtain ⟨fu, rfl⟩ : ∃ f, fu = f + 1 := ⟨fu - 1, by omega⟩
        refine ⟨g1, f1, Or.inl ⟨xd nb mo c 0, xd nb mo c 1, xd nb mo c 2, ?_, ⟨⟨xd_le _ _ _ _, xd_le _ _ _ _, xd_le _ _ _ _, k6⟩, fun x y z l1 l2 l3 l4 => ?_⟩, fun b hb => by rw [k5 b hb, T3_xd mo a2 c b hb]⟩⟩
        · rw [k2, bdd_some, if_neg (by decide), nI_add, m_X10_greedy_62, most_m hs1, bdd_some, k3]
          by_cases w : nI (sm mo nb) < nI n + 1
          · rw [if_pos w, nI_1]
          · rw [if_neg w, if_neg (by decide), nI_1]
        · rcases hv x y z l1 l2 l3 l4 with h5 | ⟨h5, -⟩
          · exact Or.inl (by omega)
          · obtain ⟨m1, m2, m3, m4⟩ := hE.1 x y z l1 l2 l3
            have hle : c ≤ enc x y z := by
              rcases Nat.lt_or_ge (enc x y z) c with w | w
              · have := k4 _ w
                rw [hP, m2, m3, m4, l4, decide_eq_true h5.symm] at this
                cases this
              · exact w
            exact Or.inr ⟨by omega, hE.2 c x y z k1 l1 l2 l3 hle⟩
      · obtain ⟨g', y1, y2⟩ := ih (n + 1) g1 (by omega) (by omega) hs1 hM1 (fun a b l1 l2 => by rw [f1.1 44 _ (decide_eq_false (by omega))]; exact hR a b l1 l2) (fun x y z l1 l2 l3 l4 => by
          rcases hv x y z l1 l2 l3 l4 with h5 | ⟨h5, -⟩
          · omega
          · exfalso
            obtain ⟨m1, m2, m3, m4⟩ := hE.1 x y z l1 l2 l3
            have := k2 _ m1
            rw [hP, m2, m3, m4, l4, decide_eq_true h5.symm] at this
            cases this)
        refine ⟨g', f1.tr y1, ?_⟩
        rw [k1, bdd_some, if_pos rfl, show nI s + (0 : Int32) = nI s from nI_add s 0, nI_1]
        exact y2
theorem gr44 {nb nh hd : Nat} {mo mr : Nat → Nat} {M : Nat → Nat → Bool} {enc : Nat → Nat → Nat → Nat}
    (hE : (∀ x y z, x ≤ ga3 nb mo 0 → y ≤ ga3 nb mo 1 → z ≤ ga3 nb mo 2 → enc x y z < pw_ mo nb ∧ xd nb mo (enc x y z) 0 = x ∧ xd nb mo (enc x y z) 1 = y ∧ xd nb mo (enc x y z) 2 = z) ∧ ∀ c x y z, c < pw_ mo nb → x ≤ ga3 nb mo 0 → y ≤ ga3 nb mo 1 → z ≤ ga3 nb mo 2 → c ≤ enc x y z → xd nb mo c 0 < x ∨ (xd nb mo c 0 = x ∧ xd nb mo c 1 ≤ y))
    (hmr : ∀ a b, a < 24 → b < 24 → (mr a).testBit b = M a b) (hsym : ∀ i j, i < 24 → j < 24 → M i j = M j i) (x1 : Int32) : ∀ (fu h : Nat) (R : Nat → Nat → Nat) (g : Mm), nh + 1 < h + fu → h ≤ nh → sr_ nb nh hd mo g → mxv 45 M g → (∀ a b, a < h → b < nb → rdI g 44 (6 * a + b) = nI (R a b)) → (∀ a b, a < h → b < 3 → R a b ≤ 15) → gd_ nb nh (nb - min hd nb + 1) mo mr R h →
    ∃ g', fr_ c44 g g' ∧ ((∃ R', m_X10_greedy_44 fu x1 1 (nI (sm (fun a => R a 0 + R a 1 + R a 2) h)) (nI h) g = m_X10_greedy_112 x1 1 (nI (sm (fun a => R' a 0 + R' a 1 + R' a 2) nh)) g' ∧ gd_ nb nh (nb - min hd nb + 1) mo mr R' nh ∧ ∀ a b, a < nh → b < nb → rdI g' 44 (6 * a + b) = nI (R' a b)) ∨
      (∃ R' h' v, h' < nh ∧ gd_ nb nh (nb - min hd nb + 1) mo mr R' h' ∧ ft_ (ga3 nb mo) (PG nb nh (nb - min hd nb + 1) mr R' h') none ∧ m_X10_greedy_44 fu x1 1 (nI (sm (fun a => R a 0 + R a 1 + R a 2) h)) (nI h) g = m_X10_greedy_112 x1 0 v g')) := by
  intro fu
  induction fu with
  | zero => intro h R g h1 h2; omega
  | succ fu ih =>
    intro h R g h1 h2 hs hM hR hRb hgd
    obtain ⟨⟨a1, a2, a3, a4, a5⟩, ⟨t1, t2, t3⟩, t4⟩ := id hs
    rw [m_X10_greedy_44, t2]
    by_cases q : h = nh
    · subst q
      exact ⟨g, fr_.rf, Or.inl ⟨R, by rw [if_pos (by rw [nI_leI (by omega) (by omega)]; omega)], hgd, hR⟩⟩
    · obtain ⟨F, eF, hF⟩ := fu_get
      have hsle : sm (fun a => R a 0 + R a 1 + R a 2) h ≤ h * 45 := sm_le (fun a ha => by
        have b0 := hRb a 0 ha (by omega)
        have b1 := hRb a 1 ha (by omega)
        have b2 := hRb a 2 ha (by omega)
        omega)
      have hsum := (sr_sum hs).2
      rw [if_neg (by rw [nI_leI (by omega) (by omega)]; omega), if_neg (by decide), eF]
      have hle44 : ∀ c i, c44r h c i = true → c44 c i = true := fun c i z => by
        unfold c44r at z
        rw [decide_eq_true_eq] at z
        exact decide_eq_true ⟨z.1, by omega⟩
      obtain ⟨g1, f1, k⟩ := gr62 (nb := nb) (nh := nh) (hd := hd) (R := R) (s := sm (fun a => R a 0 + R a 1 + R a 2) h) (show h < nh by omega) (by omega) hE (fun b hb => hmr h b (by omega) hb) hsym (m_X10_greedy_44 fu) x1 F 0 g (by omega) (by omega) hs hM (fun a b l1 l2 => ⟨hR a b l1 l2, by have := hRb a b l1 (by omega); omega⟩) (fun x y z _ _ _ _ => by omega)
      have f1' := f1.le hle44
      have hs1 := hs.fr f1 (decide_eq_false (by omega)) (decide_eq_false (by omega)) (decide_eq_false (by omega)) (fun _ => decide_eq_false (by omega))
      have hM1 := hM.fr f1 (fun _ => decide_eq_false (by omega))
      rcases k with ⟨x, y, z, k1, k2, k3⟩ | ⟨k1, k2⟩
      · obtain ⟨⟨gx, gy, gz, -⟩, -⟩ := id k2
        have g15 : ∀ b, ga3 nb mo b ≤ 15 := fun b => by
          unfold ga3
          split
          · rename_i hb; exact (t4 b hb).2
          · omega
        have l0 := g15 0
        have l1 := g15 1
        have l2 := g15 2
        obtain ⟨g', y1, y2⟩ := ih (h + 1) (fun a b => if a = h then T3 x y z b else R a b) g1 (by omega) (by omega) hs1 hM1 (fun a b ha hb => by
          by_cases w : a = h
          · rw [if_pos w, w]
            exact k3 b hb
          · rw [if_neg w, f1.1 44 _ (decide_eq_false (by omega))]
            exact hR a b (by omega) hb) (fun a b ha hb => by
          by_cases w : a = h
          · rw [if_pos w]
            rcases (by omega : b = 0 ∨ b = 1 ∨ b = 2) with rfl | rfl | rfl
            · show x ≤ 15; omega
            · show y ≤ 15; omega
            · show z ≤ 15; omega
          · rw [if_neg w]
            exact hRb a b (by omega) hb) (gd_more (by omega) hgd k2)
        have hsum2 : sm (fun a => (if a = h then T3 x y z 0 else R a 0) + (if a = h then T3 x y z 1 else R a 1) + (if a = h then T3 x y z 2 else R a 2)) (h + 1) = sm (fun a => R a 0 + R a 1 + R a 2) h + (x + y + z) := by
          rw [sm, if_pos rfl, if_pos rfl, if_pos rfl]
          congr 1
          exact sm_congr (fun i hi => by rw [if_neg (by omega), if_neg (by omega), if_neg (by omega)])
        have e9 : m_X10_greedy_44 fu x1 1 (nI (sm (fun a => R a 0 + R a 1 + R a 2) h + (x + y + z))) (nI (h + 1)) g1 = m_X10_greedy_44 fu x1 1 (nI (sm (fun a => (if a = h then T3 x y z 0 else R a 0) + (if a = h then T3 x y z 1 else R a 1) + (if a = h then T3 x y z 2 else R a 2)) (h + 1))) (nI (h + 1)) g1 := by rw [hsum2]
        refine ⟨g', f1'.tr y1, ?_⟩
        rw [show m_X10_greedy_62 (m_X10_greedy_44 fu) F x1 0 (nI (sm (fun a => R a 0 + R a 1 + R a 2) h)) (nI h) 0 g = _ from k1, e9]
        exact y2
      · obtain ⟨fu, rfl⟩ : ∃ f, fu = f + 1 := ⟨fu - 1, by omega⟩
        refine ⟨g1, f1', Or.inr ⟨R, h, nI (sm (fun a => R a 0 + R a 1 + R a 2) h), by omega, hgd, k2, ?_⟩⟩
        rw [show m_X10_greedy_62 (m_X10_greedy_44 (fu + 1)) F x1 0 (nI (sm (fun a => R a 0 + R a 1 + R a 2) h)) (nI h) 0 g = _ from k1, m_X10_greedy_44, if_pos (rfl : (0 : Int32) = 0)]
        split <;> rfl
/-! tables laid aside -/
theorem aside_m : ∀ (fu i : Nat) (g : Mm), 144 < i + fu → i ≤ 144 → ∃ g', m_X10_laysAside_2 fu (nI i) g = some (0, g') ∧ (∀ c k, rdI g' c k = if c = 52 ∧ i ≤ k ∧ k < 144 then rdI g 44 k else rdI g c k) ∧ g'.2 = g.2 := by
  intro fu
  induction fu with
  | zero => intro i g h1 h2; omega
  | succ fu ih =>
    intro i g h1 h2
    rw [m_X10_laysAside_2]
    by_cases q : i = 144
    · subst q
      exact ⟨g, by rw [if_pos (by decide)], fun c k => by rw [if_neg (by omega)], rfl⟩
    · obtain ⟨g', e1, e2, e3⟩ := ih (i + 1) (wrI g 52 i (rdI g 44 i)) (by omega) (by omega)
      refine ⟨g', ?_, fun c k => ?_, e3⟩
      · rw [if_neg (show ¬ (144 : Int32) ≤ nI i from fun w => by have := (nI_leI (a := 144) (by omega) (by omega)).mp w; omega), ix_nI (by omega) (by omega), gdd_true, gdd_true, nI_clamp (by omega), nI_1]
        exact e1
      · rw [e2, rI_wI, rI_wI, if_neg (show ¬ (44 = 52 ∧ k = i) by omega)]
        by_cases z : c = 52 ∧ i ≤ k ∧ k < 144
        · rw [if_pos z]
          by_cases z2 : k = i
          · rw [if_neg (by omega), if_pos ⟨z.1, z2⟩, z2]
          · rw [if_pos (by omega)]
        · rw [if_neg z, if_neg (by omega), if_neg (by omega)]
theorem back_m : ∀ (fu i : Nat) (g : Mm), 144 < i + fu → i ≤ 144 → ∃ g', m_X10_laysBack_2 fu (nI i) g = some (0, g') ∧ (∀ c k, rdI g' c k = if c = 44 ∧ i ≤ k ∧ k < 144 then rdI g 52 k else rdI g c k) ∧ g'.2 = g.2 := by
  intro fu
  induction fu with
  | zero => intro i g h1 h2; omega
  | succ fu ih =>
    intro i g h1 h2
    rw [m_X10_laysBack_2]
    by_cases q : i = 144
    · subst q
      exact ⟨g, by rw [if_pos (by decide)], fun c k => by rw [if_neg (by omega)], rfl⟩
    · obtain ⟨g', e1, e2, e3⟩ := ih (i + 1) (wrI g 44 i (rdI g 52 i)) (by omega) (by omega)
      refine ⟨g', ?_, fun c k => ?_, e3⟩
      · rw [if_neg (show ¬ (144 : Int32) ≤ nI i from fun w => by have := (nI_leI (a := 144) (by omega) (by omega)).mp w; omega), ix_nI (by omega) (by omega), gdd_true, gdd_true, nI_clamp (by omega), nI_1]
        exact e1
      · rw [e2, rI_wI, rI_wI, if_neg (show ¬ (52 = 44 ∧ k = i) by omega)]
        by_cases z : c = 44 ∧ i ≤ k ∧ k < 144
        · rw [if_pos z]
          by_cases z2 : k = i
          · rw [if_neg (by omega), if_pos ⟨z.1, z2⟩, z2]
          · rw [if_pos (by omega)]
        · rw [if_neg z, if_neg (by omega), if_neg (by omega)]
theorem keep_m : ∀ (fu i : Nat) (g : Mm), 144 < i + fu → i ≤ 144 → ∃ g', m_X10_keepsBest_2 fu (nI i) g = some (0, g') ∧ (∀ c k, rdI g' c k = if c = 53 ∧ i ≤ k ∧ k < 144 then rdI g 44 k else rdI g c k) ∧ g'.2 = g.2 := by
  intro fu
  induction fu with
  | zero => intro i g h1 h2; omega
  | succ fu ih =>
    intro i g h1 h2
    rw [m_X10_keepsBest_2]
    by_cases q : i = 144
    · subst q
      exact ⟨g, by rw [if_pos (by decide)], fun c k => by rw [if_neg (by omega)], rfl⟩
    · obtain ⟨g', e1, e2, e3⟩ := ih (i + 1) (wrI g 53 i (rdI g 44 i)) (by omega) (by omega)
      refine ⟨g', ?_, fun c k => ?_, e3⟩
      · rw [if_neg (show ¬ (144 : Int32) ≤ nI i from fun w => by have := (nI_leI (a := 144) (by omega) (by omega)).mp w; omega), ix_nI (by omega) (by omega), gdd_true, gdd_true, nI_clamp (by omega), nI_1]
        exact e1
      · rw [e2, rI_wI, rI_wI, if_neg (show ¬ (44 = 53 ∧ k = i) by omega)]
        by_cases z : c = 53 ∧ i ≤ k ∧ k < 144
        · rw [if_pos z]
          by_cases z2 : k = i
          · rw [if_neg (by omega), if_pos ⟨z.1, z2⟩, z2]
          · rw [if_pos (by omega)]
        · rw [if_neg z, if_neg (by omega), if_neg (by omega)]
/-- what an answer of a search is asked for -/
def hb_ (nb nh : Nat) (x : Int32) : Prop := x = -1 ∨ ∃ a b, a < nh ∧ b < nb ∧ x = nI (10 * a + b)
theorem hb_1 {a b : Nat} (ha : a < 24) (hb : b < 6) : ¬ nI (10 * a + b) = (-1 : Int32) := fun w => by
  have e := congrArg Int32.toInt w
  rw [nI_toInt (by omega), show (-1 : Int32).toInt = -1 from rfl] at e
  omega
theorem hb_ix {a b : Nat} (ha : a < 24) (hb : b < 6) : (nI (10 * a + b) / (10 : Int32)) * (6 : Int32) + rmI (nI (10 * a + b)) (10 : Int32) = nI (6 * a + b) ∧ (6 : Int32) * (nI (10 * a + b) / (10 : Int32)) + rmI (nI (10 * a + b)) (10 : Int32) = nI (6 * a + b) := by
  have e1 : nI (10 * a + b) / (10 : Int32) = nI a := by
    rw [show (10 : Int32) = nI 10 from rfl, pk_div (by omega) (by omega) (by omega), show (10 * a + b) / 10 = a by omega]
  have e2 : rmI (nI (10 * a + b)) (10 : Int32) = nI b := by
    rw [show (10 : Int32) = nI 10 from rfl, rm_nI (by omega) (by omega) (by omega), show (10 * a + b) % 10 = b by omega]
  rw [e1, e2, show (6 : Int32) = nI 6 from rfl, pk_mul, pk_mul, nI_add, nI_add, Nat.mul_comm a 6]
  exact ⟨rfl, rfl⟩
theorem rows_c {nb : Nat} {g : Mm} (t1 : rdI g 1 0 = nI nb) (hb : nb ≤ 6) : m_X5_mayTryAllRows g = some (bz (decide (1 ≤ nb ∧ nb ≤ 3)), g) := by
  rw [m_X5_mayTryAllRows, t1]
  by_cases q : nb < 1
  · rw [if_pos (show nI nb < (1 : Int32) from (nI_ltI (b := 1) (by omega) (by omega)).mpr q), decide_eq_false (by omega)]
    rfl
  · rw [if_neg (show ¬ nI nb < (1 : Int32) from fun w => q ((nI_ltI (b := 1) (by omega) (by omega)).mp w))]
    by_cases q2 : 3 < nb
    · rw [if_pos (show (3 : Int32) < nI nb from (nI_ltI (a := 3) (by omega) (by omega)).mpr q2), decide_eq_false (by omega)]
      rfl
    · rw [if_neg (show ¬ (3 : Int32) < nI nb from fun w => q2 ((nI_ltI (a := 3) (by omega) (by omega)).mp w)), decide_eq_true (by omega)]
      rfl
theorem op_greedy (a0 : Int32) {g : Mm} (hg : gv_ g) : al_ (m_X9_greedy a0) (m_X10_greedy a0) g := by
  have hg0 := hg
  obtain ⟨nb, nh, hd, cd, ck, tl, rt, nn, na, ra, f, hT, hX, hC, hP, hL, hE, hA, hS⟩ := hg
  obtain ⟨⟨b1, b2, b3, b4, b5⟩, ⟨t1, t2, t3, t4, t5, t6⟩, t7, t8, t9, t10⟩ := id hT
  obtain ⟨x1, x2, x3⟩ := id hX
  -- which cells are asked for
  by_cases hhb : hb_ nb nh a0
  · have hc : m_X9_greedy a0 g = m_X9_greedy_18 a0 g := by
      rw [m_X9_greedy]
      rcases hhb with rfl | ⟨a, b, ha, hb, rfl⟩
      · rw [if_pos rfl]
      · have hcell : cell_ nb nh (nI (10 * a + b)) = true := by
          unfold cell_
          rw [nI_toInt (by omega), decide_eq_true (by omega), Bool.true_and, Bool.and_eq_true, decide_eq_true_eq, decide_eq_true_eq]
          omega
        rw [if_neg (hb_1 (by omega) (by omega)), m8_hasCell t1 t2 b1 b3, hcell, bdd_some, if_neg (show ¬ bz true = 0 by decide)]
    have hm : ∀ g1, rdI g1 40 4 = nI nb → rdI g1 40 5 = nI nh → m_X10_greedy a0 g1 = m_X10_greedy_15 a0 g1 := by
      intro g1 u1 u2
      rw [m_X10_greedy]
      rcases hhb with rfl | ⟨a, b, ha, hb, rfl⟩
      · rw [if_pos rfl]
      · have hcell : cell_ nb nh (nI (10 * a + b)) = true := by
          unfold cell_
          rw [nI_toInt (by omega), decide_eq_true (by omega), Bool.true_and, Bool.and_eq_true, decide_eq_true_eq, decide_eq_true_eq]
          omega
        rw [if_neg (hb_1 (by omega) (by omega)), m10_isCell u1 u2 b1 b3, hcell, bdd_some, if_neg (show ¬ bz true = 0 by decide)]
    by_cases n13 : 1 ≤ nb ∧ nb ≤ 3
    · obtain ⟨nb1, n3⟩ := n13
      have mo2 : ∀ b, b < nb → rdI g 2 b = nI (rdI g 2 b).toNatClampNeg ∧ rdI g 41 b = nI (rdI g 2 b).toNatClampNeg ∧ (rdI g 2 b).toNatClampNeg ≤ 15 := fun b hb => by
        obtain ⟨⟨k, k1, k2, e⟩, -⟩ := t8 b hb
        rw [(t7 b (by omega)).1, e, nI_clamp (by omega)]
        exact ⟨rfl, rfl, k2⟩
      have hsb : sb_ nb nh hd (fun b => (rdI g 2 b).toNatClampNeg) g := ⟨⟨nb1, n3, b3, b4, b5⟩, ⟨t1, t2, t3⟩, fun b hb => ⟨(mo2 b hb).1, (mo2 b hb).2.2⟩⟩
      have hmr : mrv 6 (fun a => (rdI g 6 a).toNatClampNeg) g := fun a ha => by
        obtain ⟨m, m1, m2, -⟩ := x2 a ha
        have := nI_lt2 m1 b3
        show rdI g 6 a = nI (rdI g 6 a).toNatClampNeg ∧ (rdI g 6 a).toNatClampNeg < 2 ^ 24
        rw [m2, nI_clamp (by omega)]
        exact ⟨rfl, this⟩
      have hM : mxv 45 (mx_ g) g := fun a ha => by
        refine ⟨(rdI g 6 a).toNatClampNeg, (hmr a ha).2, ?_, fun b _ => rfl⟩
        rw [x1 a ha]
        exact (hmr a ha).1
      obtain ⟨F, eF, hF⟩ := fu_get
      obtain ⟨enc, hE⟩ := code_ok (fun b => (rdI g 2 b).toNatClampNeg) nb1 n3
      obtain ⟨g1, f1, kc⟩ := greedy_c (nb := nb) (nh := nh) (hd := hd) F 0 (fun _ _ => 0) g (by omega) (by omega) hsb hmr (fun a b ha => absurd ha (Nat.not_lt_zero _)) (fun a b ha => absurd ha (Nat.not_lt_zero _)) (fun a ha => absurd ha (Nat.not_lt_zero _))
      have s1 : sc_ g g1 := fr_sc f1 (fun c i z => by
        unfold c28 at z
        rw [decide_eq_true_eq] at z
        rcases z with rfl | rfl <;> rfl)
      obtain ⟨g2, e2, e3, e4⟩ := aside_m F 0 g1 (by omega) (by omega)
      have f2 : fr_ (fun c _ => decide (c = 52)) g1 g2 := ⟨fun c i z => by rw [e3, if_neg (fun w => by rw [w.1] at z; cases z)], e4⟩
      have hsr : sr_ nb nh hd (fun b => (rdI g 2 b).toNatClampNeg) g2 := by
        refine ⟨⟨nb1, n3, b3, b4, b5⟩, ⟨?_, ?_, ?_⟩, fun b hb => ⟨?_, (mo2 b hb).2.2⟩⟩
        · rw [f2.1 40 4 rfl, f1.1 40 4 rfl]; exact t4
        · rw [f2.1 40 5 rfl, f1.1 40 5 rfl]; exact t5
        · rw [f2.1 40 6 rfl, f1.1 40 6 rfl]; exact t6
        · rw [f2.1 41 b rfl, f1.1 41 b rfl]; exact (mo2 b hb).2.1
      have hM2 : mxv 45 (mx_ g) g2 := (hM.fr f1 (fun _ => rfl)).fr f2 (fun _ => rfl)
      obtain ⟨g3, f3, km⟩ := gr44 (nb := nb) (nh := nh) (hd := hd) (mr := fun a => (rdI g 6 a).toNatClampNeg) hE (fun a b _ _ => rfl) x3 a0 F 0 (fun _ _ => 0) g2 (by omega) (by omega) hsr hM2 (fun a b ha => absurd ha (Nat.not_lt_zero _)) (fun a b ha => absurd ha (Nat.not_lt_zero _)) (fun a ha => absurd ha (Nat.not_lt_zero _))
      obtain ⟨g4, e5, e6, e7⟩ := back_m F 0 g3 (by omega) (by omega)
      have s4 : sc_ g g4 := by
        refine ⟨fun c i z => ?_, ((e7.trans f3.2).trans e4).trans f1.2⟩
        rw [e6]
        by_cases w : c = 44 ∧ 0 ≤ i ∧ i < 144
        · rw [if_pos w, f3.1 52 i (decide_eq_false (by omega)), e3, if_pos (by omega), w.1, f1.1 44 i rfl]
        · rw [if_neg w, f3.1 c i (decide_eq_false (by omega)), e3, if_neg (fun w2 => by rw [w2.1] at z; cases z), s1.1 c i z]
      have xm : m_X10_greedy a0 g1 = m_X10_greedy_44 F a0 1 0 0 g2 := by
        rw [hm g1 (by rw [f1.1 40 4 rfl]; exact t4) (by rw [f1.1 40 5 rfl]; exact t5), m_X10_greedy_15, show rdI g1 40 4 = nI nb by rw [f1.1 40 4 rfl]; exact t4, if_neg (show ¬ nI nb = (0 : Int32) from fun w => by have := (nI_eq (b := 0) (by omega) (by omega)).mp w; omega), if_pos (show nI nb ≤ (3 : Int32) from (nI_leI (b := 3) (by omega) (by omega)).mpr n3), m_X10_laysAside, eF]
        rw [show m_X10_laysAside_2 F 0 g1 = some (0, g2) from e2, bdd_some]
      have lb : m_X10_laysBack g3 = some (0, g4) := by
        rw [m_X10_laysBack, eF]
        exact e5
      have x18 : m_X9_greedy_18 a0 g = bdd (m_X5_greedyTable_4 F 0 0 g) (fun ra5 ga6 => (if (0 : Int32) ≤ ra5 then bdd (m_X5_answerOf a0 ra5 ga6) (fun ra9 ga10 => some (ra9, ga10)) else some ((-2 : Int32), ga6))) := by
        rw [m_X9_greedy_18, rows_c t1 b1, decide_eq_true ⟨nb1, n3⟩, bdd_some, if_neg (show ¬ bz true = 0 by decide), m_X5_greedyTable, eF]
      rcases kc with ⟨R, c1, c2, c3⟩ | ⟨R, h', c0, c1, c2, c3⟩
      · rcases km with ⟨R', d1, d2, d3⟩ | ⟨R', h'', v, d0, d1, d2, d3⟩
        · have ag := gd_agree n3 b3 c2 d2
          have hle : sm (fun a => R a 0 + R a 1 + R a 2) nh ≤ nh * 45 := sm_le (fun a ha => by
            obtain ⟨⟨k1, k2, k3, -⟩, -⟩ := c2 a ha
            have l0 := ga3_le hsb 0
            have l1 := ga3_le hsb 1
            have l2 := ga3_le hsb 2
            omega)
          have hsm : sm (fun a => R a 0 + R a 1 + R a 2) nh = sm (fun a => R' a 0 + R' a 1 + R' a 2) nh := sm_congr (fun a ha => by
            rw [ag nh a ha ha ha 0 (by omega), ag nh a ha ha ha 1 (by omega), ag nh a ha ha ha 2 (by omega)])
          have hmain : ∃ r, bdd (m_X5_answerOf a0 (nI (sm (fun a => R a 0 + R a 1 + R a 2) nh)) g1) (fun ra9 ga10 => some (ra9, ga10)) = some (r, g1) ∧ m_X10_greedy_112 a0 1 (nI (sm (fun a => R' a 0 + R' a 1 + R' a 2) nh)) g3 = some (r, g4) := by
            rcases hhb with rfl | ⟨a, b, ha, hb, rfl⟩
            · refine ⟨nI (sm (fun a => R a 0 + R a 1 + R a 2) nh), ?_, ?_⟩
              · rw [m_X5_answerOf, if_pos rfl, bdd_some]
              · rw [m_X10_greedy_112, if_neg (by decide), if_pos rfl, m_X10_greedy_147, lb, bdd_some, hsm]
            · refine ⟨nI (R a b), ?_, ?_⟩
              · rw [m_X5_answerOf, if_neg (hb_1 (by omega) (by omega)), (hb_ix (by omega) (by omega)).1, ix_nI (by omega) (by omega), gdd_true, nI_clamp (by omega), c3 a b ha hb, bdd_some]
              · rw [m_X10_greedy_112, if_neg (by decide), if_neg (hb_1 (by omega) (by omega)), (hb_ix (by omega) (by omega)).2, ix_nI (by omega) (by omega), gdd_true, nI_clamp (by omega), d3 a b ha hb, m_X10_greedy_147, lb, bdd_some, ag nh a ha ha ha b (by omega)]
          obtain ⟨r, r1, r2⟩ := hmain
          refine ⟨r, g1, g4, ?_, ?_, s4.gv hg0⟩
          · rw [hc, x18]
            rw [show m_X5_greedyTable_4 F 0 0 g = some (nI (sm (fun a => R a 0 + R a 1 + R a 2) nh), g1) from c1, bdd_some, if_pos (nI_pos' (by omega))]
            exact r1
          · rw [xm]
            exact d1.trans r2
        · exfalso
          have ag := gd_agree n3 b3 c2 d1
          have e := PG_congr (nb := nb) (nh := nh) (w := nb - min hd nb + 1) (mr := fun a => (rdI g 6 a).toNatClampNeg) (h := h'') (R := R) (R' := R') (by omega) (fun c d hc hd => ag nh c (by omega) (by omega) hc d (by omega))
          have f := c2 h'' d0
          rw [e] at f
          have := ft_uniq f d2
          cases this
      · rcases km with ⟨R', d1, d2, d3⟩ | ⟨R', h'', v, d0, d1, d2, d3⟩
        · exfalso
          have ag := gd_agree n3 (by omega) c1 d2
          have e := PG_congr (nb := nb) (nh := nh) (w := nb - min hd nb + 1) (mr := fun a => (rdI g 6 a).toNatClampNeg) (h := h') (R := R) (R' := R') (by omega) (fun c d hc hd => ag nh c (by omega) hc (by omega) d (by omega))
          have f := d2 h' c0
          rw [← e] at f
          have := ft_uniq f c2
          cases this
        · refine ⟨-2, g1, g4, ?_, ?_, s4.gv hg0⟩
          · rw [hc, x18]
            rw [show m_X5_greedyTable_4 F 0 0 g = some (-1, g1) from c3, bdd_some, if_neg (by decide)]
          · rw [xm]
            refine d3.trans ?_
            rw [m_X10_greedy_112, if_pos rfl, m_X10_greedy_147, lb, bdd_some]
    · refine al_.same (r := -5) hg0 ?_ ?_
      · rw [hc, m_X9_greedy_18, rows_c t1 b1, decide_eq_false n13, bdd_some, if_pos (show bz false = 0 from rfl)]
      · rw [hm g t4 t5, m_X10_greedy_15, t4]
        by_cases n0 : nb = 0
        · rw [if_pos (show nI nb = (0 : Int32) by rw [n0]; rfl)]
        · rw [if_neg (show ¬ nI nb = (0 : Int32) from fun w => n0 ((nI_eq (b := 0) (by omega) (by omega)).mp w)), if_neg (show ¬ nI nb ≤ (3 : Int32) from fun w => by have := (nI_leI (b := 3) (by omega) (by omega)).mp w; omega)]
  · have h1 : ¬ a0 = -1 := fun w => hhb (Or.inl w)
    have hcell : cell_ nb nh a0 = false := by
      cases z : cell_ nb nh a0 with
      | false => rfl
      | true =>
        obtain ⟨a, b, ha, hb, e, -⟩ := cell_get z b1
        exact absurd (Or.inr ⟨a, b, ha, hb, e⟩) hhb
    refine al_.same (r := -1) hg0 ?_ ?_
    · rw [m_X9_greedy, if_neg h1, m8_hasCell t1 t2 b1 b3, hcell, bdd_some, if_pos (show bz false = 0 from rfl)]
    · rw [m_X10_greedy, if_neg h1, m10_isCell t4 t5 b1 b3, hcell, bdd_some, if_pos (show bz false = 0 from rfl)]
