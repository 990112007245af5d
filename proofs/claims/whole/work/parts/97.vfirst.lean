/-! rows found by trying -/
def cnt_ (p : Nat → Bool) (n : Nat) : Nat := sm (fun b => if p b = true then 1 else 0) n
theorem pc_push : ∀ n, n < 6 → ∀ m, m < 64 → m < 2 ^ n → pc24 (m ||| 2 ^ n) = pc24 m + 1 := by decide +kernel
theorem pc_bm {p : Nat → Bool} : ∀ n, n ≤ 6 → pc24 (bm p n) = cnt_ p n := by
  intro n
  induction n with
  | zero => intro _; exact (by decide : pc24 0 = 0)
  | succ n ih =>
    intro h
    have h1 := bm_lt p n
    have h2 := pow6 (nb := n) (by omega)
    rw [bm, cnt_, sm]
    cases q : p n with
    | false => rw [if_neg (by decide), if_neg (by decide), Nat.or_zero, ih (by omega)]; rfl
    | true => rw [if_pos rfl, if_pos rfl, pc_push n (by omega) _ (by omega) h1, ih (by omega)]; rfl
theorem cnt_le (p : Nat → Bool) (n : Nat) : cnt_ p n ≤ n := by
  have := sm_le (f := fun b => if p b = true then 1 else 0) (n := n) (M := 1) (fun i _ => by split <;> omega)
  unfold cnt_
  omega
theorem cnt_congr {p q : Nat → Bool} {n : Nat} (h : ∀ i, i < n → p i = q i) : cnt_ p n = cnt_ q n := sm_congr (fun i hi => by rw [h i hi])
/-- the class's memory, as searching sees it -/
def sb_ (nb nh hd : Nat) (mo : Nat → Nat) (g : Mm) : Prop := (1 ≤ nb ∧ nb ≤ 3 ∧ nh ≤ 24 ∧ 1 ≤ hd ∧ hd ≤ 6) ∧ (rdI g 1 0 = nI nb ∧ rdI g 1 1 = nI nh ∧ rdI g 1 2 = nI hd) ∧ ∀ b, b < nb → rdI g 2 b = nI (mo b) ∧ mo b ≤ 15
/-- only these places -/
def fr_ (P : Nat → Nat → Bool) (g g' : Mm) : Prop := (∀ c i, P c i = false → rdI g' c i = rdI g c i) ∧ g'.2 = g.2
theorem fr_.rf {P : Nat → Nat → Bool} {g : Mm} : fr_ P g g := ⟨fun _ _ _ => rfl, rfl⟩
theorem fr_.tr {P : Nat → Nat → Bool} {g g' g2 : Mm} (h : fr_ P g g') (h2 : fr_ P g' g2) : fr_ P g g2 := ⟨fun c i q => (h2.1 c i q).trans (h.1 c i q), h2.2.trans h.2⟩
theorem fr_.w {P : Nat → Nat → Bool} {g g' : Mm} (h : fr_ P g g') {c i : Nat} (v : Int32) (q : P c i = true) : fr_ P g (wrI g' c i v) := by
  refine ⟨fun d j z => ?_, h.2⟩
  rw [rI_wI, if_neg]
  · exact h.1 d j z
  · rintro ⟨rfl, rfl⟩
    rw [q] at z
    cases z
theorem fr_.le {P Q : Nat → Nat → Bool} {g g' : Mm} (h : fr_ P g g') (hPQ : ∀ c i, P c i = true → Q c i = true) : fr_ Q g g' := ⟨fun c i z => h.1 c i (by
  cases q : P c i with
  | false => rfl
  | true => rw [hPQ c i q] at z; cases z), h.2⟩
def c26 (c i : Nat) : Bool := decide (c = 26)
theorem sb_.fr {nb nh hd : Nat} {mo : Nat → Nat} {P : Nat → Nat → Bool} {g g' : Mm} (h : sb_ nb nh hd mo g) (f : fr_ P g g') (h1 : ∀ i, P 1 i = false) (h2 : ∀ i, P 2 i = false) : sb_ nb nh hd mo g' := by
  obtain ⟨a, ⟨t1, t2, t3⟩, b⟩ := h
  refine ⟨a, ⟨?_, ?_, ?_⟩, fun c hc => ?_⟩
  · rw [f.1 1 0 (h1 0)]; exact t1
  · rw [f.1 1 1 (h1 1)]; exact t2
  · rw [f.1 1 2 (h1 2)]; exact t3
  · rw [f.1 2 c (h2 c)]; exact b c hc
/-- the most of a bell; one that isn't there never strikes -/
def ga3 (nb : Nat) (mo : Nat → Nat) (b : Nat) : Nat := if b < nb then mo b else 0
theorem great_c {nb nh hd : Nat} {mo : Nat → Nat} {g : Mm} (hs : sb_ nb nh hd mo g) {b : Nat} (hb : b < 3) : m_X5_greatest (nI b) g = some (nI (ga3 nb mo b), g) := by
  obtain ⟨⟨a1, a2, a3, a4, a5⟩, ⟨t1, t2, t3⟩, t4⟩ := hs
  rw [m_X5_greatest, t1, ga3]
  by_cases q : b < nb
  · rw [if_neg (by rw [nI_leI (by omega) (by omega)]; omega), ix_nI (by omega) (by omega), gdd_true, nI_clamp (by omega), (t4 b q).1, if_pos q]
  · rw [if_pos (by rw [nI_leI (by omega) (by omega)]; omega), if_neg q]
    rfl
theorem ga3_le {nb nh hd : Nat} {mo : Nat → Nat} {g : Mm} (hs : sb_ nb nh hd mo g) (b : Nat) : ga3 nb mo b ≤ 15 := by
  unfold ga3
  split
  · rename_i q
    exact (hs.2.2 b q).2
  · omega
def told_ (nb nh w : Nat) (R : Nat → Nat → Nat) (r : Nat → Nat) (X : Nat) : Bool := alN (fun h => !X.testBit h || decide (w ≤ cnt_ (fun b => decide (¬ R h b = r b)) nb)) nh
theorem diff_c {nb nh hd : Nat} {mo : Nat → Nat} {g : Mm} (hs : sb_ nb nh hd mo g) {a h : Nat} {u r : Nat → Nat} (hh : h < 24) (hu : ∀ b, b < nb → rdI g a (6 * h + b) = nI (u b) ∧ u b < 1000) (hr : ∀ b, b < nb → rdI g 26 b = nI (r b) ∧ r b < 1000) : m_X5_differences a 144 (nI h) g = some (nI (cnt_ (fun b => decide (¬ u b = r b)) nb), g) := by
  obtain ⟨⟨a1, a2, a3, a4, a5⟩, ⟨t1, t2, t3⟩, t4⟩ := hs
  have key : ∀ (fu i : Nat), nb < i + fu → i ≤ nb → m_X5_differences_5 a 144 fu (nI h) (nI (cnt_ (fun b => decide (¬ u b = r b)) i)) (nI i) g = some (nI (cnt_ (fun b => decide (¬ u b = r b)) nb), g) := by
    intro fu
    induction fu with
    | zero => intro i h1 h2; omega
    | succ fu ih =>
      intro i h1 h2
      rw [m_X5_differences_5, t1]
      by_cases q : i = nb
      · subst q
        rw [if_pos (by rw [nI_leI (by omega) (by omega)]; omega)]
      · have e := ih (i + 1) (by omega) (by omega)
        obtain ⟨u1, u2⟩ := hu i (by omega)
        obtain ⟨r1, r2⟩ := hr i (by omega)
        have ix : nI h * (6 : Int32) + nI i = nI (6 * h + i) := by rw [show (6 : Int32) = nI 6 from rfl, pk_mul, nI_add, Nat.mul_comm]
        rw [if_neg (by rw [nI_leI (by omega) (by omega)]; omega), ix, ix_nI (by omega) (by omega), gdd_true, ix_nI (by omega) (by omega), gdd_true, nI_clamp (by omega), nI_clamp (by omega), u1, r1, nI_1, nI_1]
        by_cases z : u i = r i
        · rw [if_pos (by rw [z])]
          rw [cnt_, sm, if_neg (show ¬ decide (¬ u i = r i) = true by rw [decide_eq_false (fun w => w z)]; decide)] at e
          exact e
        · rw [if_neg (fun w => by exact z ((nI_eq (by omega) (by omega)).mp w))]
          rw [cnt_, sm, if_pos (decide_eq_true z)] at e
          exact e
  obtain ⟨F, eF, hF⟩ := fu_get
  rw [m_X5_differences, eF]
  exact key F 0 (by omega) (by omega)
theorem told_c {nb nh hd : Nat} {mo : Nat → Nat} {g : Mm} (hs : sb_ nb nh hd mo g) {a X : Nat} {R : Nat → Nat → Nat} {r : Nat → Nat} (hX : X < 2 ^ 31) (hR : ∀ h b, h < nh → X.testBit h = true → b < nb → rdI g a (6 * h + b) = nI (R h b) ∧ R h b < 1000) (hr : ∀ b, b < nb → rdI g 26 b = nI (r b) ∧ r b < 1000) : m_X5_isTold a 144 (nI X) g = some (bz (told_ nb nh (nb - min hd nb + 1) R r X), g) := by
  obtain ⟨⟨a1, a2, a3, a4, a5⟩, ⟨t1, t2, t3⟩, t4⟩ := id hs
  have key : ∀ (fu i : Nat), nh < i + fu → i ≤ nh → alN (fun h => !X.testBit h || decide (nb - min hd nb + 1 ≤ cnt_ (fun b => decide (¬ R h b = r b)) nb)) i = true → m_X5_isTold_11 a 144 fu (nI X) (nI (nb - min hd nb + 1)) (nI i) g = some (bz (told_ nb nh (nb - min hd nb + 1) R r X), g) := by
    intro fu
    induction fu with
    | zero => intro i h1 h2; omega
    | succ fu ih =>
      intro i h1 h2 h3
      rw [m_X5_isTold_11, t2]
      by_cases q : i = nh
      · subst q
        rw [if_pos (by rw [nI_leI (by omega) (by omega)]; omega), told_, h3]
        rfl
      · have e := ih (i + 1) (by omega) (by omega)
        rw [alN, h3, Bool.true_and] at e
        rw [if_neg (by rw [nI_leI (by omega) (by omega)]; omega), bit_nI (by omega) hX, nI_1]
        cases z : X.testBit i with
        | false =>
          rw [if_pos (show bz false = 0 from rfl)]
          exact e (by rw [z]; rfl)
        | true =>
          have hc := cnt_le (fun b => decide (¬ R i b = r b)) nb
          rw [if_neg (show ¬ bz true = 0 by decide), diff_c hs (by omega) (fun b hb => hR i b (by omega) z hb) hr, bdd_some]
          by_cases y : nb - min hd nb + 1 ≤ cnt_ (fun b => decide (¬ R i b = r b)) nb
          · rw [if_pos (by rw [nI_leI (by omega) (by omega)]; exact y)]
            exact e (by rw [decide_eq_true y, Bool.or_true])
          · rw [if_neg (by rw [nI_leI (by omega) (by omega)]; exact y), told_, alN_no (i := i) (by omega) (by rw [z, decide_eq_false y]; rfl)]
            rfl
  obtain ⟨F, eF, hF⟩ := fu_get
  rw [m_X5_isTold, wanted_c t1 t3 (by omega) a5, bdd_some, eF]
  exact key F 0 (by omega) (by omega) rfl
/-! the first row, by sums and then by bells -/
def T3 (x y z : Nat) (b : Nat) : Nat := if b = 0 then x else if b = 1 then y else z
/-- the first of the rows (x, y, z) within g that P holds of, by sums and then by bells -/
def ft_ (G : Nat → Nat) (P : Nat → Nat → Nat → Bool) (o : Option (Nat × Nat × Nat)) : Prop := match o with
  | none => ∀ x y z, x ≤ G 0 → y ≤ G 1 → z ≤ G 2 → P x y z = false
  | some (x, y, z) => (x ≤ G 0 ∧ y ≤ G 1 ∧ z ≤ G 2 ∧ P x y z = true) ∧ ∀ x' y' z', x' ≤ G 0 → y' ≤ G 1 → z' ≤ G 2 → P x' y' z' = true → x + y + z < x' + y' + z' ∨ (x + y + z = x' + y' + z' ∧ (x < x' ∨ (x = x' ∧ y ≤ y')))
theorem ft_uniq {G : Nat → Nat} {P : Nat → Nat → Nat → Bool} {o o' : Option (Nat × Nat × Nat)} (h : ft_ G P o) (h' : ft_ G P o') : o = o' := by
  match o, o', h, h' with
  | none, none, _, _ => rfl
  | none, some (x, y, z), h, ⟨⟨a, b, c, d⟩, _⟩ => rw [h x y z a b c] at d; cases d
  | some (x, y, z), none, ⟨⟨a, b, c, d⟩, _⟩, h => rw [h x y z a b c] at d; cases d
  | some (x, y, z), some (x', y', z'), ⟨⟨a, b, c, d⟩, e⟩, ⟨⟨a', b', c', d'⟩, e'⟩ =>
    have h1 := e x' y' z' a' b' c' d'
    have h2 := e' x y z a b c d
    have e1 : x = x' := by omega
    have e2 : y = y' := by omega
    have e3 : z = z' := by omega
    rw [e1, e2, e3]
/-- all that P holds of come at (s, x, y) or behind -/
def fv_ (G : Nat → Nat) (P : Nat → Nat → Nat → Bool) (s x y : Nat) : Prop := ∀ x' y' z', x' ≤ G 0 → y' ≤ G 1 → z' ≤ G 2 → P x' y' z' = true → s < x' + y' + z' ∨ (s = x' + y' + z' ∧ (x < x' ∨ (x = x' ∧ y ≤ y')))
def fo_ (o : Option (Nat × Nat × Nat)) (g : Mm) : Prop := match o with
  | none => True
  | some (x, y, z) => rdI g 26 0 = nI x ∧ rdI g 26 1 = nI y ∧ rdI g 26 2 = nI z
theorem first50 {nb nh hd : Nat} {mo : Nat → Nat} {a X s x : Nat} {R : Nat → Nat → Nat} (hX : X < 2 ^ 31) (ha : a ≠ 26) (hsx : s < 100) (hx : x ≤ s) (hx2 : x ≤ ga3 nb mo 0) (K : Int32 → Int32 → Int32 → Int32 → Mm → Option (Int32 × Mm)) (q3 : Int32) : ∀ (fu y : Nat) (g : Mm), s + 1 < y + fu → y ≤ s + 1 → sb_ nb nh hd mo g →
    (∀ h b, h < nh → X.testBit h = true → b < nb → rdI g a (6 * h + b) = nI (R h b) ∧ R h b < 1000) →
    fv_ (ga3 nb mo) (fun x y z => told_ nb nh (nb - min hd nb + 1) R (T3 x y z) X) s x y →
    ∃ g', fr_ c26 g g' ∧ ((∃ o, m_X5_firstRowTold_50 a 144 K fu (nI X) q3 (nI s) (nI x) (nI y) g = some (1, g') ∧ ft_ (ga3 nb mo) (fun x y z => told_ nb nh (nb - min hd nb + 1) R (T3 x y z) X) (some o) ∧ fo_ (some o) g') ∨
      (m_X5_firstRowTold_50 a 144 K fu (nI X) q3 (nI s) (nI x) (nI y) g = K (nI X) q3 (nI s) (nI (x + 1)) g' ∧ fv_ (ga3 nb mo) (fun x y z => told_ nb nh (nb - min hd nb + 1) R (T3 x y z) X) s (x + 1) 0)) := by
  intro fu
  induction fu with
  | zero => intro y g h1 h2; omega
  | succ fu ih =>
    intro y g h1 h2 hs hR hv
    have l1 := ga3_le hs 1
    have l2 := ga3_le hs 2
    rw [m_X5_firstRowTold_50]
    rw [show m_X5_greatest 1 g = some (nI (ga3 nb mo 1), g) from great_c hs (b := 1) (by omega), bdd_some]
    have next : fv_ (ga3 nb mo) (fun x y z => told_ nb nh (nb - min hd nb + 1) R (T3 x y z) X) s x y → (ga3 nb mo 1 < y ∨ s < x + y) → fv_ (ga3 nb mo) (fun x y z => told_ nb nh (nb - min hd nb + 1) R (T3 x y z) X) s (x + 1) 0 := by
      intro h hq x' y' z' k1 k2 k3 k4
      have := h x' y' z' k1 k2 k3 k4
      omega
    by_cases q1 : ga3 nb mo 1 < y
    · exact ⟨g, fr_.rf, Or.inr ⟨by rw [if_pos (by rw [nI_ltI (by omega) (by omega)]; exact q1), nI_1], next hv (Or.inl q1)⟩⟩
    · rw [if_neg (by rw [nI_ltI (by omega) (by omega)]; exact q1), nI_add]
      by_cases q2 : s < x + y
      · exact ⟨g, fr_.rf, Or.inr ⟨by rw [if_pos (by rw [nI_ltI (by omega) (by omega)]; exact q2), nI_1], next hv (Or.inr q2)⟩⟩
      · rw [if_neg (by rw [nI_ltI (by omega) (by omega)]; exact q2), show ixo (0 : Int32) 6 = true from rfl, gdd_true, show ixo (1 : Int32) 6 = true from rfl, gdd_true, show ixo (2 : Int32) 6 = true from rfl, gdd_true, gdd_true, pk_sub (by omega), pk_sub (by omega), show (0 : Int32).toNatClampNeg = 0 from rfl, show (1 : Int32).toNatClampNeg = 1 from rfl, show (2 : Int32).toNatClampNeg = 2 from rfl]
        have f1 : fr_ c26 g (wrI (wrI (wrI g 26 0 (nI x)) 26 1 (nI y)) 26 2 (nI (s - x - y))) := ((fr_.rf.w _ rfl).w _ rfl).w _ rfl
        have r0 : rdI (wrI (wrI (wrI g 26 0 (nI x)) 26 1 (nI y)) 26 2 (nI (s - x - y))) 26 0 = nI x := by rw [rI_wI, if_neg (by omega), rI_wI, if_neg (by omega), rI_wI, if_pos ⟨rfl, rfl⟩]
        have r1 : rdI (wrI (wrI (wrI g 26 0 (nI x)) 26 1 (nI y)) 26 2 (nI (s - x - y))) 26 1 = nI y := by rw [rI_wI, if_neg (by omega), rI_wI, if_pos ⟨rfl, rfl⟩]
        have r2 : rdI (wrI (wrI (wrI g 26 0 (nI x)) 26 1 (nI y)) 26 2 (nI (s - x - y))) 26 2 = nI (s - x - y) := by rw [rI_wI, if_pos ⟨rfl, rfl⟩]
        generalize wrI (wrI (wrI g 26 0 (nI x)) 26 1 (nI y)) 26 2 (nI (s - x - y)) = g1 at f1 r0 r1 r2
        have hs1 := hs.fr f1 (fun _ => rfl) (fun _ => rfl)
        have hR1 : ∀ h b, h < nh → X.testBit h = true → b < nb → rdI g1 a (6 * h + b) = nI (R h b) ∧ R h b < 1000 := fun h b k1 k2 k3 => by
          rw [f1.1 a _ (decide_eq_false ha)]
          exact hR h b k1 k2 k3
        rw [show m_X5_greatest 2 g1 = some (nI (ga3 nb mo 2), g1) from great_c hs1 (b := 2) (by omega), bdd_some, r2, nI_1]
        have go : fv_ (ga3 nb mo) (fun x y z => told_ nb nh (nb - min hd nb + 1) R (T3 x y z) X) s x (y + 1) → ∃ g', fr_ c26 g g' ∧ ((∃ o, m_X5_firstRowTold_50 a 144 K fu (nI X) q3 (nI s) (nI x) (nI (y + 1)) g1 = some (1, g') ∧ ft_ (ga3 nb mo) (fun x y z => told_ nb nh (nb - min hd nb + 1) R (T3 x y z) X) (some o) ∧ fo_ (some o) g') ∨
            (m_X5_firstRowTold_50 a 144 K fu (nI X) q3 (nI s) (nI x) (nI (y + 1)) g1 = K (nI X) q3 (nI s) (nI (x + 1)) g' ∧ fv_ (ga3 nb mo) (fun x y z => told_ nb nh (nb - min hd nb + 1) R (T3 x y z) X) s (x + 1) 0)) := fun hv2 => by
          obtain ⟨g', k1, k2⟩ := ih (y + 1) g1 (by omega) (by omega) hs1 hR1 hv2
          exact ⟨g', f1.tr k1, k2⟩
        by_cases q3 : ga3 nb mo 2 < s - x - y
        · rw [if_pos (by rw [nI_ltI (by omega) (by omega)]; exact q3)]
          refine go (fun x' y' z' k1 k2 k3 k4 => ?_)
          have := hv x' y' z' k1 k2 k3 k4
          omega
        · rw [if_neg (by rw [nI_ltI (by omega) (by omega)]; exact q3)]
          have hr : ∀ b, b < nb → rdI g1 26 b = nI (T3 x y (s - x - y) b) ∧ T3 x y (s - x - y) b < 1000 := fun b hb => by
            have hb3 := hs.1.2.1
            rcases (by omega : b = 0 ∨ b = 1 ∨ b = 2) with rfl | rfl | rfl
            · exact ⟨r0, by show x < 1000; omega⟩
            · exact ⟨r1, by show y < 1000; omega⟩
            · exact ⟨r2, by show s - x - y < 1000; omega⟩
          rw [told_c hs1 hX hR1 hr, bdd_some]
          cases z : told_ nb nh (nb - min hd nb + 1) R (T3 x y (s - x - y)) X with
          | false =>
            rw [if_pos (show bz false = 0 from rfl)]
            refine go (fun x' y' z' k1 k2 k3 k4 => ?_)
            have h5 := hv x' y' z' k1 k2 k3 k4
            by_cases e : x' = x ∧ y' = y ∧ z' = s - x - y
            · obtain ⟨rfl, rfl, rfl⟩ := e
              have k4 : told_ nb nh (nb - min hd nb + 1) R (T3 x' y' (s - x' - y')) X = true := k4
              rw [z] at k4
              cases k4
            · omega
          | true =>
            refine ⟨g1, f1, Or.inl ⟨(x, y, s - x - y), ?_, ⟨⟨hx2, by omega, by omega, z⟩, fun x' y' z' k1 k2 k3 k4 => ?_⟩, r0, r1, r2⟩⟩
            · rw [if_neg (show ¬ bz true = 0 by decide)]
            · have := hv x' y' z' k1 k2 k3 k4
              omega
theorem first30 {nb nh hd : Nat} {mo : Nat → Nat} {a X s : Nat} {R : Nat → Nat → Nat} (hX : X < 2 ^ 31) (ha : a ≠ 26) (hsx : s < 100) (K : Int32 → Int32 → Int32 → Mm → Option (Int32 × Mm)) (q3 : Int32) : ∀ (fu x : Nat) (g : Mm), s + 1 < x + fu → x ≤ s + 1 → sb_ nb nh hd mo g →
    (∀ h b, h < nh → X.testBit h = true → b < nb → rdI g a (6 * h + b) = nI (R h b) ∧ R h b < 1000) →
    fv_ (ga3 nb mo) (fun x y z => told_ nb nh (nb - min hd nb + 1) R (T3 x y z) X) s x 0 →
    ∃ g', fr_ c26 g g' ∧ ((∃ o, m_X5_firstRowTold_30 a 144 K fu (nI X) q3 (nI s) (nI x) g = some (1, g') ∧ ft_ (ga3 nb mo) (fun x y z => told_ nb nh (nb - min hd nb + 1) R (T3 x y z) X) (some o) ∧ fo_ (some o) g') ∨
      (m_X5_firstRowTold_30 a 144 K fu (nI X) q3 (nI s) (nI x) g = K (nI X) q3 (nI (s + 1)) g' ∧ fv_ (ga3 nb mo) (fun x y z => told_ nb nh (nb - min hd nb + 1) R (T3 x y z) X) (s + 1) 0 0)) := by
  intro fu
  induction fu with
  | zero => intro x g h1 h2; omega
  | succ fu ih =>
    intro x g h1 h2 hs hR hv
    have l0 := ga3_le hs 0
    rw [m_X5_firstRowTold_30]
    rw [show m_X5_greatest 0 g = some (nI (ga3 nb mo 0), g) from great_c hs (b := 0) (by omega), bdd_some]
    by_cases q1 : ga3 nb mo 0 < x ∨ s < x
    · refine ⟨g, fr_.rf, Or.inr ⟨?_, fun x' y' z' k1 k2 k3 k4 => ?_⟩⟩
      · by_cases q2 : ga3 nb mo 0 < x
        · rw [if_pos (by rw [nI_ltI (by omega) (by omega)]; exact q2), nI_1]
        · rw [if_neg (by rw [nI_ltI (by omega) (by omega)]; exact q2), if_pos (by rw [nI_ltI (by omega) (by omega)]; omega), nI_1]
      · have := hv x' y' z' k1 k2 k3 k4
        omega
    · obtain ⟨F, eF, hF⟩ := fu_get
      rw [if_neg (by rw [nI_ltI (by omega) (by omega)]; omega), if_neg (by rw [nI_ltI (by omega) (by omega)]; omega), eF]
      obtain ⟨g1, f1, k⟩ := first50 (nh := nh) (hd := hd) (R := R) hX ha hsx (show x ≤ s by omega) (show x ≤ ga3 nb mo 0 by omega) (m_X5_firstRowTold_30 a 144 K fu) q3 F 0 g (by omega) (by omega) hs hR hv
      rcases k with ⟨o, k1, k2, k3⟩ | ⟨k1, k2⟩
      · exact ⟨g1, f1, Or.inl ⟨o, k1, k2, k3⟩⟩
      · have hs1 := hs.fr f1 (fun _ => rfl) (fun _ => rfl)
        obtain ⟨g', f2, k'⟩ := ih (x + 1) g1 (by omega) (by omega) hs1 (fun h b y1 y2 y3 => by rw [f1.1 a _ (decide_eq_false ha)]; exact hR h b y1 y2 y3) k2
        refine ⟨g', f1.tr f2, ?_⟩
        rw [show m_X5_firstRowTold_50 a 144 (m_X5_firstRowTold_30 a 144 K fu) F (nI X) q3 (nI s) (nI x) 0 g = m_X5_firstRowTold_30 a 144 K fu (nI X) q3 (nI s) (nI (x + 1)) g1 from k1]
        exact k'
theorem first21 {nb nh hd : Nat} {mo : Nat → Nat} {a X S : Nat} {R : Nat → Nat → Nat} (hX : X < 2 ^ 31) (ha : a ≠ 26) (hS : S = ga3 nb mo 0 + ga3 nb mo 1 + ga3 nb mo 2) : ∀ (fu s : Nat) (g : Mm), S + 1 < s + fu → s ≤ S + 1 → sb_ nb nh hd mo g →
    (∀ h b, h < nh → X.testBit h = true → b < nb → rdI g a (6 * h + b) = nI (R h b) ∧ R h b < 1000) →
    fv_ (ga3 nb mo) (fun x y z => told_ nb nh (nb - min hd nb + 1) R (T3 x y z) X) s 0 0 →
    ∃ o g', fr_ c26 g g' ∧ m_X5_firstRowTold_21 a 144 fu (nI X) (nI S) (nI s) g = some (bz o.isSome, g') ∧ ft_ (ga3 nb mo) (fun x y z => told_ nb nh (nb - min hd nb + 1) R (T3 x y z) X) o ∧ fo_ o g' := by
  intro fu
  induction fu with
  | zero => intro x g h1 h2; omega
  | succ fu ih =>
    intro s g h1 h2 hs hR hv
    have l0 := ga3_le hs 0
    have l1 := ga3_le hs 1
    have l2 := ga3_le hs 2
    rw [m_X5_firstRowTold_21]
    by_cases q : s = S + 1
    · refine ⟨none, g, fr_.rf, ?_, fun x y z k1 k2 k3 => ?_, trivial⟩
      · rw [if_pos (by rw [nI_ltI (by omega) (by omega)]; omega)]
        rfl
      · cases w : told_ nb nh (nb - min hd nb + 1) R (T3 x y z) X with
        | false => exact w
        | true =>
          have := hv x y z k1 k2 k3 w
          omega
    · obtain ⟨F, eF, hF⟩ := fu_get
      rw [if_neg (by rw [nI_ltI (by omega) (by omega)]; omega), eF]
      obtain ⟨g1, f1, k⟩ := first30 (nh := nh) (hd := hd) (mo := mo) (nb := nb) (R := R) hX ha (show s < 100 by omega) (m_X5_firstRowTold_21 a 144 fu) (nI S) F 0 g (by omega) (by omega) hs hR hv
      rcases k with ⟨o, k1, k2, k3⟩ | ⟨k1, k2⟩
      · exact ⟨some o, g1, f1, k1, k2, k3⟩
      · have hs1 := hs.fr f1 (fun _ => rfl) (fun _ => rfl)
        obtain ⟨o, g', f2, k'⟩ := ih (s + 1) g1 (by omega) (by omega) hs1 (fun h b y1 y2 y3 => by rw [f1.1 a _ (decide_eq_false ha)]; exact hR h b y1 y2 y3) k2
        refine ⟨o, g', f1.tr f2, ?_⟩
        rw [show m_X5_firstRowTold_30 a 144 (m_X5_firstRowTold_21 a 144 fu) F (nI X) (nI S) (nI s) 0 g = m_X5_firstRowTold_21 a 144 fu (nI X) (nI S) (nI (s + 1)) g1 from k1]
        exact k'
theorem first_c {nb nh hd : Nat} {mo : Nat → Nat} {a X : Nat} {R : Nat → Nat → Nat} {g : Mm} (hX : X < 2 ^ 31) (ha : a ≠ 26) (hs : sb_ nb nh hd mo g) (hR : ∀ h b, h < nh → X.testBit h = true → b < nb → rdI g a (6 * h + b) = nI (R h b) ∧ R h b < 1000) :
    ∃ o g', fr_ c26 g g' ∧ m_X5_firstRowTold a 144 (nI X) g = some (bz o.isSome, g') ∧ ft_ (ga3 nb mo) (fun x y z => told_ nb nh (nb - min hd nb + 1) R (T3 x y z) X) o ∧ fo_ o g' := by
  obtain ⟨F, eF, hF⟩ := fu_get
  have l0 := ga3_le hs 0
  have l1 := ga3_le hs 1
  have l2 := ga3_le hs 2
  obtain ⟨o, g', k1, k2, k3⟩ := first21 (nh := nh) (hd := hd) (R := R) hX ha rfl F 0 g (by omega) (by omega) hs hR (fun x' y' z' _ _ _ _ => by omega)
  refine ⟨o, g', k1, ?_, k3⟩
  rw [m_X5_firstRowTold]
  rw [show m_X5_greatest 0 g = some (nI (ga3 nb mo 0), g) from great_c hs (b := 0) (by omega), bdd_some]
  rw [show m_X5_greatest 1 g = some (nI (ga3 nb mo 1), g) from great_c hs (b := 1) (by omega), bdd_some]
  rw [show m_X5_greatest 2 g = some (nI (ga3 nb mo 2), g) from great_c hs (b := 2) (by omega), bdd_some, nI_add, nI_add, eF]
  exact k2
