/-! odds -/
def pm (f : Nat → Nat) : Nat → Nat
  | 0 => 1
  | n + 1 => pm f n * f n
theorem pm_le {f : Nat → Nat} {n : Nat} (h : ∀ i, i < n → f i ≤ 100) : pm f n ≤ 100 ^ n := by
  induction n with
  | zero => exact Nat.le_refl _
  | succ n ih =>
    rw [pm, Nat.pow_succ]
    exact Nat.mul_le_mul (ih (fun i hi => h i (by omega))) (h n (by omega))
def lv_ (Lf : Nat → Nat) (nb : Nat) (g : Mm) : Prop := ∀ b, b < nb → rdI g 4 b = nI (Lf b) ∧ rdI g 43 b = nI (Lf b) ∧ Lf b ≤ 100
theorem lv_.sc {Lf : Nat → Nat} {nb : Nat} {g g' : Mm} (h : lv_ Lf nb g) (hs : sc_ g g') : lv_ Lf nb g' := fun b hb => by
  rw [hs.1 4 b rfl, hs.1 43 b rfl]
  exact h b hb
def cw_ (Lf : Nat → Nat) (X b : Nat) : Nat := if X.testBit b = true then 100 - Lf b else Lf b
theorem cw_le {Lf : Nat → Nat} {nb X : Nat} {g : Mm} (h : lv_ Lf nb g) : ∀ b, b < nb → cw_ Lf X b ≤ 100 := fun b hb => by
  have := (h b hb).2.2
  rw [cw_]
  split <;> omega
theorem i100 {k : Nat} (h : k ≤ 100) : ((100 : Int32) - nI k).toInt64 = lN (100 - k) := by
  rw [show (100 : Int32) - nI k = nI (100 - k) from pk_sub (a := 100) h, nI_l (by omega)]
theorem heard5 {nb nh hd : Nat} {T : Nat → Nat → Nat} {M : Nat → Nat → Bool} {g : Mm} (hs : sv nb nh hd T M g) {Lf : Nat → Nat} (hl : lv_ Lf nb g) {X : Nat} (hX : X < 64) : ∀ (fu i : Nat), nb < i + fu → i ≤ nb →
    m_X7_chanceHeard_5 fu (nI X) (lN (pm (cw_ Lf X) i)) (nI i) g = some (lN (pm (cw_ Lf X) nb), g) := by
  obtain ⟨⟨b1, b2, b3, b4, b5⟩, ⟨t1, t2, t3, t4, t5, t6⟩, -⟩ := id hs.1
  intro fu
  induction fu with
  | zero => intro i h1 h2; omega
  | succ fu ih =>
    intro i h1 h2
    rw [m_X7_chanceHeard_5, t1]
    by_cases q : i = nb
    · subst q
      rw [if_pos (by rw [nI_leI (by omega) (by omega)]; omega)]
    · obtain ⟨l1, -, l3⟩ := hl i (by omega)
      have e := ih (i + 1) (by omega) (by omega)
      rw [pm, cw_] at e
      rw [if_neg (by rw [nI_leI (by omega) (by omega)]; omega), ix_nI (by omega) (by omega), gdd_true, bit_nI (by omega) (by omega), nI_clamp (by omega), l1, i100 l3, nI_l (by omega), nI_1]
      cases z : X.testBit i with
      | false =>
        rw [if_pos (show bz false = 0 from rfl)]
        rw [z, if_neg (by decide), ← lN_mul] at e
        exact e
      | true =>
        rw [if_neg (show ¬ bz true = 0 by decide)]
        rw [z, if_pos rfl, ← lN_mul] at e
        exact e
theorem above93 {nb nh hd : Nat} {T : Nat → Nat → Nat} {M : Nat → Nat → Bool} {g : Mm} (hs : sv nb nh hd T M g) {Lf : Nat → Nat} (hl : lv_ Lf nb g) (K : Int32 → Int64 → Int32 → Mm → Option (Int64 × Mm)) (a : Int32) (s : Int64) (u : Nat) {X : Nat} (hX : X < 64) : ∀ (fu i : Nat), nb < i + fu → i ≤ nb →
    m_X10_tellsAbove_93 K fu a s (nI X) (lN (u * pm (cw_ Lf X) i)) (nI i) g = K a (s + lN (u * pm (cw_ Lf X) nb)) (nI (X + 1)) g := by
  obtain ⟨⟨b1, b2, b3, b4, b5⟩, ⟨t1, t2, t3, t4, t5, t6⟩, -⟩ := id hs.1
  intro fu
  induction fu with
  | zero => intro i h1 h2; omega
  | succ fu ih =>
    intro i h1 h2
    rw [m_X10_tellsAbove_93, t4]
    by_cases q : i = nb
    · subst q
      rw [if_pos (by rw [nI_leI (by omega) (by omega)]; omega), nI_1]
    · obtain ⟨-, l1, l3⟩ := hl i (by omega)
      have e := ih (i + 1) (by omega) (by omega)
      rw [pm, cw_, ← Nat.mul_assoc] at e
      rw [if_neg (by rw [nI_leI (by omega) (by omega)]; omega), ix_nI (by omega) (by omega), gdd_true, gdd_true, bit_nI (by omega) (by omega), nI_clamp (by omega), l1, i100 l3, nI_l (by omega), nI_1]
      cases z : X.testBit i with
      | false =>
        rw [if_neg (show ¬ bz false = 1 by decide)]
        rw [z, if_neg (by decide), ← lN_mul] at e
        exact e
      | true =>
        rw [if_pos (show bz true = 1 from rfl)]
        rw [z, if_pos rfl, ← lN_mul] at e
        exact e
/-- these bells tell that hour from all others -/
def is_ (T : Nat → Nat → Nat) (M : Nat → Nat → Bool) (nb nh h X : Nat) : Bool := alN (fun o => decide (o = h) || (M o h || !decide (Dm T nb o h &&& X = 0))) nh
def rpk (h : Nat) : Nat → Nat → List (Nat × Nat)
  | _, 0 => []
  | o, k + 1 => if o = h then rpk h (o + 1) k else (h, o) :: rpk h (o + 1) k
theorem rpk_mem (h a b : Nat) : ∀ (k o : Nat), (a, b) ∈ rpk h o k ↔ a = h ∧ o ≤ b ∧ b < o + k ∧ b ≠ h := by
  intro k
  induction k with
  | zero =>
    intro o
    rw [rpk]
    constructor
    · intro w; cases w
    · intro w; omega
  | succ k ih =>
    intro o
    rw [rpk]
    split
    · rw [ih]
      omega
    · rw [List.mem_cons, ih, Prod.mk.injEq]
      omega
theorem is_eq {nb nh hd : Nat} {T : Nat → Nat → Nat} {M : Nat → Nat → Bool} {g : Mm} (hs : sv nb nh hd T M g) {h X : Nat} (hh : h < nh) : (mk_ T M nb (rpk h 0 nh)).all (fun m => decide (1 ≤ pc24 (m &&& X))) = is_ T M nb nh h X := by
  have b1 := hs.1.1.1
  have b3 := hs.1.1.2.2.1
  have sym : ∀ i j, i < 24 → j < 24 → M i j = M j i := fun i j hi hj => by
    rw [← hs.2.2.2 i j hi hj, ← hs.2.2.2 j i hj hi]
    exact hs.2.1.2.2 i j hi hj
  have hp : ∀ o, 1 ≤ pc24 (Dm T nb h o &&& X) ↔ ¬ (Dm T nb o h &&& X = 0) := fun o => by
    rw [Dm_sym T nb o h]
    have := (pc_le6 _ (Nat.lt_of_le_of_lt Nat.and_le_left (Dm_lt T b1 h o) : Dm T nb h o &&& X < 64)).2
    omega
  rw [Bool.eq_iff_iff, List.all_eq_true, is_, alN_iff]
  constructor
  · intro w o ho
    rw [Bool.or_eq_true, Bool.or_eq_true, decide_eq_true_eq, Bool.not_eq_true', decide_eq_false_iff_not]
    by_cases q : o = h
    · exact Or.inl q
    · cases z : M o h with
      | true => exact Or.inr (Or.inl rfl)
      | false =>
        refine Or.inr (Or.inr ?_)
        have := w (Dm T nb h o) ((mk_mem _).mpr ⟨h, o, (rpk_mem h h o nh 0).mpr ⟨rfl, by omega, by omega, q⟩, by rw [sym h o (by omega) (by omega)]; exact z, rfl⟩)
        exact (hp o).mp (of_decide_eq_true this)
  · intro w m hm
    obtain ⟨a, o, h1, h2, rfl⟩ := (mk_mem m).mp hm
    obtain ⟨rfl, -, h3, h4⟩ := (rpk_mem h a o nh 0).mp h1
    have h5 := w o (by omega)
    rw [Bool.or_eq_true, Bool.or_eq_true, decide_eq_true_eq, Bool.not_eq_true', decide_eq_false_iff_not] at h5
    refine decide_eq_true ((hp o).mpr ?_)
    rcases h5 with h5 | h5 | h5
    · exact absurd h5 h4
    · rw [sym o a (by omega) (by omega), h2] at h5
      cases h5
    · exact h5
theorem pairsOf_7 {nb nh hd : Nat} {T : Nat → Nat → Nat} {M : Nat → Nat → Bool} (hh : nh ≤ 24) {h : Nat} (hh2 : h < nh) : ∀ (fu o : Nat) (g : Mm) (L : List Nat), nh < o + fu → o ≤ nh → sv nb nh hd T M g → pk_ L g → L.length + (nh - o) ≤ 276 →
    ∃ g', m_X7_takePairsOf_7 fu (nI h) (nI o) g = some (nI 0, g') ∧ pk_ (L ++ mk_ T M nb (rpk h o (nh - o))) g' ∧ sc_ g g' := by
  intro fu
  induction fu with
  | zero => intro o g L h1 h2; omega
  | succ fu ih =>
    intro o g L h1 h2 hs hp hl
    rw [m_X7_takePairsOf_7, hs.1.2.1.2.1]
    by_cases q : o = nh
    · subst q
      refine ⟨g, ?_, ?_, sc_.rf⟩
      · rw [if_pos (by rw [nI_leI (by omega) (by omega)]; omega)]
        rfl
      · rw [Nat.sub_self, rpk, show mk_ T M nb [] = [] from rfl, List.append_nil]
        exact hp
    · rw [if_neg (by rw [nI_leI (by omega) (by omega)]; omega), show nh - o = (nh - (o + 1)) + 1 by omega, rpk, nI_1]
      by_cases z : o = h
      · obtain ⟨g2, c1, c2, c3⟩ := ih (o + 1) g L (by omega) (by omega) hs hp (by omega)
        refine ⟨g2, ?_, ?_, c3⟩
        · rw [z, m_X7_takePair, if_pos rfl, bdd_some]
          rw [z] at c1
          exact c1
        · rw [if_pos z]
          exact c2
      · obtain ⟨g1, a1, a2, a3, a4⟩ := takePair_c hs hp (by omega) (show h < 24 by omega) (show o < 24 by omega) (fun w => z w.symm)
        have hl1 : (L ++ mk_ T M nb [(h, o)]).length ≤ L.length + 1 := by
          rw [List.length_append]
          have := mk_len (T := T) (M := M) (nb := nb) [(h, o)]
          simp only [List.length_cons, List.length_nil] at this
          omega
        have s1 := sc_23 a3 a4
        obtain ⟨g2, c1, c2, c3⟩ := ih (o + 1) g1 (L ++ mk_ T M nb [(h, o)]) (by omega) (by omega) (hs.sc s1) a2 (by omega)
        refine ⟨g2, ?_, ?_, s1.tr c3⟩
        · rw [a1, bdd_some]
          exact c1
        · rw [if_neg z, show (h, o) :: rpk h (o + 1) (nh - (o + 1)) = [(h, o)] ++ rpk h (o + 1) (nh - (o + 1)) from rfl, mk_app, ← List.append_assoc]
          exact c2
def ch_ (T : Nat → Nat → Nat) (M : Nat → Nat → Bool) (Lf : Nat → Nat) (nb nh h X : Nat) : Nat := if is_ T M nb nh h X = true then pm (cw_ Lf X) nb else 0
def cs_ (T : Nat → Nat → Nat) (M : Nat → Nat → Bool) (Lf : Nat → Nat) (nb nh h : Nat) : Nat := sm (ch_ T M Lf nb nh h) (2 ^ nb)
theorem chance_c {nb nh hd : Nat} {T : Nat → Nat → Nat} {M : Nat → Nat → Bool} {g : Mm} (hs : sv nb nh hd T M g) {Lf : Nat → Nat} (hl : lv_ Lf nb g) {h : Nat} (hh : h < nh) : ∃ g', m_X7_chanceOf (nI h) g = some (lN (cs_ T M Lf nb nh h), g') ∧ sc_ g g' := by
  have b1 := hs.1.1.1
  have b3 := hs.1.1.2.2.1
  have h64 := pow6 b1
  have h0 := Nat.two_pow_pos nb
  obtain ⟨F, eF, hF⟩ := fu_get
  have s0 : sc_ g (wrI g 23 2 0) := sc_.rf.w rfl
  obtain ⟨g1, p1, p2, p3⟩ := pairsOf_7 (nb := nb) (nh := nh) (hd := hd) (T := T) (M := M) b3 hh F 0 (wrI g 23 2 0) [] (by omega) (by omega) (hs.sc s0) ⟨by rw [rI_wI, if_pos ⟨rfl, rfl⟩]; rfl, fun k hk => by simp at hk⟩ (by simp; omega)
  have s1 := s0.tr p3
  have hs1 := hs.sc s1
  have hl1 := hl.sc s1
  rw [List.nil_append, Nat.sub_zero] at p2
  have t1 := hs1.1.2.1.1
  have len : (mk_ T M nb (rpk h 0 nh)).length ≤ 276 := by
    have h1 : ∀ (k o : Nat), (rpk h o k).length ≤ k := by
      intro k
      induction k with
      | zero => intro o; exact Nat.le_refl _
      | succ k ih =>
        intro o
        rw [rpk]
        split
        · exact Nat.le_succ_of_le (ih _)
        · rw [List.length_cons]
          have := ih (o + 1)
          omega
    have := mk_len (T := T) (M := M) (nb := nb) (rpk h 0 nh)
    have := h1 nh 0
    omega
  have key : ∀ (fu X : Nat), 2 ^ nb < X + fu → X ≤ 2 ^ nb → m_X7_chanceOf_10 fu (lN (sm (ch_ T M Lf nb nh h) X)) (nI X) g1 = some (lN (cs_ T M Lf nb nh h), g1) := by
    intro fu
    induction fu with
    | zero => intro X h1 h2; omega
    | succ fu ih =>
      intro X h1 h2
      rw [m_X7_chanceOf_10, allBells_c t1 b1, bdd_some]
      by_cases q : X = 2 ^ nb
      · rw [if_pos (by rw [nI_ltI (by omega) (by omega)]; omega), q]
        rfl
      · have e := ih (X + 1) (by omega) (by omega)
        rw [sm, ch_] at e
        have ha := adi (nb := nb) p2 (mk_lt b1 _) len (show X < 2 ^ 31 by omega) (show 1 < 2 ^ 31 by omega)
        rw [is_eq hs1 hh] at ha
        rw [if_neg (by rw [nI_ltI (by omega) (by omega)]; omega), show (1 : Int32) = nI 1 from rfl, ha, bdd_some, show nI 1 = (1 : Int32) from rfl, nI_1]
        cases z : is_ T M nb nh h X with
        | false =>
          rw [z, if_neg (by decide), Nat.add_zero] at e
          rw [if_pos (show bz false = 0 from rfl)]
          exact e
        | true =>
          obtain ⟨F2, eF2, hF2⟩ := fu_get
          have e5 := heard5 hs1 hl1 (show X < 64 by omega) F2 0 (by omega) (by omega)
          rw [z, if_pos rfl, ← lN_add] at e
          rw [if_neg (show ¬ bz true = 0 by decide), m_X7_chanceHeard, eF2]
          rw [show m_X7_chanceHeard_5 F2 (nI X) 1 0 g1 = some (lN (pm (cw_ Lf X) nb), g1) from e5, bdd_some]
          exact e
  refine ⟨g1, ?_, s1⟩
  rw [m_X7_chanceOf, m_X7_takePairsOf, eF]
  rw [show m_X7_takePairsOf_7 F (nI h) 0 (wrI g 23 2 0) = some (nI 0, g1) from p1, bdd_some]
  exact key F 0 (by omega) (by omega)
theorem above22 {nb nh hd : Nat} {T : Nat → Nat → Nat} {M : Nat → Nat → Bool} {g : Mm} (hs : sv nb nh hd T M g) {Lf : Nat → Nat} (hl : lv_ Lf nb g) (K : Int32 → Int64 → Int32 → Mm → Option (Int64 × Mm)) (s : Int64) {X h : Nat} (hX : X < 64) (hh : h < nh) : ∀ (fu i : Nat), nh < i + fu → i ≤ nh →
    m_X10_tellsAbove_22 K fu (nI h) s (nI X) (bz (alN (fun o => decide (o = h) || (M o h || !decide (Dm T nb o h &&& X = 0))) i)) (nI i) g = K (nI h) (s + lN (ch_ T M Lf nb nh h X)) (nI (X + 1)) g := by
  obtain ⟨⟨b1, b2, b3, b4, b5⟩, ⟨t1, t2, t3, t4, t5, t6⟩, -⟩ := id hs.1
  obtain ⟨F, eF, hF⟩ := fu_get
  intro fu
  induction fu with
  | zero => intro i h1 h2; omega
  | succ fu ih =>
    intro i h1 h2
    rw [m_X10_tellsAbove_22, t5]
    by_cases q : i = nh
    · subst q
      rw [if_pos (by rw [nI_leI (by omega) (by omega)]; omega), eF, ch_, is_]
      cases alN (fun o => decide (o = h) || (M o h || !decide (Dm T nb o h &&& X = 0))) i with
      | false =>
        have e := above93 hs hl K (nI h) s 0 hX F 0 (by omega) (by omega)
        rw [Nat.zero_mul, Nat.zero_mul] at e
        rw [if_pos (show bz false = 0 from rfl), if_neg (by decide)]
        exact e
      | true =>
        have e := above93 hs hl K (nI h) s 1 hX F 0 (by omega) (by omega)
        rw [Nat.one_mul, Nat.one_mul] at e
        rw [if_neg (show ¬ bz true = 0 by decide), if_pos rfl]
        exact e
    · have e := ih (i + 1) (by omega) (by omega)
      rw [alN] at e
      rw [if_neg (by rw [nI_leI (by omega) (by omega)]; omega), nI_1]
      cases z : alN (fun o => decide (o = h) || (M o h || !decide (Dm T nb o h &&& X = 0))) i with
      | false =>
        rw [z, Bool.false_and] at e
        rw [if_pos (show bz false = 0 from rfl)]
        exact e
      | true =>
        rw [z, Bool.true_and] at e
        rw [if_neg (show ¬ bz true = 0 by decide)]
        by_cases y : i = h
        · rw [decide_eq_true y, Bool.true_or] at e
          rw [if_pos (by rw [y])]
          exact e
        · rw [decide_eq_false y, Bool.false_or] at e
          rw [if_neg (fun w => by exact y ((nI_eq (by omega) (by omega)).mp w)), hs.mm (by omega) (by omega), bdd_some]
          cases m : M i h with
          | true =>
            rw [m, Bool.true_or] at e
            rw [if_neg (show ¬ bz true = 0 by decide)]
            exact e
          | false =>
            rw [m, Bool.false_or] at e
            have hlt := and_lt64 (b := X) (Dm_lt T b1 i h)
            rw [if_pos (show bz false = 0 from rfl), hs.dm (by omega) (by omega), bdd_some, nI_and]
            by_cases w : Dm T nb i h &&& X = 0
            · rw [decide_eq_true w] at e
              rw [if_pos (show nI (Dm T nb i h &&& X) = 0 by rw [w]; rfl)]
              exact e
            · rw [decide_eq_false w] at e
              rw [if_neg (fun v => by exact w ((nI_eq (b := 0) (by omega) (by omega)).mp v))]
              exact e
theorem above_m {nb nh hd : Nat} {T : Nat → Nat → Nat} {M : Nat → Nat → Bool} {g : Mm} (hs : sv nb nh hd T M g) {Lf : Nat → Nat} (hl : lv_ Lf nb g) {h : Nat} (hh : h < nh) : m_X10_tellsAbove (nI h) g = some (lN (cs_ T M Lf nb nh h), g) := by
  obtain ⟨⟨b1, b2, b3, b4, b5⟩, ⟨t1, t2, t3, t4, t5, t6⟩, -⟩ := id hs.1
  have h64 := pow6 b1
  obtain ⟨F, eF, hF⟩ := fu_get
  have key : ∀ (fu X : Nat), 2 ^ nb < X + fu → X ≤ 2 ^ nb → m_X10_tellsAbove_5 fu (nI h) (lN (sm (ch_ T M Lf nb nh h) X)) (nI X) g = some (lN (cs_ T M Lf nb nh h), g) := by
    intro fu
    induction fu with
    | zero => intro X h1 h2; omega
    | succ fu ih =>
      intro X h1 h2
      rw [m_X10_tellsAbove_5, t4, shl_1 (by omega)]
      by_cases q : X = 2 ^ nb
      · rw [if_pos (by rw [nI_leI (by omega) (by omega)]; omega), q]
        rfl
      · have e := ih (X + 1) (by omega) (by omega)
        rw [sm, ← lN_add] at e
        rw [if_neg (by rw [nI_leI (by omega) (by omega)]; omega), eF]
        refine Eq.trans ?_ e
        exact above22 hs hl (m_X10_tellsAbove_5 fu) (lN (sm (ch_ T M Lf nb nh h) X)) (show X < 64 by omega) hh F 0 (by omega) (by omega)
  rw [m_X10_tellsAbove, eF]
  exact key F 0 (by omega) (Nat.zero_le _)
/-! lowest terms -/
theorem rm_lN {a b : Nat} (ha : a < 2 ^ 63) (h0 : 0 < b) (hb : b < 2 ^ 63) : rmL (lN a) (lN b) = lN (a % b) := pk_lRem ha h0 hb
theorem l0_iff {a : Nat} (ha : a < 2 ^ 63) : lN a = (0 : Int64) ↔ a = 0 := pk_lEQ (b := 0) ha (by omega)
theorem half_mod {x y k : Nat} (hy : y < 2 ^ (k + 1)) (hr : 0 < x % y) : y % (x % y) < 2 ^ k := by
  rcases Nat.eq_zero_or_pos y with z | hy0
  · subst z
    rw [Nat.zero_mod]
    exact Nat.two_pow_pos k
  have h1 := Nat.mod_lt y hr
  have h2 := Nat.mod_lt x hy0
  have h3 := Nat.div_add_mod y (x % y)
  have h4 : 1 ≤ y / (x % y) := (Nat.le_div_iff_mul_le hr).mpr (by omega)
  have h5 : x % y ≤ x % y * (y / (x % y)) := Nat.le_mul_of_pos_right _ h4
  rw [Nat.pow_succ] at hy
  omega
theorem gcd_c : ∀ (k fu s x y : Nat) (g : Mm), y < 2 ^ k → k ≤ 63 → x < 2 ^ 63 → s + 2 * k < 1000 → 2 * k < fu → m_X7_greatestDivisor_9 fu (lN x) (lN y) (nI s) g = some (lN (Nat.gcd y x), g) := by
  intro k
  induction k with
  | zero =>
    intro fu s x y g hy hk hx hs hf
    obtain ⟨fu, rfl⟩ : ∃ f, fu = f + 1 := ⟨fu - 1, by omega⟩
    have : y = 0 := by omega
    subst this
    rw [m_X7_greatestDivisor_9, if_neg (show ¬ (1000 : Int32) ≤ nI s from fun w => by have := (nI_leI (a := 1000) (by omega) (by omega)).mp w; omega), if_pos (show lg_cmp (lN 0) 0 = 0 from by decide), Nat.gcd_zero_left]
  | succ k ih =>
    intro fu s x y g hy hk hx hs hf
    have hy63 : y < 2 ^ 63 := Nat.lt_of_lt_of_le hy (Nat.pow_le_pow_right (by decide) hk)
    obtain ⟨fu, rfl⟩ : ∃ f, fu = f + 1 + 1 := ⟨fu - 2, by omega⟩
    rw [m_X7_greatestDivisor_9, if_neg (show ¬ (1000 : Int32) ≤ nI s from fun w => by have := (nI_leI (a := 1000) (by omega) (by omega)).mp w; omega)]
    by_cases q : y = 0
    · subst q
      rw [if_pos (show lg_cmp (lN 0) 0 = 0 from by decide), Nat.gcd_zero_left]
    · have q1 : ¬ lN y = (0 : Int64) := fun w => q ((l0_iff hy63).mp w)
      rw [if_neg (fun w => by exact q1 ((cmp_eq _ _).mp w)), decide_eq_true q1, gdd_true, rm_lN hx (by omega) hy63, nI_1]
      have hm := Nat.mod_lt x (show 0 < y by omega)
      rw [m_X7_greatestDivisor_9, if_neg (show ¬ (1000 : Int32) ≤ nI (s + 1) from fun w => by have := (nI_leI (a := 1000) (by omega) (by omega)).mp w; omega)]
      by_cases z : x % y = 0
      · rw [z, if_pos (show lg_cmp (lN 0) 0 = 0 from by decide)]
        rw [Nat.gcd_rec, z, Nat.gcd_zero_left]
      · have z1 : ¬ lN (x % y) = (0 : Int64) := fun w => z ((l0_iff (by omega)).mp w)
        rw [if_neg (fun w => by exact z1 ((cmp_eq _ _).mp w)), decide_eq_true z1, gdd_true, rm_lN hy63 (by omega) (by omega), nI_1, ih fu (s + 1 + 1) (x % y) (y % (x % y)) g (half_mod hy (by omega)) (by omega) (by omega) (by omega) (by omega)]
        rw [← Nat.gcd_rec, ← Nat.gcd_rec]
theorem gcd_m : ∀ (k fu x y : Nat) (u v : Int64) (a : Int32) (g : Mm), y < 2 ^ k → k ≤ 63 → x < 2 ^ 63 → 2 * k < fu → 0 < Nat.gcd y x → Nat.gcd y x < 2 ^ 63 → m_X10_lowest_6 fu u v a (lN x) (lN y) g = some (if a = 0 then u / lN (Nat.gcd y x) else v / lN (Nat.gcd y x), g) := by
  have fin : ∀ (d : Nat) (u v : Int64) (a : Int32) (g : Mm), 0 < d → d < 2 ^ 63 → (if a = (0 : Int32) then gdd (decide (¬ lN d = 0)) (some ((u / lN d), g)) else gdd (decide (¬ lN d = 0)) (some ((v / lN d), g))) = some (if a = 0 then u / lN d else v / lN d, g) := by
    intro d u v a g h1 h2
    rw [decide_eq_true (show ¬ lN d = (0 : Int64) from fun w => by have := (l0_iff h2).mp w; omega), gdd_true, gdd_true]
    split <;> rfl
  intro k
  induction k with
  | zero =>
    intro fu x y u v a g hy hk hx hf h0 h1
    obtain ⟨fu, rfl⟩ : ∃ f, fu = f + 1 := ⟨fu - 1, by omega⟩
    have : y = 0 := by omega
    subst this
    rw [Nat.gcd_zero_left] at h0 h1 ⊢
    rw [m_X10_lowest_6, if_pos (show lg_cmp (lN 0) 0 = 0 from by decide)]
    exact fin x u v a g h0 h1
  | succ k ih =>
    intro fu x y u v a g hy hk hx hf h0 h1
    have hy63 : y < 2 ^ 63 := Nat.lt_of_lt_of_le hy (Nat.pow_le_pow_right (by decide) hk)
    obtain ⟨fu, rfl⟩ : ∃ f, fu = f + 1 + 1 := ⟨fu - 2, by omega⟩
    rw [m_X10_lowest_6]
    by_cases q : y = 0
    · subst q
      rw [Nat.gcd_zero_left] at h0 h1 ⊢
      rw [if_pos (show lg_cmp (lN 0) 0 = 0 from by decide)]
      exact fin x u v a g h0 h1
    · have q1 : ¬ lN y = (0 : Int64) := fun w => q ((l0_iff hy63).mp w)
      rw [if_neg (fun w => by exact q1 ((cmp_eq _ _).mp w)), decide_eq_true q1, gdd_true, rm_lN hx (by omega) hy63]
      have hm := Nat.mod_lt x (show 0 < y by omega)
      rw [m_X10_lowest_6]
      by_cases z : x % y = 0
      · rw [z, if_pos (show lg_cmp (lN 0) 0 = 0 from by decide)]
        rw [Nat.gcd_rec, z, Nat.gcd_zero_left]
        exact fin y u v a g (by omega) hy63
      · have z1 : ¬ lN (x % y) = (0 : Int64) := fun w => z ((l0_iff (by omega)).mp w)
        have e : Nat.gcd y x = Nat.gcd (y % (x % y)) (x % y) := by rw [Nat.gcd_rec, Nat.gcd_rec]
        rw [e] at h0 h1 ⊢
        rw [if_neg (fun w => by exact z1 ((cmp_eq _ _).mp w)), decide_eq_true z1, gdd_true, rm_lN hy63 (by omega) (by omega)]
        exact ih fu (x % y) (y % (x % y)) u v a g (half_mod hy (by omega)) (by omega) (by omega) (by omega) h0 h1
theorem low_c {A B : Nat} (hA : A < 2 ^ 63) (hB : B < 2 ^ 63) (h0 : 0 < B) (p : Int32) (g : Mm) : m_X7_chanceInLowestTerms_90 p (lN A) (lN B) g = some (if p = 0 then lN A / lN (Nat.gcd A B) else lN B / lN (Nat.gcd A B), g) := by
  obtain ⟨F, eF, hF⟩ := fu_get
  have hg0 : 0 < Nat.gcd A B := Nat.gcd_pos_of_pos_right _ h0
  have hg1 : Nat.gcd A B < 2 ^ 63 := Nat.lt_of_le_of_lt (Nat.gcd_le_right _ h0) hB
  rw [m_X7_chanceInLowestTerms_90, m_X7_greatestDivisor, eF]
  rw [show m_X7_greatestDivisor_9 F (lN B) (lN A) 0 g = some (lN (Nat.gcd A B), g) from gcd_c 63 F 0 B A g hA (by omega) hB (by omega) (by omega), bdd_some]
  have hmax : m_J9_max_f86c9 (1 : Int64) (lN (Nat.gcd A B)) g = some (lN (Nat.gcd A B), g) := by
    rw [m_J9_max_f86c9]
    by_cases q : lg_cmp (1 : Int64) (lN (Nat.gcd A B)) < 0
    · rw [if_pos q]
    · rw [if_neg q]
      have : ¬ (1 : Int64) < lN (Nat.gcd A B) := fun w => q ((cmp_lt _ _).mpr w)
      have h1 : ¬ 1 < Nat.gcd A B := fun w => this ((pk_lLT (a := 1) (by omega) hg1).mpr w)
      rw [show Nat.gcd A B = 1 by omega]
      rfl
  rw [hmax, bdd_some, decide_eq_true (show ¬ lN (Nat.gcd A B) = (0 : Int64) from fun w => by have := (l0_iff hg1).mp w; omega), gdd_true, gdd_true]
  split <;> rfl
theorem low_m {A B : Nat} (hA : A < 2 ^ 63) (hB : B < 2 ^ 63) (h0 : 0 < B) (p : Int32) (g : Mm) : m_X10_lowest (lN A) (lN B) p g = some (if p = 0 then lN A / lN (Nat.gcd A B) else lN B / lN (Nat.gcd A B), g) := by
  obtain ⟨F, eF, hF⟩ := fu_get
  have hg0 : 0 < Nat.gcd A B := Nat.gcd_pos_of_pos_right _ h0
  have hg1 : Nat.gcd A B < 2 ^ 63 := Nat.lt_of_le_of_lt (Nat.gcd_le_right _ h0) hB
  rw [m_X10_lowest, eF, Nat.gcd_comm A B]
  rw [Nat.gcd_comm A B] at hg0 hg1
  exact gcd_m 63 F A B (lN A) (lN B) p g hB (by omega) hA (by omega) hg0 hg1
theorem low_b {A B : Nat} (hA : A < 2 ^ 63) (hB : B < 2 ^ 63) (h0 : 0 < B) (p : Int32) (g : Mm) : ∃ r, m_X7_chanceInLowestTerms_90 p (lN A) (lN B) g = some (r, g) ∧ m_X10_lowest (lN A) (lN B) p g = some (r, g) := ⟨_, low_c hA hB h0 p g, low_m hA hB h0 p g⟩
theorem cs_le {nb nh h : Nat} {T : Nat → Nat → Nat} {M : Nat → Nat → Bool} {Lf : Nat → Nat} {g : Mm} (hb : nb ≤ 6) (hl : lv_ Lf nb g) : cs_ T M Lf nb nh h ≤ 64 * 100 ^ 6 := by
  have h64 := pow6 hb
  have h1 : cs_ T M Lf nb nh h ≤ 2 ^ nb * 100 ^ 6 := sm_le (fun i _ => by
    rw [ch_]
    split
    · exact Nat.le_trans (pm_le (cw_le hl)) (Nat.pow_le_pow_right (by decide) hb)
    · exact Nat.zero_le _)
  exact Nat.le_trans h1 (Nat.mul_le_mul_right _ h64)
theorem sum63 {nb nh hd : Nat} {T : Nat → Nat → Nat} {M : Nat → Nat → Bool} {Lf : Nat → Nat} (K : Int32 → Int64 → Int64 → Mm → Option (Int64 × Mm)) (p : Int32) (B : Int64) : ∀ (fu i : Nat) (g : Mm), nh < i + fu → i ≤ nh → sv nb nh hd T M g → lv_ Lf nb g →
    ∃ g', m_X7_chanceInLowestTerms_63 K fu p (lN (sm (cs_ T M Lf nb nh) i)) B (nI i) g = K p (lN (sm (cs_ T M Lf nb nh) nh)) B g' ∧ sc_ g g' := by
  intro fu
  induction fu with
  | zero => intro i g h1 h2; omega
  | succ fu ih =>
    intro i g h1 h2 hs hl
    have b3 := hs.1.1.2.2.1
    rw [m_X7_chanceInLowestTerms_63, hs.1.2.1.2.1]
    by_cases q : i = nh
    · subst q
      exact ⟨g, by rw [if_pos (by rw [nI_leI (by omega) (by omega)]; omega)], sc_.rf⟩
    · obtain ⟨g1, e1, s1⟩ := chance_c hs hl (show i < nh by omega)
      obtain ⟨g2, e2, s2⟩ := ih (i + 1) g1 (by omega) (by omega) (hs.sc s1) (hl.sc s1)
      rw [sm, ← lN_add] at e2
      refine ⟨g2, ?_, s1.tr s2⟩
      rw [if_neg (by rw [nI_leI (by omega) (by omega)]; omega), e1, bdd_some, nI_1]
      exact e2
theorem sum74 {nb nh hd : Nat} {T : Nat → Nat → Nat} {M : Nat → Nat → Bool} {Lf : Nat → Nat} {g : Mm} (hs : sv nb nh hd T M g) (hl : lv_ Lf nb g) (p : Int32) (B : Int64) : ∀ (fu i : Nat), nh < i + fu → i ≤ nh →
    m_X10_odds_74 fu p B (lN (sm (cs_ T M Lf nb nh) i)) (nI i) g = bdd (m_X10_lowest (lN (sm (cs_ T M Lf nb nh) nh)) (B * (nI nh).toInt64) p g) (fun r g2 => some (r, g2)) := by
  have b3 := hs.1.1.2.2.1
  have t5 := hs.1.2.1.2.2.2.2.1
  intro fu
  induction fu with
  | zero => intro i h1 h2; omega
  | succ fu ih =>
    intro i h1 h2
    rw [m_X10_odds_74, t5]
    by_cases q : i = nh
    · subst q
      rw [if_pos (by rw [nI_leI (by omega) (by omega)]; omega)]
    · have e := ih (i + 1) (by omega) (by omega)
      rw [sm, ← lN_add] at e
      rw [if_neg (by rw [nI_leI (by omega) (by omega)]; omega), above_m hs hl (by omega), bdd_some, nI_1]
      exact e
theorem cil_c {nb nh hd : Nat} {T : Nat → Nat → Nat} {M : Nat → Nat → Bool} {g : Mm} (hs : sv nb nh hd T M g) (h p : Int32) : ∀ (fu i : Nat), nb < i + fu → i ≤ nb →
    m_X7_chanceInLowestTerms_8 fu h p (lN 0) (lN (100 ^ i)) (nI i) g = if h < 0 then m_X7_chanceInLowestTerms_63 m_X7_chanceInLowestTerms_90 fuL p (lN 0) (lN (100 ^ nb) * (nI nh).toInt64) 0 g else bdd (m_X7_chanceOf h g) (fun r g4 => m_X7_chanceInLowestTerms_90 p r (lN (100 ^ nb)) g4) := by
  obtain ⟨⟨b1, b2, b3, b4, b5⟩, ⟨t1, t2, t3, t4, t5, t6⟩, -⟩ := id hs.1
  intro fu
  induction fu with
  | zero => intro i h1 h2; omega
  | succ fu ih =>
    intro i h1 h2
    rw [m_X7_chanceInLowestTerms_8, t1]
    by_cases q : i = nb
    · subst q
      rw [if_pos (by rw [nI_leI (by omega) (by omega)]; omega), t2]
    · have e := ih (i + 1) (by omega) (by omega)
      rw [Nat.pow_succ, ← lN_mul] at e
      rw [if_neg (by rw [nI_leI (by omega) (by omega)]; omega), nI_1]
      exact e
theorem odd_32 {nb nh hd : Nat} {T : Nat → Nat → Nat} {M : Nat → Nat → Bool} {g : Mm} (hs : sv nb nh hd T M g) (h p : Int32) : ∀ (fu i : Nat), nb < i + fu → i ≤ nb →
    m_X10_odds_32 fu h p (lN (100 ^ i)) (nI i) g = if h < 0 then m_X10_odds_74 fuL p (lN (100 ^ nb)) (0 : Int64) 0 g else bdd (m_X10_tellsAbove h g) (fun r g4 => bdd (m_X10_lowest r (lN (100 ^ nb)) p g4) (fun r2 g7 => some (r2, g7))) := by
  obtain ⟨⟨b1, b2, b3, b4, b5⟩, ⟨t1, t2, t3, t4, t5, t6⟩, -⟩ := id hs.1
  intro fu
  induction fu with
  | zero => intro i h1 h2; omega
  | succ fu ih =>
    intro i h1 h2
    rw [m_X10_odds_32, t4]
    by_cases q : i = nb
    · subst q
      rw [if_pos (by rw [nI_leI (by omega) (by omega)]; omega)]
    · have e := ih (i + 1) (by omega) (by omega)
      rw [Nat.pow_succ, ← lN_mul] at e
      rw [if_neg (by rw [nI_leI (by omega) (by omega)]; omega), nI_1]
      exact e
theorem odds_ok {nb nh hd : Nat} {T : Nat → Nat → Nat} {M : Nat → Nat → Bool} {Lf : Nat → Nat} {g : Mm} (hs : sv nb nh hd T M g) (hl : lv_ Lf nb g) (h : Int32) (hh : h < 0 ∨ ∃ k, k < nh ∧ h = nI k) (p : Int32) :
    ∃ r g1, m_X7_chanceInLowestTerms h p g = some (r, g1) ∧ sc_ g g1 ∧ m_X10_odds_32 fuL h p (1 : Int64) 0 g1 = some (r, g1) := by
  obtain ⟨F, eF, hF⟩ := fu_get
  have b1 := hs.1.1.1
  have b3 := hs.1.1.2.2.1
  have b2 := hs.1.1.2.1
  have c1 := cil_c hs h p F 0 (by omega) (by omega)
  have hB0 : 0 < 100 ^ nb := Nat.pow_pos (by decide)
  have hB1 : 100 ^ nb ≤ 100 ^ 6 := Nat.pow_le_pow_right (by decide) b1
  have hc : m_X7_chanceInLowestTerms h p g = m_X7_chanceInLowestTerms_8 F h p (lN 0) (lN (100 ^ 0)) (nI 0) g := by
    rw [m_X7_chanceInLowestTerms, eF]
    rfl
  rw [c1] at hc
  have ho : ∀ g1, sv nb nh hd T M g1 → m_X10_odds_32 fuL h p (1 : Int64) 0 g1 = if h < 0 then m_X10_odds_74 fuL p (lN (100 ^ nb)) (0 : Int64) 0 g1 else bdd (m_X10_tellsAbove h g1) (fun r g4 => bdd (m_X10_lowest r (lN (100 ^ nb)) p g4) (fun r2 g7 => some (r2, g7))) := by
    intro g1 h1
    rw [eF]
    rw [show (1 : Int64) = lN (100 ^ 0) from rfl, show (0 : Int32) = nI 0 from rfl, odd_32 h1 h p F 0 (by omega) (by omega), eF]
    rfl
  by_cases q : h < 0
  · rw [if_pos q] at hc
    have hS : sm (cs_ T M Lf nb nh) nh ≤ nh * (64 * 100 ^ 6) := sm_le (fun i _ => cs_le b1 hl)
    have hS2 : nh * (64 * 100 ^ 6) ≤ 24 * (64 * 100 ^ 6) := Nat.mul_le_mul_right _ b3
    have hS3 : 100 ^ nb * nh ≤ 100 ^ 6 * 24 := Nat.mul_le_mul hB1 b3
    have hS4 : 0 < 100 ^ nb * nh := Nat.mul_pos hB0 (by omega)
    have hbelow : lN (100 ^ nb) * (nI nh).toInt64 = lN (100 ^ nb * nh) := by rw [nI_l (by omega), lN_mul]
    obtain ⟨g1, e1, s1⟩ := sum63 (nb := nb) (nh := nh) (hd := hd) (T := T) (M := M) (Lf := Lf) m_X7_chanceInLowestTerms_90 p (lN (100 ^ nb) * (nI nh).toInt64) F 0 g (by omega) (by omega) hs hl
    obtain ⟨r, e3, e4⟩ := low_b (A := sm (cs_ T M Lf nb nh) nh) (B := 100 ^ nb * nh) (by omega) (by omega) hS4 p g1
    refine ⟨r, g1, ?_, s1, ?_⟩
    · rw [hc, eF]
      refine Eq.trans e1 ?_
      rw [hbelow]
      exact e3
    · rw [ho g1 (hs.sc s1), if_pos q, eF]
      refine Eq.trans (sum74 (hs.sc s1) (hl.sc s1) p (lN (100 ^ nb)) F 0 (by omega) (by omega)) ?_
      rw [hbelow, e4, bdd_some]
  · rcases hh with hh | ⟨k, hk, rfl⟩
    · exact absurd hh q
    · rw [if_neg q] at hc
      obtain ⟨g1, e1, s1⟩ := chance_c hs hl hk
      have hS := cs_le (T := T) (M := M) (nh := nh) (h := k) b1 hl
      obtain ⟨r, e3, e4⟩ := low_b (A := cs_ T M Lf nb nh k) (B := 100 ^ nb) (by omega) (by omega) hB0 p g1
      refine ⟨r, g1, ?_, s1, ?_⟩
      · rw [hc, e1, bdd_some]
        exact e3
      · rw [ho g1 (hs.sc s1), if_neg q, above_m (hs.sc s1) (hl.sc s1) hk, bdd_some, e4, bdd_some]
theorem op_odds (a0 a1 : Int32) {g : Mm} (hg : gv_ g) : al_ (m_X9_odds a0 a1) (m_X10_odds a0 a1) g := by
  have hg0 := hg
  obtain ⟨nb, nh, hd, cd, ck, tl, rt, nn, na, ra, f, hT, hX, hC, hP, hL, hE, hA, hS⟩ := hg
  obtain ⟨⟨b1, b2, b3, b4, b5⟩, ⟨t1, t2, t3, t4, t5, t6⟩, t7, t8, -⟩ := id hT
  have hl : lv_ (fun b => (rdI g 4 b).toNatClampNeg) nb g := fun b hb => by
    obtain ⟨-, -, k, hk, e⟩ := t8 b hb
    refine ⟨?_, ?_, ?_⟩
    · show _ = nI (rdI g 4 b).toNatClampNeg
      rw [e, nI_clamp (by omega)]
    · show _ = nI (rdI g 4 b).toNatClampNeg
      rw [(t7 b (by omega)).2.2, e, nI_clamp (by omega)]
    · show (rdI g 4 b).toNatClampNeg ≤ 100
      rw [e, nI_clamp (by omega)]
      exact hk
  by_cases hh : a0 = -1 ∨ ∃ k, k < nh ∧ a0 = nI k
  · have c1 : ¬ a0 < (-1 : Int32) := by
      rcases hh with rfl | ⟨k, hk, rfl⟩
      · decide
      · intro w
        rw [fa_lt, nI_toInt (by omega), show (-1 : Int32).toInt = -1 from rfl] at w
        omega
    have c2 : ¬ nI nh ≤ a0 := by
      rcases hh with rfl | ⟨k, hk, rfl⟩
      · intro w
        rw [fa_le, nI_toInt (by omega), show (-1 : Int32).toInt = -1 from rfl] at w
        omega
      · rw [nI_leI (by omega) (by omega)]
        omega
    have hm : ∀ g1, sv nb nh hd (tv g) (mx_ g) g1 → m_X10_odds a0 a1 g1 = m_X10_odds_13 a0 a1 g1 := by
      intro g1 h1
      rw [m_X10_odds]
      by_cases q : a0 = -1
      · rw [if_pos q]
      · rcases hh with e | ⟨k, hk, rfl⟩
        · exact absurd e q
        · rw [if_neg q, m10_isHour h1.1.2.1.2.2.2.2.1 (by omega), bdd_some, lt_n_nI (by omega), decide_eq_true hk, if_neg (show ¬ bz true = 0 by decide)]
    have hs := sv.self hT hX
    rcases i_cases a1 with h | ⟨v, hv, rfl⟩
    · refine al_.same (r := -9223372036854775808) hg0 ?_ ?_
      · rw [m_X9_odds, if_neg c1, t2, if_neg c2, if_pos (neg_lt0 h)]
      · rw [hm g hs, m_X10_odds_13, in_neg h (by decide), bdd_some, if_pos (show bz false = 0 from rfl)]
    · by_cases v1 : v ≤ 1
      · obtain ⟨r, g1, e1, s1, e2⟩ := odds_ok hs hl a0 (by
          rcases hh with rfl | e
          · exact Or.inl (by decide)
          · exact Or.inr e) (nI v)
        refine ⟨r, g1, g1, ?_, ?_, s1.gv hg0⟩
        · rw [m_X9_odds, if_neg c1, t2, if_neg c2, if_neg (fun w => by have := (nI_ltI (b := 0) hv (by omega)).mp w; omega), if_pos (by exact (nI_leI (b := 1) hv (by omega)).mpr v1), e1, bdd_some]
        · rw [hm g1 (hs.sc s1), m_X10_odds_13, in_nI 0 1 0 1 hv rfl rfl, decide_eq_true (by omega), bdd_some, if_neg (show ¬ bz true = 0 by decide)]
          exact e2
      · refine al_.same (r := -9223372036854775808) hg0 ?_ ?_
        · rw [m_X9_odds, if_neg c1, t2, if_neg c2, if_neg (fun w => by have := (nI_ltI (b := 0) hv (by omega)).mp w; omega), if_neg (fun w => by exact v1 ((nI_leI (b := 1) hv (by omega)).mp w))]
        · rw [hm g hs, m_X10_odds_13, in_nI 0 1 0 1 hv rfl rfl, decide_eq_false (by omega), bdd_some, if_pos (show bz false = 0 from rfl)]
  · have q1 : ¬ a0 = -1 := fun w => hh (Or.inl w)
    have xm : m_X10_odds a0 a1 g = some (-9223372036854775808, g) := by
      rw [m_X10_odds, if_neg q1, m10_isHour t5 (by omega), bdd_some]
      cases z : lt_n a0 nh with
      | true =>
        obtain ⟨k, hk, e⟩ := lt_nI z (by omega)
        exact absurd (Or.inr ⟨k, hk, e⟩) hh
      | false => rw [if_pos (show bz false = 0 from rfl)]
    refine al_.same (r := -9223372036854775808) hg0 ?_ xm
    rw [m_X9_odds, t2]
    by_cases c1 : a0 < (-1 : Int32)
    · rw [if_pos c1]
    · rw [if_neg c1]
      by_cases c2 : nI nh ≤ a0
      · rw [if_pos c2]
      · exfalso
        rcases i_cases a0 with h | ⟨v, hv, rfl⟩
        · rw [fa_lt, show (-1 : Int32).toInt = -1 from rfl] at c1
          exact q1 (eq_m1 (by omega))
        · rw [nI_leI (by omega) (by omega)] at c2
          exact hh (Or.inr ⟨v, by omega, rfl⟩)
