/-! begins: a night half heard -/
theorem behind_c {nh a b : Nat} {g : Mm} (t2 : rdI g 1 1 = nI nh) (h2 : 2 ≤ nh) (hh : nh ≤ 24) (ha : a < 1000) (hb : b < 1000) : m_X2_hourBehind (nI a) (nI b) g = some (nI ((a + b) % nh), g) := by
  have hx : (a + b) ^^^ nh < 2 ^ 12 := Nat.xor_lt_two_pow (by omega) (by omega)
  rw [m_X2_hourBehind, m_J9_floorMod_7cf53, t2, decide_eq_true (show ¬ nI nh = (0 : Int32) from fun w => by have := (nI_eq (b := 0) (by omega) (by omega)).mp w; omega), gdd_true, nI_add, nI_xor, if_pos (by exact (nI_leI (a := 0) (by omega) (by omega)).mpr (Nat.zero_le _)), bdd_some, rm_nI (by omega) (by omega) (by omega)]
def mb_ (g : Mm) (nb nh h k : Nat) : Bool := alN (fun b => decide (rdI g 31 (6 * k + b) = -1) || decide (rdI g 31 (6 * k + b) = rdI g 5 (6 * ((h + k) % nh) + b))) nb
def mh_ (g : Mm) (nb nh nn h : Nat) : Bool := alN (mb_ g nb nh h) nn
theorem mayHave_c {nb nh hd rt nn : Nat} {g : Mm} (hT : gv_t nb nh hd g) (hE : gv_e rt nn nb g) {h : Nat} (hh : h < nh) : m_X2_mayHaveBegun (nI h) g = some (bz (mh_ g nb nh nn h), g) := by
  obtain ⟨⟨b1, b2, b3, b4, b5⟩, ⟨t1, t2, t3, t4, t5, t6⟩, -⟩ := id hT
  obtain ⟨⟨hrt, hnn⟩, ⟨e1, e2, e3, e4⟩, e5, e6⟩ := id hE
  have key : ∀ (fu i : Nat), nn < i + fu → i ≤ nn → alN (mb_ g nb nh h) i = true → m_X2_mayHaveBegun_2 fu (nI h) (nI i) g = some (bz (alN (mb_ g nb nh h) nn), g) := by
    intro fu
    induction fu with
    | zero => intro i h1 h2; omega
    | succ fu ih =>
      intro i h1 h2 h3
      rw [m_X2_mayHaveBegun_2, e2]
      by_cases q : i = nn
      · subst q
        rw [if_pos (by rw [nI_leI (by omega) (by omega)]; omega), h3]
        rfl
      · have e := ih (i + 1) (by omega) (by omega)
        have hm := Nat.mod_lt (h + i) (show 0 < nh by omega)
        rw [alN, h3, Bool.true_and] at e
        rw [if_neg (by rw [nI_leI (by omega) (by omega)]; omega), behind_c t2 b2 b3 (by omega) (by omega), bdd_some, show nI i * (6 : Int32) = nI (6 * i) by rw [show (6 : Int32) = nI 6 from rfl, pk_mul, Nat.mul_comm], maybe_c t1 b1 (by omega) (by omega) (by omega), bdd_some, nI_1]
        cases z : mb_ g nb nh h i with
        | false =>
          rw [mb_] at z
          rw [z, if_pos (show bz false = 0 from rfl), alN_no (p := mb_ g nb nh h) (i := i) (by omega) z]
          rfl
        | true =>
          have z2 := z
          rw [mb_] at z2
          rw [z2, if_neg (show ¬ bz true = 0 by decide)]
          exact e z
  obtain ⟨F, eF, hF⟩ := fu_get
  rw [m_X2_mayHaveBegun, eF]
  exact key F 0 (by omega) (by omega) rfl
theorem begun_c {nb nh hd rt nn : Nat} {g : Mm} (hT : gv_t nb nh hd g) (hE : gv_e rt nn nb g) : m_X2_hoursBegun g = some (nI (bm (mh_ g nb nh nn) nh), g) := by
  obtain ⟨⟨b1, b2, b3, b4, b5⟩, ⟨t1, t2, t3, t4, t5, t6⟩, -⟩ := id hT
  have key : ∀ (fu i : Nat), nh < i + fu → i ≤ nh → m_X2_hoursBegun_4 fu (nI (bm (mh_ g nb nh nn) i)) (nI i) g = some (nI (bm (mh_ g nb nh nn) nh), g) := by
    intro fu
    induction fu with
    | zero => intro i h1 h2; omega
    | succ fu ih =>
      intro i h1 h2
      rw [m_X2_hoursBegun_4, t2]
      by_cases q : i = nh
      · subst q
        rw [if_pos (by rw [nI_leI (by omega) (by omega)]; omega)]
      · have e := ih (i + 1) (by omega) (by omega)
        rw [if_neg (by rw [nI_leI (by omega) (by omega)]; omega), mayHave_c hT hE (by omega), bdd_some, nI_1]
        cases z : mh_ g nb nh nn i with
        | false =>
          rw [if_pos (show bz false = 0 from rfl), bm_f' (p := mh_ g nb nh nn) z]
          exact e
        | true =>
          rw [if_neg (show ¬ bz true = 0 by decide), bm_t (p := mh_ g nb nh nn) (by omega) z]
          exact e
  obtain ⟨F, eF, hF⟩ := fu_get
  rw [m_X2_hoursBegun, eF]
  exact key F 0 (by omega) (by omega)
theorem mayBegin_22 {nb nh hd rt nn : Nat} {g : Mm} (hT : gv_t nb nh hd g) (hE : gv_e rt nn nb g) (K : Int32 → Int32 → Mm → Option (Int32 × Mm)) {h k : Nat} (hh : h < nh) (hk : k < nn) : ∀ (fu i : Nat), nb < i + fu → i ≤ nb →
    alN (fun b => decide (rdI g 31 (6 * k + b) = -1) || decide (rdI g 31 (6 * k + b) = rdI g 5 (6 * ((h + k) % nh) + b))) i = true →
    m_X10_mayBegin_22 K fu (nI h) (nI k) (nI ((h + k) % nh)) (nI i) g = if mb_ g nb nh h k = true then K (nI h) (nI (k + 1)) g else some (0, g) := by
  obtain ⟨⟨b1, b2, b3, b4, b5⟩, ⟨t1, t2, t3, t4, t5, t6⟩, -⟩ := id hT
  obtain ⟨⟨hrt, hnn⟩, ⟨e1, e2, e3, e4⟩, e5, e6⟩ := id hE
  have hm := Nat.mod_lt (h + k) (show 0 < nh by omega)
  intro fu
  induction fu with
  | zero => intro i h1 h2; omega
  | succ fu ih =>
    intro i h1 h2 h3
    rw [m_X10_mayBegin_22, t4]
    by_cases q : i = nb
    · subst q
      rw [if_pos (by rw [nI_leI (by omega) (by omega)]; omega), if_pos (show mb_ g i nh h k = true from h3), nI_1]
    · have e := ih (i + 1) (by omega) (by omega)
      rw [alN, h3, Bool.true_and] at e
      obtain ⟨r1, r2⟩ := e6 (6 * k + i) (by omega)
      have a1 : (6 : Int32) * nI k + nI i = nI (6 * k + i) := by rw [show (6 : Int32) = nI 6 from rfl, pk_mul, nI_add]
      have a2 : (6 : Int32) * nI ((h + k) % nh) + nI i = nI (6 * ((h + k) % nh) + i) := by rw [show (6 : Int32) = nI 6 from rfl, pk_mul, nI_add]
      rw [if_neg (by rw [nI_leI (by omega) (by omega)]; omega), a1, ix_nI (by omega) (by omega), gdd_true, nI_clamp (by omega), r1, a2, nI_1]
      show (if rdI g 31 (6 * k + i) < (0 : Int32) then _ else _) = _
      by_cases z1 : rdI g 31 (6 * k + i) = -1
      · rw [if_pos (show rdI g 31 (6 * k + i) < (0 : Int32) by rw [z1]; decide)]
        exact e (by rw [decide_eq_true z1, Bool.true_or])
      · have z0 : ¬ rdI g 31 (6 * k + i) < (0 : Int32) := by
          rcases r2 with r2 | ⟨v, hv, r2⟩
          · exact absurd r2 z1
          · rw [r2]
            exact nI_pos (by omega)
        have t44 := (hT.2.2.2.2.1 (6 * ((h + k) % nh) + i) (by omega)).1
        rw [if_neg z0, ix_nI (by omega) (by omega), gdd_true, nI_clamp (by omega), t44]
        by_cases z2 : rdI g 31 (6 * k + i) = rdI g 5 (6 * ((h + k) % nh) + i)
        · rw [if_pos z2]
          exact e (by rw [decide_eq_true z2, Bool.or_true])
        · rw [if_neg z2, mb_, alN_no (i := i) (by omega) (by rw [decide_eq_false z1, decide_eq_false z2]; rfl), if_neg (by decide)]
theorem mayBegin_m {nb nh hd rt nn : Nat} {g : Mm} (hT : gv_t nb nh hd g) (hE : gv_e rt nn nb g) {h : Nat} (hh : h < nh) : m_X10_mayBegin (nI h) g = some (bz (mh_ g nb nh nn h), g) := by
  obtain ⟨⟨b1, b2, b3, b4, b5⟩, ⟨t1, t2, t3, t4, t5, t6⟩, -⟩ := id hT
  obtain ⟨⟨hrt, hnn⟩, ⟨e1, e2, e3, e4⟩, e5, e6⟩ := id hE
  have key : ∀ (fu i : Nat), nn < i + fu → i ≤ nn → alN (mb_ g nb nh h) i = true → m_X10_mayBegin_2 fu (nI h) (nI i) g = some (bz (alN (mb_ g nb nh h) nn), g) := by
    intro fu
    induction fu with
    | zero => intro i h1 h2; omega
    | succ fu ih =>
      intro i h1 h2 h3
      rw [m_X10_mayBegin_2, e4]
      by_cases q : i = nn
      · subst q
        rw [if_pos (by rw [nI_leI (by omega) (by omega)]; omega), h3]
        rfl
      · obtain ⟨F, eF, hF⟩ := fu_get
        have e := ih (i + 1) (by omega) (by omega)
        rw [alN, h3, Bool.true_and] at e
        rw [if_neg (by rw [nI_leI (by omega) (by omega)]; omega), t5, decide_eq_true (show ¬ nI nh = (0 : Int32) from fun w => by have := (nI_eq (b := 0) (by omega) (by omega)).mp w; omega), gdd_true, nI_add, rm_nI (by omega) (by omega) (by omega), eF, show (0 : Int32) = nI 0 from rfl, mayBegin_22 hT hE _ hh (by omega) F 0 (by omega) (by omega) rfl]
        cases z : mb_ g nb nh h i with
        | false =>
          rw [if_neg (by decide), alN_no (p := mb_ g nb nh h) (i := i) (by omega) z]
          rfl
        | true =>
          rw [if_pos rfl]
          exact e z
  obtain ⟨F, eF, hF⟩ := fu_get
  rw [m_X10_mayBegin, eF]
  exact key F 0 (by omega) (by omega) rfl
theorem begun_m {nb nh hd rt nn : Nat} {g : Mm} (hT : gv_t nb nh hd g) (hE : gv_e rt nn nb g) (a : Int32) : ∀ (fu i : Nat), nh < i + fu → i ≤ nh → m_X10_begins_16 fu a (nI (bm (mh_ g nb nh nn) i)) (nI i) g = if a = 0 then some (nI (bm (mh_ g nb nh nn) nh), g) else m_X10_begins_56 fuL (nI (bm (mh_ g nb nh nn) nh)) (0 : Int32) g := by
  obtain ⟨⟨b1, b2, b3, b4, b5⟩, ⟨t1, t2, t3, t4, t5, t6⟩, -⟩ := id hT
  intro fu
  induction fu with
  | zero => intro i h1 h2; omega
  | succ fu ih =>
    intro i h1 h2
    rw [m_X10_begins_16, t5]
    by_cases q : i = nh
    · subst q
      rw [if_pos (by rw [nI_leI (by omega) (by omega)]; omega)]
    · have e := ih (i + 1) (by omega) (by omega)
      rw [if_neg (by rw [nI_leI (by omega) (by omega)]; omega), mayBegin_m hT hE (by omega), bdd_some, nI_1]
      cases z : mh_ g nb nh nn i with
      | false =>
        rw [if_pos (show bz false = 0 from rfl), bm_f (p := mh_ g nb nh nn) (by omega) z]
        exact e
      | true =>
        rw [if_neg (show ¬ bz true = 0 by decide), bm_t (p := mh_ g nb nh nn) (by omega) z]
        exact e
/-! how many rows more -/
/-- the first of n numbers from x on -/
def fn_ (p : Nat → Bool) : Nat → Nat → Option Nat
  | 0, _ => none
  | n + 1, x => if p x = true then some x else fn_ p n (x + 1)
theorem fn_none {p : Nat → Bool} : ∀ (n x : Nat), fn_ p n x = none → exN p n x = false := by
  intro n
  induction n with
  | zero => intro x _; rfl
  | succ n ih =>
    intro x h
    rw [fn_] at h
    cases q : p x with
    | true => rw [q, if_pos rfl] at h; cases h
    | false =>
      rw [q, if_neg (by decide)] at h
      rw [exN, q, ih _ h]
      rfl
theorem fn_some {p : Nat → Bool} : ∀ (n x y : Nat), fn_ p n x = some y → x ≤ y ∧ y < x + n ∧ p y = true ∧ ∀ z, x ≤ z → z < y → p z = false := by
  intro n
  induction n with
  | zero => intro x y h; cases h
  | succ n ih =>
    intro x y h
    rw [fn_] at h
    cases q : p x with
    | true =>
      rw [q, if_pos rfl] at h
      cases h
      exact ⟨Nat.le_refl _, by omega, q, fun z h1 h2 => by omega⟩
    | false =>
      rw [q, if_neg (by decide)] at h
      obtain ⟨h1, h2, h3, h4⟩ := ih _ _ h
      refine ⟨by omega, by omega, h3, fun z h5 h6 => ?_⟩
      by_cases e : z = x
      · rw [e]; exact q
      · exact h4 z (by omega) h6
/-- the hours, so many rows later, differ -/
def pp_ (T : Nat → Nat → Nat) (nb nh nn : Nat) (p : Nat × Nat) (k : Nat) : Bool := !decide (Dm T nb ((p.1 + nn + k) % nh) ((p.2 + nn + k) % nh) = 0)
def rel_ (M : Nat → Nat → Bool) (S : Nat) (p : Nat × Nat) : Bool := S.testBit p.1 && (S.testBit p.2 && !M p.1 p.2)
def su_ (T : Nat → Nat → Nat) (M : Nat → Nat → Bool) (nb nh nn S r : Nat) (p : Nat × Nat) : Bool := !rel_ M S p || exN (pp_ T nb nh nn p) r 0
theorem more_c2 {nb nh hd nn : Nat} {T : Nat → Nat → Nat} {M : Nat → Nat → Bool} {g : Mm} (hs : sv nb nh hd T M g) (e2 : rdI g 29 4 = nI nn) (hnn : nn ≤ 12) {i j : Nat} (hi : i < nh) (hj : j < nh) : ∀ (fu k : Nat), 24 < k + fu → k ≤ 24 →
    m_X2_rowsMoreForPair_2 fu (nI i) (nI j) (nI k) g = some (gp_o ((fn_ (pp_ T nb nh nn (i, j)) (24 - k) k).map (fun y => y + 1)), g) := by
  obtain ⟨⟨b1, b2, b3, b4, b5⟩, ⟨t1, t2, t3, t4, t5, t6⟩, -⟩ := id hs.1
  intro fu
  induction fu with
  | zero => intro k h1 h2; omega
  | succ fu ih =>
    intro k h1 h2
    rw [m_X2_rowsMoreForPair_2]
    by_cases q : k = 24
    · subst q
      rw [if_pos (by decide)]
      rfl
    · have e := ih (k + 1) (by omega) (by omega)
      have m1 := Nat.mod_lt (i + (nn + k)) (show 0 < nh by omega)
      have m2 := Nat.mod_lt (j + (nn + k)) (show 0 < nh by omega)
      have hD := Dm_lt T b1 ((i + (nn + k)) % nh) ((j + (nn + k)) % nh)
      rw [if_neg (show ¬ (24 : Int32) ≤ nI k from fun w => by have := (nI_leI (a := 24) (by omega) (by omega)).mp w; omega), e2, nI_add, behind_c t2 b2 b3 (by omega) (by omega), bdd_some, e2, nI_add, behind_c t2 b2 b3 (by omega) (by omega), bdd_some, hs.dc (by omega) (by omega), bdd_some, show 24 - k = (24 - (k + 1)) + 1 by omega, fn_, nI_1]
      have hp : pp_ T nb nh nn (i, j) k = !decide (Dm T nb ((i + (nn + k)) % nh) ((j + (nn + k)) % nh) = 0) := by
        rw [pp_]
        show (!decide (Dm T nb ((i + nn + k) % nh) ((j + nn + k) % nh) = 0)) = _
        rw [Nat.add_assoc, Nat.add_assoc]
      by_cases z : Dm T nb ((i + (nn + k)) % nh) ((j + (nn + k)) % nh) = 0
      · rw [if_pos (show nI _ = (0 : Int32) by rw [z]; rfl), hp, decide_eq_true z, if_neg (by decide)]
        exact e
      · rw [if_neg (fun w => by exact z ((nI_eq (b := 0) (by omega) (by omega)).mp w)), hp, decide_eq_false z, if_pos (by decide)]
        rfl
theorem exN_mono {p : Nat → Bool} {n m x : Nat} (h : exN p n x = true) (hm : n ≤ m) : exN p m x = true := by
  obtain ⟨y, h1, h2, h3⟩ := (exN_iff _ _).mp h
  exact (exN_iff _ _).mpr ⟨y, h1, by omega, h3⟩
/-- so many rows are the least for these pairs -/
def iv_ (T : Nat → Nat → Nat) (M : Nat → Nat → Bool) (nb nh nn S : Nat) (L : List (Nat × Nat)) (m : Nat) : Prop := m ≤ 24 ∧ L.all (su_ T M nb nh nn S m) = true ∧ ∀ m', m' < m → L.all (su_ T M nb nh nn S m') = false
theorem iv_no {T : Nat → Nat → Nat} {M : Nat → Nat → Bool} {nb nh nn S m : Nat} {L : List (Nat × Nat)} {p : Nat × Nat} (h : iv_ T M nb nh nn S L m) (hr : rel_ M S p = false) : iv_ T M nb nh nn S (L ++ [p]) m := by
  refine ⟨h.1, ?_, fun m' hm => ?_⟩
  · rw [List.all_append, h.2.1, List.all_cons, su_, hr]
    rfl
  · rw [List.all_append, h.2.2 m' hm, Bool.false_and]
theorem iv_yes {T : Nat → Nat → Nat} {M : Nat → Nat → Bool} {nb nh nn S m y : Nat} {L : List (Nat × Nat)} {p : Nat × Nat} (h : iv_ T M nb nh nn S L m) (hr : rel_ M S p = true) (hf : fn_ (pp_ T nb nh nn p) 24 0 = some y) : iv_ T M nb nh nn S (L ++ [p]) (max m (y + 1)) := by
  obtain ⟨f1, f2, f3, f4⟩ := fn_some _ _ _ hf
  obtain ⟨h1, h2, h3⟩ := h
  refine ⟨by omega, ?_, fun m' hm => ?_⟩
  · rw [List.all_append, Bool.and_eq_true]
    constructor
    · rw [List.all_eq_true] at h2 ⊢
      intro q hq
      have := h2 q hq
      rw [su_, Bool.or_eq_true] at this ⊢
      rcases this with w | w
      · exact Or.inl w
      · exact Or.inr (exN_mono w (Nat.le_max_left _ _))
    · rw [List.all_cons, List.all_nil, Bool.and_true, su_, Bool.or_eq_true]
      exact Or.inr ((exN_iff _ _).mpr ⟨y, Nat.zero_le _, by omega, f3⟩)
  · rw [List.all_append]
    by_cases q : m' < m
    · rw [h3 m' q, Bool.false_and]
    · have : exN (pp_ T nb nh nn p) m' 0 = false := by
        cases w : exN (pp_ T nb nh nn p) m' 0 with
        | false => rfl
        | true =>
          obtain ⟨z, z1, z2, z3⟩ := (exN_iff _ _).mp w
          rw [f4 z z1 (by omega)] at z3
          cases z3
      rw [List.all_cons, su_, hr, this]
      simp
theorem more_c20 {nb nh hd nn : Nat} {T : Nat → Nat → Nat} {M : Nat → Nat → Bool} {g : Mm} (hs : sv nb nh hd T M g) (e2 : rdI g 29 4 = nI nn) (hnn : nn ≤ 12) (K : Int32 → Int32 → Int32 → Mm → Option (Int32 × Mm)) {S i : Nat} (hS : S < 2 ^ 24) (hi : i < nh) : ∀ (fu j m : Nat) (L : List (Nat × Nat)), nh < j + fu → i < j → j ≤ nh → iv_ T M nb nh nn S L m →
    (∃ m', m_X2_rowsMore_20 K fu (nI S) (nI m) (nI i) (nI j) g = K (nI S) (nI m') (nI (i + 1)) g ∧ iv_ T M nb nh nn S (L ++ rj nh i j) m') ∨ (m_X2_rowsMore_20 K fu (nI S) (nI m) (nI i) (nI j) g = some (-2, g) ∧ ∃ p, p ∈ ri nh 0 ∧ su_ T M nb nh nn S 24 p = false) := by
  obtain ⟨⟨b1, b2, b3, b4, b5⟩, ⟨t1, t2, t3, t4, t5, t6⟩, -⟩ := id hs.1
  intro fu
  induction fu with
  | zero => intro j m L h1 h0 h2; omega
  | succ fu ih =>
    intro j m L h1 h0 h2 hv
    rw [m_X2_rowsMore_20, t2]
    by_cases q : j = nh
    · subst q
      refine Or.inl ⟨m, ?_, ?_⟩
      · rw [if_pos (by rw [nI_leI (by omega) (by omega)]; omega), nI_1]
      · rw [rj_end (Nat.le_refl _), List.append_nil]
        exact hv
    · have app : L ++ rj nh i j = (L ++ [(i, j)]) ++ rj nh i (j + 1) := by rw [rj_next (by omega), List.append_assoc]; rfl
      rw [if_neg (by rw [nI_leI (by omega) (by omega)]; omega), bit_nI (by omega) (by omega), bit_nI (by omega) (by omega), app]
      have k0 : rel_ M S (i, j) = false → ∀ m2, m2 = m → (∃ m', m_X2_rowsMore_20 K fu (nI S) (nI m2) (nI i) (nI (j + 1)) g = K (nI S) (nI m') (nI (i + 1)) g ∧ iv_ T M nb nh nn S ((L ++ [(i, j)]) ++ rj nh i (j + 1)) m') ∨ (m_X2_rowsMore_20 K fu (nI S) (nI m2) (nI i) (nI (j + 1)) g = some (-2, g) ∧ ∃ p, p ∈ ri nh 0 ∧ su_ T M nb nh nn S 24 p = false) := by
        rintro hr m2 rfl
        exact ih (j + 1) m2 _ (by omega) (by omega) (by omega) (iv_no hv hr)
      have z54 : m_X2_rowsMore_54 (m_X2_rowsMore_20 K fu) (nI S) (nI m) (nI i) (nI j) 0 g = m_X2_rowsMore_20 K fu (nI S) (nI m) (nI i) (nI (j + 1)) g := by
        rw [m_X2_rowsMore_54, if_pos rfl, nI_1]
      cases x1 : S.testBit i with
      | false =>
        rw [if_pos (show bz false = 0 from rfl), z54]
        exact k0 (by rw [rel_, x1]; rfl) m rfl
      | true =>
        rw [if_neg (show ¬ bz true = 0 by decide)]
        cases x2 : S.testBit j with
        | false =>
          rw [if_pos (show bz false = 0 from rfl), z54]
          exact k0 (by rw [rel_, x1, x2]; rfl) m rfl
        | true =>
          rw [if_neg (show ¬ bz true = 0 by decide), m_X2_rowsMore_54, if_neg (by decide), hs.mc (by omega) (by omega), bdd_some, nI_1]
          cases x3 : M i j with
          | true =>
            rw [if_neg (show ¬ bz true = 0 by decide)]
            exact k0 (by rw [rel_, x1, x2, x3]; rfl) m rfl
          | false =>
            have hr : rel_ M S (i, j) = true := by rw [rel_, x1, x2, x3]; rfl
            obtain ⟨F, eF, hF⟩ := fu_get
            have e := more_c2 hs e2 hnn hi (show j < nh by omega) F 0 (by omega) (by omega)
            rw [if_pos (show bz false = 0 from rfl), m_X2_rowsMoreForPair, eF]
            rw [show m_X2_rowsMoreForPair_2 F (nI i) (nI j) 0 g = some (gp_o ((fn_ (pp_ T nb nh nn (i, j)) 24 0).map (fun y => y + 1)), g) from e, bdd_some]
            cases w : fn_ (pp_ T nb nh nn (i, j)) 24 0 with
            | none =>
              refine Or.inr ⟨?_, (i, j), pair_mem.mpr ⟨h0, by omega⟩, ?_⟩
              · rw [if_pos (show gp_o (Option.map (fun y => y + 1) none) = (-2 : Int32) from rfl)]
              · rw [su_, hr, fn_none _ _ w]
                rfl
            | some y =>
              obtain ⟨f1, f2, -, -⟩ := fn_some _ _ _ w
              have hm := hv.1
              rw [show gp_o (Option.map (fun y => y + 1) (some y)) = nI (y + 1) from rfl, if_neg (nn2 (by omega)), max_nI (by omega) (by omega), bdd_some]
              exact ih (j + 1) (max m (y + 1)) _ (by omega) (by omega) (by omega) (iv_yes hv hr w)
theorem more_c4 {nb nh hd nn : Nat} {T : Nat → Nat → Nat} {M : Nat → Nat → Bool} {g : Mm} (hs : sv nb nh hd T M g) (e2 : rdI g 29 4 = nI nn) (hnn : nn ≤ 12) {S : Nat} (hS : S < 2 ^ 24) : ∀ (fu i m : Nat) (L : List (Nat × Nat)), nh < i + fu → i ≤ nh → ri nh 0 = L ++ ri nh i → iv_ T M nb nh nn S L m →
    (∃ m', m_X2_rowsMore_4 fu (nI S) (nI m) (nI i) g = some (nI m', g) ∧ iv_ T M nb nh nn S (ri nh 0) m') ∨ (m_X2_rowsMore_4 fu (nI S) (nI m) (nI i) g = some (-2, g) ∧ ∃ p, p ∈ ri nh 0 ∧ su_ T M nb nh nn S 24 p = false) := by
  obtain ⟨⟨b1, b2, b3, b4, b5⟩, ⟨t1, t2, t3, t4, t5, t6⟩, -⟩ := id hs.1
  intro fu
  induction fu with
  | zero => intro i m L h1 h2; omega
  | succ fu ih =>
    intro i m L h1 h2 hl hv
    rw [m_X2_rowsMore_4, t2]
    by_cases q : i = nh
    · subst q
      refine Or.inl ⟨m, ?_, ?_⟩
      · rw [if_pos (by rw [nI_leI (by omega) (by omega)]; omega)]
      · rw [hl, ri_end (Nat.le_refl _), List.append_nil]
        exact hv
    · obtain ⟨F, eF, hF⟩ := fu_get
      rw [if_neg (by rw [nI_leI (by omega) (by omega)]; omega), nI_1, eF]
      rcases more_c20 hs e2 hnn (m_X2_rowsMore_4 fu) hS (show i < nh by omega) F (i + 1) m L (by omega) (by omega) (by omega) hv with ⟨m', k1, k2⟩ | ⟨k1, k2⟩
      · rw [k1]
        exact ih (i + 1) m' _ (by omega) (by omega) (by rw [hl, ri_next (n := nh) (i := i) (by omega), List.append_assoc]) k2
      · exact Or.inr ⟨k1, k2⟩
/-! the reference: is it sure -/
theorem sure_59 {nb nh hd nn : Nat} {T : Nat → Nat → Nat} {M : Nat → Nat → Bool} {g : Mm} (hs : sv nb nh hd T M g) (e4 : rdI g 40 38 = nI nn) (hnn : nn ≤ 12) (K : Int32 → Int32 → Int32 → Int32 → Mm → Option (Int32 × Mm)) (s : Int32) {r i j : Nat} (hr : r ≤ 24) (hi : i < nh) (hj : j < nh) : ∀ (fu k : Nat) (f : Bool), r < k + fu → k ≤ r →
    m_X10_isSure_59 K fu s (nI r) (nI i) (nI j) (bz f) (nI k) g = if (f || exN (pp_ T nb nh nn (i, j)) (r - k) k) = true then K s (nI r) (nI i) (nI (j + 1)) g else some (0, g) := by
  obtain ⟨⟨b1, b2, b3, b4, b5⟩, ⟨t1, t2, t3, t4, t5, t6⟩, -⟩ := id hs.1
  intro fu
  induction fu with
  | zero => intro k f h1 h2; omega
  | succ fu ih =>
    intro k f h1 h2
    rw [m_X10_isSure_59]
    by_cases q : k = r
    · subst q
      rw [if_pos (by rw [nI_leI (by omega) (by omega)]; omega), Nat.sub_self, exN, Bool.or_false, nI_1]
      cases f
      · rw [if_pos (show bz false = 0 from rfl), if_neg (by decide)]
      · rw [if_neg (show ¬ bz true = 0 by decide), if_pos rfl]
    · rw [if_neg (by rw [nI_leI (by omega) (by omega)]; omega), show r - k = (r - (k + 1)) + 1 by omega, exN, nI_1]
      cases f with
      | true =>
        rw [if_neg (show ¬ bz true = 0 by decide)]
        have e := ih (k + 1) true (by omega) (by omega)
        rw [Bool.true_or] at e ⊢
        exact e
      | false =>
        have m1 := Nat.mod_lt (i + nn + k) (show 0 < nh by omega)
        have m2 := Nat.mod_lt (j + nn + k) (show 0 < nh by omega)
        have hD := Dm_lt T b1 ((i + nn + k) % nh) ((j + nn + k) % nh)
        have hn0 : decide (¬ nI nh = (0 : Int32)) = true := decide_eq_true (fun w => by have := (nI_eq (b := 0) (by omega) (by omega)).mp w; omega)
        rw [if_pos (show bz false = 0 from rfl), t5, hn0, gdd_true, gdd_true, e4, nI_add, nI_add, nI_add, nI_add, rm_nI (by omega) (by omega) (by omega), rm_nI (by omega) (by omega) (by omega), hs.dm (by omega) (by omega), bdd_some, Bool.false_or]
        by_cases z : Dm T nb ((i + nn + k) % nh) ((j + nn + k) % nh) = 0
        · have e := ih (k + 1) false (by omega) (by omega)
          rw [Bool.false_or] at e
          rw [if_pos (show nI _ = (0 : Int32) by rw [z]; rfl), show pp_ T nb nh nn (i, j) k = false by rw [pp_, decide_eq_true z]; rfl, Bool.false_or]
          exact e
        · have e := ih (k + 1) true (by omega) (by omega)
          rw [Bool.true_or] at e
          rw [if_neg (fun w => by exact z ((nI_eq (b := 0) (by omega) (by omega)).mp w)), show pp_ T nb nh nn (i, j) k = true by rw [pp_, decide_eq_false z]; rfl, Bool.true_or]
          exact e
theorem sure_15 {nb nh hd nn : Nat} {T : Nat → Nat → Nat} {M : Nat → Nat → Bool} {g : Mm} (hs : sv nb nh hd T M g) (e4 : rdI g 40 38 = nI nn) (hnn : nn ≤ 12) (K : Int32 → Int32 → Int32 → Mm → Option (Int32 × Mm)) {S r i : Nat} (hS : S < 2 ^ 24) (hr : r ≤ 24) (hi : i < nh) : ∀ (fu j : Nat), nh < j + fu → j ≤ nh →
    m_X10_isSure_15 K fu (nI S) (nI r) (nI i) (nI j) g = if (rj nh i j).all (su_ T M nb nh nn S r) = true then K (nI S) (nI r) (nI (i + 1)) g else some (0, g) := by
  obtain ⟨⟨b1, b2, b3, b4, b5⟩, ⟨t1, t2, t3, t4, t5, t6⟩, -⟩ := id hs.1
  intro fu
  induction fu with
  | zero => intro j h1 h2; omega
  | succ fu ih =>
    intro j h1 h2
    rw [m_X10_isSure_15, t5]
    by_cases q : j = nh
    · subst q
      rw [if_pos (by rw [nI_leI (by omega) (by omega)]; omega), rj_end (Nat.le_refl _), nI_1]
      rfl
    · have e := ih (j + 1) (by omega) (by omega)
      rw [if_neg (by rw [nI_leI (by omega) (by omega)]; omega), bit_nI (by omega) (by omega), bit_nI (by omega) (by omega), rj_next (by omega), List.all_cons, su_, nI_1, rel_]
      cases S.testBit i with
      | false =>
        rw [if_neg (show ¬ bz false = 1 by decide)]
        exact e
      | true =>
        rw [if_pos (show bz true = 1 from rfl)]
        cases S.testBit j with
        | false =>
          rw [if_neg (show ¬ bz false = 1 by decide)]
          exact e
        | true =>
          rw [if_pos (show bz true = 1 from rfl), hs.mm (by omega) (by omega), bdd_some]
          cases M i j with
          | true =>
            rw [if_neg (show ¬ bz true = 0 by decide)]
            exact e
          | false =>
            obtain ⟨F, eF, hF⟩ := fu_get
            have e9 := sure_59 hs e4 hnn (m_X10_isSure_15 K fu) (nI S) hr hi (show j < nh by omega) F 0 false (by omega) (by omega)
            rw [if_pos (show bz false = 0 from rfl), eF]
            rw [show m_X10_isSure_59 (m_X10_isSure_15 K fu) F (nI S) (nI r) (nI i) (nI j) 0 0 g = _ from e9, e, Nat.sub_zero, Bool.false_or]
            show _ = if ((false || exN (pp_ T nb nh nn (i, j)) r 0) && _) = true then _ else _
            rw [Bool.false_or]
            cases exN (pp_ T nb nh nn (i, j)) r 0 <;> rfl
theorem sure_2 {nb nh hd nn : Nat} {T : Nat → Nat → Nat} {M : Nat → Nat → Bool} {g : Mm} (hs : sv nb nh hd T M g) (e4 : rdI g 40 38 = nI nn) (hnn : nn ≤ 12) {S r : Nat} (hS : S < 2 ^ 24) (hr : r ≤ 24) : ∀ (fu i : Nat), nh < i + fu → i ≤ nh →
    m_X10_isSure_2 fu (nI S) (nI r) (nI i) g = some (bz ((ri nh i).all (su_ T M nb nh nn S r)), g) := by
  obtain ⟨⟨b1, b2, b3, b4, b5⟩, ⟨t1, t2, t3, t4, t5, t6⟩, -⟩ := id hs.1
  intro fu
  induction fu with
  | zero => intro i h1 h2; omega
  | succ fu ih =>
    intro i h1 h2
    rw [m_X10_isSure_2, t5]
    by_cases q : i = nh
    · subst q
      rw [if_pos (by rw [nI_leI (by omega) (by omega)]; omega), ri_end (Nat.le_refl _)]
      rfl
    · obtain ⟨F, eF, hF⟩ := fu_get
      rw [if_neg (by rw [nI_leI (by omega) (by omega)]; omega), nI_1, ri_next (n := nh) (i := i) (by omega), List.all_append, eF, sure_15 hs e4 hnn _ hS hr (show i < nh by omega) F (i + 1) (by omega) (by omega), ih (i + 1) (by omega) (by omega)]
      cases (rj nh i (i + 1)).all (su_ T M nb nh nn S r) <;> rfl
/-- the least number of rows, or none -/
def rs_ (T : Nat → Nat → Nat) (M : Nat → Nat → Bool) (nb nh nn S : Nat) (r : Option Nat) : Prop := match r with
  | none => (ri nh 0).all (su_ T M nb nh nn S 24) = false
  | some m => iv_ T M nb nh nn S (ri nh 0) m
theorem su_mono {T : Nat → Nat → Nat} {M : Nat → Nat → Bool} {nb nh nn S m m2 : Nat} {L : List (Nat × Nat)} (h : L.all (su_ T M nb nh nn S m) = true) (hm : m ≤ m2) : L.all (su_ T M nb nh nn S m2) = true := by
  rw [List.all_eq_true] at h ⊢
  intro q hq
  have := h q hq
  rw [su_, Bool.or_eq_true] at this ⊢
  rcases this with w | w
  · exact Or.inl w
  · exact Or.inr (exN_mono w hm)
theorem rs_uniq {T : Nat → Nat → Nat} {M : Nat → Nat → Bool} {nb nh nn S : Nat} {r r' : Option Nat} (h : rs_ T M nb nh nn S r) (h' : rs_ T M nb nh nn S r') : r = r' := by
  cases r with
  | none =>
    cases r' with
    | none => rfl
    | some m =>
      have h1 : (ri nh 0).all (su_ T M nb nh nn S 24) = false := h
      rw [su_mono h'.2.1 h'.1] at h1
      cases h1
  | some m =>
    cases r' with
    | none =>
      have h1 : (ri nh 0).all (su_ T M nb nh nn S 24) = false := h'
      rw [su_mono h.2.1 h.1] at h1
      cases h1
    | some m' =>
      rcases Nat.lt_trichotomy m m' with w | w | w
      · have := h'.2.2 m w
        rw [h.2.1] at this
        cases this
      · rw [w]
      · have := h.2.2 m' w
        rw [h'.2.1] at this
        cases this
theorem beg_56 {nb nh hd nn : Nat} {T : Nat → Nat → Nat} {M : Nat → Nat → Bool} {g : Mm} (hs : sv nb nh hd T M g) (e4 : rdI g 40 38 = nI nn) (hnn : nn ≤ 12) {S : Nat} (hS : S < 2 ^ 24) : ∀ (fu r : Nat), 25 < r + fu → r ≤ 25 → (∀ r', r' < r → (ri nh 0).all (su_ T M nb nh nn S r') = false) →
    ∃ o, rs_ T M nb nh nn S o ∧ m_X10_begins_56 fu (nI S) (nI r) g = some (gp_o o, g) := by
  have b3 := hs.1.1.2.2.1
  intro fu
  induction fu with
  | zero => intro r h1 h2; omega
  | succ fu ih =>
    intro r h1 h2 hno
    rw [m_X10_begins_56]
    by_cases q : r = 25
    · subst q
      exact ⟨none, hno 24 (by omega), by rw [if_pos (by decide)]; rfl⟩
    · obtain ⟨F, eF, hF⟩ := fu_get
      have e := sure_2 (T := T) (M := M) hs e4 hnn hS (show r ≤ 24 by omega) F 0 (by omega) (by omega)
      rw [if_neg (show ¬ (24 : Int32) < nI r from fun w => by have := (nI_ltI (a := 24) (by omega) (by omega)).mp w; omega), m_X10_isSure, eF]
      rw [show m_X10_isSure_2 F (nI S) (nI r) 0 g = some (bz ((ri nh 0).all (su_ T M nb nh nn S r)), g) from e, bdd_some, nI_1]
      cases z : (ri nh 0).all (su_ T M nb nh nn S r) with
      | true => exact ⟨some r, ⟨by omega, z, hno⟩, by rw [if_neg (show ¬ bz true = 0 by decide)]; rfl⟩
      | false =>
        rw [if_pos (show bz false = 0 from rfl)]
        refine ih (r + 1) (by omega) (by omega) (fun r' hr => ?_)
        by_cases w : r' = r
        · rw [w]; exact z
        · exact hno r' (by omega)
theorem op_begins (a0 : Int32) {g : Mm} (hg : gv_ g) : al_ (m_X9_begins a0) (m_X10_begins a0) g := by
  have hg0 := hg
  obtain ⟨nb, nh, hd, cd, ck, tl, rt, nn, na, ra, f, hT, hX, hC, hP, hL, hE, hA, hS⟩ := hg
  obtain ⟨⟨b1, b2, b3, b4, b5⟩, ⟨t1, t2, t3, t4, t5, t6⟩, -⟩ := id hT
  obtain ⟨⟨hrt, hnn⟩, ⟨e1, e2, e3, e4⟩, e5, e6⟩ := id hE
  rcases i_cases a0 with h | ⟨v, hv, rfl⟩
  · refine al_.same (r := -1) hg0 ?_ ?_
    · rw [m_X9_begins, if_pos (neg_lt0 h)]
    · rw [m_X10_begins, in_neg h (by decide), bdd_some, if_pos (show bz false = 0 from rfl)]
  · by_cases hv3 : v ≤ 1
    · have c1 : ¬ nI v < (0 : Int32) := fun w => by have := (nI_ltI (b := 0) hv (by omega)).mp w; omega
      have c2 : nI v ≤ (1 : Int32) := (nI_leI (b := 1) hv (by omega)).mpr hv3
      obtain ⟨F, eF, hF⟩ := fu_get
      have hm := begun_m hT hE (nI v) F 0 (by omega) (by omega)
      have hS : bm (mh_ g nb nh nn) nh < 2 ^ 24 := Nat.lt_of_lt_of_le (bm_lt _ _) (Nat.pow_le_pow_right (by decide) b3)
      have xm : m_X10_begins (nI v) g = if nI v = 0 then some (nI (bm (mh_ g nb nh nn) nh), g) else m_X10_begins_56 fuL (nI (bm (mh_ g nb nh nn) nh)) (0 : Int32) g := by
        rw [m_X10_begins, in_nI 0 1 0 1 hv rfl rfl, decide_eq_true (by omega), bdd_some, if_neg (show ¬ bz true = 0 by decide)]
        exact (congrArg (fun f => m_X10_begins_16 f (nI v) 0 0 g) eF).trans hm
      have xc : m_X9_begins (nI v) g = if nI v = 0 then some (nI (bm (mh_ g nb nh nn) nh), g) else bdd (m_X2_rowsMore (nI (bm (mh_ g nb nh nn) nh)) g) (fun ra7 ga8 => some (ra7, ga8)) := by
        rw [m_X9_begins, if_neg c1, if_pos c2, begun_c hT hE, bdd_some]
      by_cases v0 : nI v = 0
      · rw [if_pos v0] at xm xc
        exact al_.same hg0 xc xm
      · rw [if_neg v0] at xm xc
        have hs := sv.self hT hX
        obtain ⟨o, o1, o2⟩ := beg_56 (T := tv g) (M := mx_ g) hs e4 hnn hS F 0 (by omega) (by omega) (fun _ h => absurd h (Nat.not_lt_zero _))
        have hc : ∃ o', rs_ (tv g) (mx_ g) nb nh nn (bm (mh_ g nb nh nn) nh) o' ∧ m_X2_rowsMore (nI (bm (mh_ g nb nh nn) nh)) g = some (gp_o o', g) := by
          rw [m_X2_rowsMore, eF]
          rcases more_c4 (T := tv g) (M := mx_ g) hs e2 hnn hS F 0 0 [] (by omega) (by omega) rfl ⟨by omega, rfl, fun _ h => absurd h (Nat.not_lt_zero _)⟩ with ⟨m', k1, k2⟩ | ⟨k1, p, k2, k3⟩
          · exact ⟨some m', k2, k1⟩
          · refine ⟨none, ?_, k1⟩
            show (ri nh 0).all _ = false
            rw [List.all_eq_false]
            exact ⟨p, k2, by rw [k3]; decide⟩
        obtain ⟨o', o3, o4⟩ := hc
        have e := rs_uniq o1 o3
        subst e
        refine al_.same (r := gp_o o) hg0 ?_ ?_
        · rw [xc, o4, bdd_some]
        · rw [xm, eF]
          exact o2
    · refine al_.same (r := -1) hg0 ?_ ?_
      · rw [m_X9_begins, if_neg (fun w => by have := (nI_ltI (b := 0) hv (by omega)).mp w; omega), if_neg (fun w => by exact hv3 ((nI_leI (b := 1) hv (by omega)).mp w))]
      · rw [m_X10_begins, in_nI 0 1 0 1 hv rfl rfl, decide_eq_false (by omega), bdd_some, if_pos (show bz false = 0 from rfl)]
