/-! bears: with a stroke lost -/
/-- some of n numbers from x on -/
def exN (p : Nat → Bool) : Nat → Nat → Bool
  | 0, _ => false
  | n + 1, x => p x || exN p n (x + 1)
theorem exN_iff {p : Nat → Bool} : ∀ (n x : Nat), exN p n x = true ↔ ∃ y, x ≤ y ∧ y < x + n ∧ p y = true := by
  intro n
  induction n with
  | zero =>
    intro x
    constructor
    · intro h; cases h
    · rintro ⟨y, h1, h2, -⟩; omega
  | succ n ih =>
    intro x
    rw [exN, Bool.or_eq_true, ih]
    constructor
    · rintro (h | ⟨y, h1, h2, h3⟩)
      · exact ⟨x, Nat.le_refl _, by omega, h⟩
      · exact ⟨y, by omega, by omega, h3⟩
    · rintro ⟨y, h1, h2, h3⟩
      by_cases q : y = x
      · rw [q] at h3; exact Or.inl h3
      · exact Or.inr ⟨y, by omega, by omega, h3⟩
theorem alN_le {p : Nat → Bool} {n m : Nat} (h : alN p n = false) (hm : n ≤ m) : alN p m = false := by
  cases q : alN p m with
  | false => rfl
  | true =>
    rw [alN_iff] at q
    rw [alN_iff.mpr (fun i hi => q i (by omega))] at h
    cases h
def lo_ (T : Nat → Nat → Nat) (i b : Nat) (p : Int32) : Nat := if nI b = p then T i b - 1 else T i b
theorem lessOne_m {nb nh hd : Nat} {T : Nat → Nat → Nat} {M : Nat → Nat → Bool} {g : Mm} (hs : sv nb nh hd T M g) {i b : Nat} (hi : i < 24) (hb : b < 6) (p : Int32) : m_X10_lessOne (nI i) (nI b) p g = some (nI (lo_ T i b p), g) := by
  obtain ⟨-, e1, e3⟩ := hs.t hi hb
  have i1 : (6 : Int32) * nI i + nI b = nI (6 * i + b) := by rw [show (6 : Int32) = nI 6 from rfl, pk_mul, nI_add]
  rw [m_X10_lessOne, i1, ix_nI (by omega) (by omega), gdd_true, nI_clamp (by omega), e1, lo_]
  show (if nI b = p then (if nI (T i b) ≤ (0 : Int32) then some (nI (T i b), g) else some (nI (T i b) - (1 : Int32), g)) else some (nI (T i b), g)) = _
  by_cases q : nI b = p
  · rw [if_pos q, if_pos q]
    by_cases z : T i b = 0
    · rw [if_pos (by exact (nI_leI (b := 0) (by omega) (by omega)).mpr (by omega)), z]
    · rw [if_neg (fun w => by exact z (by have := (nI_leI (b := 0) (by omega) (by omega)).mp w; omega)), show nI (T i b) - (1 : Int32) = nI (T i b - 1) from pk_sub (b := 1) (by omega)]
  · rw [if_neg q, if_neg q]
def ii_ : Nat → Int32
  | 0 => -1
  | q + 1 => nI q
theorem ii_s (q : Nat) : ii_ q + (1 : Int32) = ii_ (q + 1) := by
  cases q with
  | zero => decide
  | succ q => exact nI_1 q
theorem ii_e {nb q : Nat} (hb : nb ≤ 6) (hq : q ≤ nb + 1) : (nI nb ≤ ii_ q) ↔ q = nb + 1 := by
  cases q with
  | zero =>
    constructor
    · intro h
      rw [fa_le, nI_toInt (by omega), show (ii_ 0).toInt = -1 from rfl] at h
      omega
    · intro h; omega
  | succ q =>
    rw [show ii_ (q + 1) = nI q from rfl, nI_leI (by omega) (by omega)]
    omega
theorem ii_0 {q : Nat} (hq : q < 100) : (ii_ q < (0 : Int32)) ↔ q = 0 := by
  cases q with
  | zero => exact ⟨fun _ => rfl, fun _ => by decide⟩
  | succ q =>
    rw [show ii_ (q + 1) = nI q from rfl, show (0 : Int32) = nI 0 from rfl, nI_ltI (by omega) (by omega)]
    omega
def mz_ (X q : Nat) : Bool := decide (q = 0) || X.testBit (q - 1)
def ap_ (T : Nat → Nat → Nat) (i j X p q b : Nat) : Bool := !X.testBit b || decide (lo_ T i b (ii_ p) = lo_ T j b (ii_ q))
theorem cb64 {nb nh hd : Nat} {T : Nat → Nat → Nat} {M : Nat → Nat → Bool} {g : Mm} (hs : sv nb nh hd T M g) (K : Int32 → Int32 → Int32 → Int32 → Int32 → Mm → Option (Int32 × Mm)) {i j X : Nat} (hi : i < 24) (hj : j < 24) (hX : X < 64) (p q : Nat) (m : Bool) : ∀ (fu b : Nat), nb < b + fu → b ≤ nb →
    m_X10_couldBeAlike_64 K fu (nI i) (nI j) (nI X) (ii_ p) (ii_ q) (bz (m && alN (ap_ T i j X p q) b)) (nI b) g = if (m && alN (ap_ T i j X p q) nb) = true then some (1, g) else K (nI i) (nI j) (nI X) (ii_ p) (ii_ (q + 1)) g := by
  obtain ⟨⟨b1, b2, b3, b4, b5⟩, ⟨t1, t2, t3, t4, t5, t6⟩, -⟩ := id hs.1
  have fin : ∀ f : Bool, m_X10_couldBeAlike_121 K (nI i) (nI j) (nI X) (ii_ p) (ii_ q) (bz f) g = if f = true then some (1, g) else K (nI i) (nI j) (nI X) (ii_ p) (ii_ (q + 1)) g := by
    intro f
    rw [m_X10_couldBeAlike_121, ii_s]
    cases f
    · rw [if_pos (show bz false = 0 from rfl), if_neg (show ¬ (false = true) by decide)]
    · rw [if_neg (show ¬ bz true = 0 by decide), if_pos rfl]
  intro fu
  induction fu with
  | zero => intro b h1 h2; omega
  | succ fu ih =>
    intro b h1 h2
    rw [m_X10_couldBeAlike_64, t4]
    by_cases z : b = nb
    · subst z
      rw [if_pos (by rw [nI_leI (by omega) (by omega)]; omega)]
      exact fin _
    · rw [if_neg (by rw [nI_leI (by omega) (by omega)]; omega)]
      cases hf : (m && alN (ap_ T i j X p q) b) with
      | false =>
        rw [if_pos (show bz false = 0 from rfl), fin]
        have : (m && alN (ap_ T i j X p q) nb) = false := by
          rw [Bool.and_eq_false_iff] at hf ⊢
          rcases hf with hf | hf
          · exact Or.inl hf
          · exact Or.inr (alN_le hf h2)
        rw [this]
      | true =>
        rw [if_neg (show ¬ bz true = 0 by decide), bit_nI (by omega) (by omega), nI_1]
        have e := ih (b + 1) (by omega) (by omega)
        rw [alN, ← Bool.and_assoc, hf, Bool.true_and] at e
        cases hb : X.testBit b with
        | false =>
          rw [if_pos (show bz false = 0 from rfl)]
          rw [show ap_ T i j X p q b = true by rw [ap_, hb]; rfl] at e
          exact e
        | true =>
          rw [if_neg (show ¬ bz true = 0 by decide), lessOne_m hs hi (by omega), bdd_some, lessOne_m hs hj (by omega), bdd_some]
          have l1 : lo_ T i b (ii_ p) < 100 := by have := (hs.t hi (show b < 6 by omega)).2.2; rw [lo_]; split <;> omega
          have l2 : lo_ T j b (ii_ q) < 100 := by have := (hs.t hj (show b < 6 by omega)).2.2; rw [lo_]; split <;> omega
          by_cases y : lo_ T i b (ii_ p) = lo_ T j b (ii_ q)
          · rw [if_pos (by rw [y])]
            rw [show ap_ T i j X p q b = true by rw [ap_, hb, decide_eq_true y]; rfl] at e
            exact e
          · rw [if_neg (fun w => by exact y ((nI_eq (by omega) (by omega)).mp w))]
            rw [show ap_ T i j X p q b = false by rw [ap_, hb, decide_eq_false y]; rfl] at e
            exact e
def aq_ (T : Nat → Nat → Nat) (nb i j X p q : Nat) : Bool := (mz_ X p && mz_ X q) && alN (ap_ T i j X p q) nb
theorem cb15 {nb nh hd : Nat} {T : Nat → Nat → Nat} {M : Nat → Nat → Bool} {g : Mm} (hs : sv nb nh hd T M g) (K : Int32 → Int32 → Int32 → Int32 → Mm → Option (Int32 × Mm)) {i j X p : Nat} (hi : i < 24) (hj : j < 24) (hX : X < 64) (hp : p ≤ nb) : ∀ (fu q : Nat), nb + 1 < q + fu → q ≤ nb + 1 →
    m_X10_couldBeAlike_15 K fu (nI i) (nI j) (nI X) (ii_ p) (ii_ q) g = if exN (aq_ T nb i j X p) (nb + 1 - q) q = true then some (1, g) else K (nI i) (nI j) (nI X) (ii_ (p + 1)) g := by
  obtain ⟨⟨b1, b2, b3, b4, b5⟩, ⟨t1, t2, t3, t4, t5, t6⟩, -⟩ := id hs.1
  intro fu
  induction fu with
  | zero => intro q h1 h2; omega
  | succ fu ih =>
    intro q h1 h2
    rw [m_X10_couldBeAlike_15, t4]
    by_cases z : q = nb + 1
    · rw [if_pos (by exact (ii_e b1 h2).mpr z), ii_s, show nb + 1 - q = 0 by omega]
      rfl
    · obtain ⟨F, eF, hF⟩ := fu_get
      have e := ih (q + 1) (by omega) (by omega)
      have step : ∀ m : Bool, m_X10_couldBeAlike_64 (m_X10_couldBeAlike_15 K fu) F (nI i) (nI j) (nI X) (ii_ p) (ii_ q) (bz m) 0 g = if (m && alN (ap_ T i j X p q) nb) = true then some (1, g) else m_X10_couldBeAlike_15 K fu (nI i) (nI j) (nI X) (ii_ p) (ii_ (q + 1)) g := by
        intro m
        have := cb64 hs (m_X10_couldBeAlike_15 K fu) hi hj hX p q m F 0 (by omega) (by omega)
        rw [alN, Bool.and_true] at this
        exact this
      have hq : (if ii_ q < (0 : Int32) then m_X10_couldBeAlike_64 (m_X10_couldBeAlike_15 K fu) F (nI i) (nI j) (nI X) (ii_ p) (ii_ q) 1 0 g else if ((shrI (nI X) (ii_ q)) &&& (1 : Int32)) = (1 : Int32) then m_X10_couldBeAlike_64 (m_X10_couldBeAlike_15 K fu) F (nI i) (nI j) (nI X) (ii_ p) (ii_ q) 1 0 g else m_X10_couldBeAlike_64 (m_X10_couldBeAlike_15 K fu) F (nI i) (nI j) (nI X) (ii_ p) (ii_ q) 0 0 g) = m_X10_couldBeAlike_64 (m_X10_couldBeAlike_15 K fu) F (nI i) (nI j) (nI X) (ii_ p) (ii_ q) (bz (mz_ X q)) 0 g := by
        cases q with
        | zero => rw [if_pos (by decide)]; rfl
        | succ q =>
          rw [if_neg (fun w => by have := (ii_0 (q := q + 1) (by omega)).mp w; omega), show ii_ (q + 1) = nI q from rfl, bit_nI (by omega) (by omega)]
          rw [show mz_ X (q + 1) = X.testBit q by rw [mz_, decide_eq_false (by omega), Bool.false_or, Nat.add_sub_cancel]]
          cases X.testBit q
          · rw [if_neg (show ¬ bz false = 1 by decide)]; rfl
          · rw [if_pos (show bz true = 1 from rfl)]; rfl
      have hpq : m_X10_couldBeAlike_15 K (fu + 1) (nI i) (nI j) (nI X) (ii_ p) (ii_ q) g = m_X10_couldBeAlike_64 (m_X10_couldBeAlike_15 K fu) F (nI i) (nI j) (nI X) (ii_ p) (ii_ q) (bz (mz_ X p && mz_ X q)) 0 g := by
        rw [m_X10_couldBeAlike_15, t4, if_neg (fun w => by exact z ((ii_e b1 h2).mp w)), m_X10_couldBeAlike_39, eF]
        cases p with
        | zero =>
          rw [if_pos (by decide), hq, show mz_ X 0 = true from rfl, Bool.true_and]
        | succ p =>
          rw [if_neg (fun w => by have := (ii_0 (q := p + 1) (by omega)).mp w; omega), show ii_ (p + 1) = nI p from rfl, bit_nI (by omega) (by omega)]
          rw [show mz_ X (p + 1) = X.testBit p by rw [mz_, decide_eq_false (by omega), Bool.false_or, Nat.add_sub_cancel]]
          cases X.testBit p
          · rw [if_neg (show ¬ bz false = 1 by decide)]; rfl
          · rw [if_pos (show bz true = 1 from rfl), Bool.true_and]
            exact hq
      rw [m_X10_couldBeAlike_15, t4] at hpq
      rw [hpq, step, show nb + 1 - q = (nb + 1 - (q + 1)) + 1 by omega, exN, aq_]
      cases (mz_ X p && mz_ X q && alN (ap_ T i j X p q) nb)
      · rw [if_neg (by decide), e, Bool.false_or]
      · rw [if_pos rfl, Bool.true_or, if_pos rfl]
def CA (T : Nat → Nat → Nat) (nb i j X : Nat) : Bool := exN (fun p => exN (aq_ T nb i j X p) (nb + 1) 0) (nb + 1) 0
theorem cb3 {nb nh hd : Nat} {T : Nat → Nat → Nat} {M : Nat → Nat → Bool} {g : Mm} (hs : sv nb nh hd T M g) {i j X : Nat} (hi : i < 24) (hj : j < 24) (hX : X < 64) : ∀ (fu p : Nat), nb + 1 < p + fu → p ≤ nb + 1 →
    m_X10_couldBeAlike_3 fu (nI i) (nI j) (nI X) (ii_ p) g = some (bz (exN (fun p => exN (aq_ T nb i j X p) (nb + 1) 0) (nb + 1 - p) p), g) := by
  obtain ⟨⟨b1, b2, b3, b4, b5⟩, ⟨t1, t2, t3, t4, t5, t6⟩, -⟩ := id hs.1
  intro fu
  induction fu with
  | zero => intro q h1 h2; omega
  | succ fu ih =>
    intro p h1 h2
    rw [m_X10_couldBeAlike_3, t4]
    by_cases z : p = nb + 1
    · rw [if_pos (by exact (ii_e b1 h2).mpr z), show nb + 1 - p = 0 by omega]
      rfl
    · obtain ⟨F, eF, hF⟩ := fu_get
      have e := ih (p + 1) (by omega) (by omega)
      rw [if_neg (fun w => by exact z ((ii_e b1 h2).mp w)), eF, show (-1 : Int32) = ii_ 0 from rfl, cb15 hs _ hi hj hX (show p ≤ nb by omega) F 0 (by omega) (by omega), show nb + 1 - p = (nb + 1 - (p + 1)) + 1 by omega, exN, Nat.sub_zero]
      cases exN (aq_ T nb i j X p) (nb + 1) 0
      · rw [if_neg (by decide), e, Bool.false_or]
      · rw [if_pos rfl, Bool.true_or]
        rfl
theorem cba_m {nb nh hd : Nat} {T : Nat → Nat → Nat} {M : Nat → Nat → Bool} {g : Mm} (hs : sv nb nh hd T M g) {i j X : Nat} (hi : i < 24) (hj : j < 24) (hX : X < 64) : m_X10_couldBeAlike (nI i) (nI j) (nI X) g = some (bz (CA T nb i j X), g) := by
  obtain ⟨F, eF, hF⟩ := fu_get
  have b1 := hs.1.1.1
  rw [m_X10_couldBeAlike, eF]
  exact cb3 hs hi hj hX F 0 (by omega) (by omega)
/-! the class's condition -/
def om_ (T : Nat → Nat → Nat) (nb i j : Nat) : Nat := bm (fun b => decide (T i b = T j b + 1)) nb
theorem om_lt (T : Nat → Nat → Nat) {nb : Nat} (h : nb ≤ 6) (i j : Nat) : om_ T nb i j < 64 := Nat.lt_of_lt_of_le (bm_lt _ _) (pow6 h)
def fu_ (T : Nat → Nat → Nat) (nb i j : Nat) : Nat := (Dm T nb i j &&& (om_ T nb i j ^^^ (2 ^ 32 - 1))) &&& (om_ T nb j i ^^^ (2 ^ 32 - 1))
def KA (T : Nat → Nat → Nat) (nb i j X : Nat) : Bool := decide (fu_ T nb i j &&& X = 0) && (decide (pc24 (om_ T nb i j &&& X) ≤ 1) && decide (pc24 (om_ T nb j i &&& X) ≤ 1))
theorem pc_one : ∀ E, E < 64 → (pc24 E ≤ 1 ↔ ∀ a, a < 6 → ∀ b, b < 6 → E.testBit a = true → E.testBit b = true → a = b) := by decide +kernel
theorem bit_hi {X n b : Nat} (h : X < 2 ^ n) (hb : n ≤ b) : X.testBit b = false := Nat.testBit_lt_two_pow (Nat.lt_of_lt_of_le h (Nat.pow_le_pow_right (by decide) hb))
theorem om_one {T : Nat → Nat → Nat} {nb i j X : Nat} (hb : nb ≤ 6) : pc24 (om_ T nb i j &&& X) ≤ 1 ↔ ∀ a b, a < nb → b < nb → X.testBit a = true → X.testBit b = true → T i a = T j a + 1 → T i b = T j b + 1 → a = b := by
  rw [pc_one _ (Nat.lt_of_le_of_lt Nat.and_le_left (om_lt T hb i j))]
  simp only [Nat.testBit_and, om_, bm_bit, Bool.and_eq_true, decide_eq_true_eq]
  constructor
  · intro h a b h1 h2 h3 h4 h5 h6
    exact h a (by omega) b (by omega) ⟨⟨h1, h5⟩, h3⟩ ⟨⟨h2, h6⟩, h4⟩
  · rintro h a ha b hb2 ⟨⟨h1, h5⟩, h3⟩ ⟨⟨h2, h6⟩, h4⟩
    exact h a b h1 h2 h3 h4 h5 h6
theorem fu_bits {T : Nat → Nat → Nat} {nb i j X : Nat} (hb : nb ≤ 6) : fu_ T nb i j &&& X = 0 ↔ ∀ b, b < nb → X.testBit b = true → T i b = T j b ∨ T i b = T j b + 1 ∨ T j b = T i b + 1 := by
  have hbit : ∀ b, (fu_ T nb i j &&& X).testBit b = ((decide (b < nb) && decide (¬ T i b = T j b)) && !(decide (b < nb) && decide (T i b = T j b + 1)) && !(decide (b < nb) && decide (T j b = T i b + 1)) && X.testBit b) := by
    intro b
    rw [fu_, Nat.testBit_and, Nat.testBit_and, Nat.testBit_and, Nat.testBit_xor, Nat.testBit_xor, Dm, om_, om_, bm_bit, bm_bit, bm_bit, Nat.testBit_two_pow_sub_one]
    by_cases q : b < nb
    · rw [decide_eq_true q, decide_eq_true (show b < 32 by omega)]
      simp
    · rw [decide_eq_false q]
      simp
  constructor
  · intro h b h1 h2
    have e := hbit b
    rw [h, Nat.zero_testBit, h2, decide_eq_true h1] at e
    simp only [Bool.true_and, Bool.and_true] at e
    by_cases q1 : T i b = T j b
    · exact Or.inl q1
    · by_cases q2 : T i b = T j b + 1
      · exact Or.inr (Or.inl q2)
      · by_cases q3 : T j b = T i b + 1
        · exact Or.inr (Or.inr q3)
        · rw [decide_eq_true q1, decide_eq_false q2, decide_eq_false q3] at e
          cases e
  · intro h
    refine Nat.eq_of_testBit_eq (fun b => ?_)
    rw [hbit, Nat.zero_testBit]
    by_cases q : b < nb
    · cases hx : X.testBit b with
      | false => rw [Bool.and_false]
      | true =>
        rcases h b q hx with h1 | h1 | h1
        · rw [decide_eq_false (p := ¬ T i b = T j b) (fun w => w h1)]; simp
        · rw [decide_eq_true h1, decide_eq_true q]; simp
        · rw [decide_eq_true h1, decide_eq_true q]; simp
    · rw [decide_eq_false q]
      simp
theorem CA_iff {T : Nat → Nat → Nat} {nb i j X : Nat} : CA T nb i j X = true ↔ ∃ p q, p ≤ nb ∧ q ≤ nb ∧ mz_ X p = true ∧ mz_ X q = true ∧ ∀ b, b < nb → X.testBit b = true → lo_ T i b (ii_ p) = lo_ T j b (ii_ q) := by
  rw [CA, exN_iff]
  constructor
  · rintro ⟨p, -, hp, h⟩
    obtain ⟨q, -, hq, h2⟩ := (exN_iff _ _).mp h
    rw [aq_, Bool.and_eq_true, Bool.and_eq_true, alN_iff] at h2
    refine ⟨p, q, by omega, by omega, h2.1.1, h2.1.2, fun b hb hx => ?_⟩
    have := h2.2 b hb
    rw [ap_, hx] at this
    simpa using this
  · rintro ⟨p, q, hp, hq, h1, h2, h3⟩
    refine ⟨p, by omega, by omega, (exN_iff _ _).mpr ⟨q, by omega, by omega, ?_⟩⟩
    rw [aq_, h1, h2, Bool.and_self, Bool.true_and, alN_iff]
    intro b hb
    rw [ap_]
    cases hx : X.testBit b with
    | false => rfl
    | true => rw [decide_eq_true (h3 b hb hx)]; rfl
theorem lo_ne {T : Nat → Nat → Nat} {i b p : Nat} (hb : b < 6) (hp : p ≤ 6) (h : p ≠ b + 1) : lo_ T i b (ii_ p) = T i b := by
  rw [lo_, if_neg]
  intro e
  cases p with
  | zero =>
    have e := congrArg Int32.toInt e
    rw [nI_toInt (by omega), show (ii_ 0).toInt = -1 from rfl] at e
    omega
  | succ p =>
    have e2 : nI b = nI p := e
    rw [nI_eq (by omega) (by omega)] at e2
    omega
theorem lo_eq (T : Nat → Nat → Nat) (i b : Nat) : lo_ T i b (ii_ (b + 1)) = T i b - 1 := by
  rw [lo_, if_pos (show nI b = ii_ (b + 1) from rfl)]
theorem CA_KA {T : Nat → Nat → Nat} {nb i j X : Nat} (hb : nb ≤ 6) : CA T nb i j X = KA T nb i j X := by
  rw [Bool.eq_iff_iff, CA_iff, KA, Bool.and_eq_true, Bool.and_eq_true, decide_eq_true_eq, decide_eq_true_eq, decide_eq_true_eq, fu_bits hb, om_one hb, om_one hb]
  have mzs : ∀ b, mz_ X (b + 1) = X.testBit b := fun b => by rw [mz_, decide_eq_false (by omega), Bool.false_or, Nat.add_sub_cancel]
  constructor
  · rintro ⟨p, q, hp, hq, -, -, h3⟩
    have h4 : ∀ b, b < nb → X.testBit b = true → (T i b = T j b ∨ T i b = T j b + 1 ∨ T j b = T i b + 1) ∧ (T i b = T j b + 1 → p = b + 1) ∧ (T j b = T i b + 1 → q = b + 1) := by
      intro b hb2 hx
      have e := h3 b hb2 hx
      by_cases z1 : p = b + 1
      · by_cases z2 : q = b + 1
        · rw [z1, z2, lo_eq, lo_eq] at e
          refine ⟨by omega, fun _ => z1, fun _ => z2⟩
        · rw [z1, lo_eq, lo_ne (by omega) (by omega) z2] at e
          exact ⟨by omega, fun _ => z1, fun w => by omega⟩
      · by_cases z2 : q = b + 1
        · rw [z2, lo_eq, lo_ne (by omega) (by omega) z1] at e
          exact ⟨by omega, fun w => by omega, fun _ => z2⟩
        · rw [lo_ne (by omega) (by omega) z1, lo_ne (by omega) (by omega) z2] at e
          exact ⟨Or.inl e, fun w => by omega, fun w => by omega⟩
    refine ⟨fun b h1 h2 => (h4 b h1 h2).1, fun a b h1 h2 h5 h6 h7 h8 => ?_, fun a b h1 h2 h5 h6 h7 h8 => ?_⟩
    · have y1 := (h4 a h1 h5).2.1 h7
      have y2 := (h4 b h2 h6).2.1 h8
      omega
    · have y1 := (h4 a h1 h5).2.2 h7
      have y2 := (h4 b h2 h6).2.2 h8
      omega
  · rintro ⟨h1, h2, h3⟩
    -- one that made it good, if there is one
    have pick : ∀ (R : Nat → Prop), (∃ p, p ≤ nb ∧ mz_ X p = true ∧ (∀ b, b < nb → X.testBit b = true → R b → (∀ a, a < nb → X.testBit a = true → R a → a = b) → p = b + 1) ∧ ∀ b, p = b + 1 → b < nb ∧ X.testBit b = true ∧ R b) := by
      intro R
      by_cases q : ∃ b, b < nb ∧ X.testBit b = true ∧ R b
      · obtain ⟨b, q1, q2, q3⟩ := q
        exact ⟨b + 1, by omega, by rw [mzs]; exact q2, fun c c1 c2 c3 c4 => by rw [c4 b q1 q2 q3], fun c e => by cases e; exact ⟨q1, q2, q3⟩⟩
      · exact ⟨0, Nat.zero_le _, rfl, fun b c1 c2 c3 _ => absurd ⟨b, c1, c2, c3⟩ q, fun b e => by cases e⟩
    obtain ⟨p, p1, p2, p3, p4⟩ := pick (fun b => T i b = T j b + 1)
    obtain ⟨q, q1, q2, q3, q4⟩ := pick (fun b => T j b = T i b + 1)
    refine ⟨p, q, p1, q1, p2, q2, fun b hb2 hx => ?_⟩
    rcases h1 b hb2 hx with e | e | e
    · rw [lo_ne (by omega) (by omega) (fun w => by have := (p4 b w).2.2; omega), lo_ne (by omega) (by omega) (fun w => by have := (q4 b w).2.2; omega), e]
    · rw [p3 b hb2 hx e (fun a a1 a2 a3 => h2 a b a1 hb2 a2 hx a3 e), lo_eq, lo_ne (by omega) (by omega) (fun w => by have := (q4 b w).2.2; omega), e]
      rfl
    · rw [q3 b hb2 hx e (fun a a1 a2 a3 => h3 a b a1 hb2 a2 hx a3 e), lo_eq, lo_ne (by omega) (by omega) (fun w => by have := (p4 b w).2.2; omega), e]
      rfl
theorem oneMore_c {nb nh hd : Nat} {T : Nat → Nat → Nat} {M : Nat → Nat → Bool} {g : Mm} (hs : sv nb nh hd T M g) {a b : Nat} (ha : a < 24) (hb : b < 24) : m_X7_bellsOneMore (nI a) (nI b) g = some (nI (om_ T nb a b), g) := by
  obtain ⟨⟨b1, b2, b3, b4, b5⟩, ⟨t1, t2, t3, t4, t5, t6⟩, -⟩ := id hs.1
  have key : ∀ (fu i : Nat), nb < i + fu → i ≤ nb → m_X7_bellsOneMore_5 fu (nI a) (nI b) (nI (om_ T i a b)) (nI i) g = some (nI (om_ T nb a b), g) := by
    intro fu
    induction fu with
    | zero => intro i h1 h2; omega
    | succ fu ih =>
      intro i h1 h2
      rw [m_X7_bellsOneMore_5, t1]
      by_cases q : i = nb
      · subst q
        rw [if_pos (by rw [nI_leI (by omega) (by omega)]; omega)]
      · have e := ih (i + 1) (by omega) (by omega)
        obtain ⟨e1, -, e3⟩ := hs.t ha (show i < 6 by omega)
        obtain ⟨f1, -, f3⟩ := hs.t hb (show i < 6 by omega)
        rw [if_neg (by rw [nI_leI (by omega) (by omega)]; omega), m8_struck ha (by omega), bdd_some, m8_struck hb (by omega), bdd_some, e1, f1, nI_1, nI_1]
        by_cases z : T a i = T b i + 1
        · rw [if_pos (by rw [z])]
          rw [show om_ T i a b = bm (fun k => decide (T a k = T b k + 1)) i from rfl, bm_t (p := fun k => decide (T a k = T b k + 1)) (by omega) (decide_eq_true z)]
          exact e
        · rw [if_neg (fun y => by exact z ((nI_eq (by omega) (by omega)).mp y))]
          rw [show om_ T i a b = bm (fun k => decide (T a k = T b k + 1)) i from rfl, bm_f' (p := fun k => decide (T a k = T b k + 1)) (decide_eq_false z)]
          exact e
  obtain ⟨F, eF, hF⟩ := fu_get
  rw [m_X7_bellsOneMore, eF]
  exact key F 0 (by omega) (by omega)
def ka_ (T : Nat → Nat → Nat) (nb k i j X : Nat) : Bool := KA T nb i j X && decide (pc24 X = k)
theorem told_c38 {nb nh hd : Nat} {T : Nat → Nat → Nat} {M : Nat → Nat → Bool} {g : Mm} (hs : sv nb nh hd T M g) {i j : Nat} : ∀ (fu X : Nat), 2 ^ nb < X + fu → X ≤ 2 ^ nb →
    m_X7_toldWithAStrokeLost_38 fu (nI (om_ T nb i j)) (nI (om_ T nb j i)) (nI (fu_ T nb i j)) (nI X) g = some (bz (!(exN (ka_ T nb (min hd nb) i j) (2 ^ nb - X) X)), g) := by
  obtain ⟨⟨b1, b2, b3, b4, b5⟩, ⟨t1, t2, t3, t4, t5, t6⟩, -⟩ := id hs.1
  have h64 := pow6 b1
  have h0 := Nat.two_pow_pos nb
  have f64 : fu_ T nb i j < 64 := Nat.lt_of_le_of_lt (Nat.le_trans Nat.and_le_left Nat.and_le_left) (Dm_lt T b1 i j)
  have o1 := om_lt T b1 i j
  have o2 := om_lt T b1 j i
  intro fu
  induction fu with
  | zero => intro X h1 h2; omega
  | succ fu ih =>
    intro X h1 h2
    have t86 : ∀ f : Bool, X < 2 ^ nb → m_X7_toldWithAStrokeLost_86 (m_X7_toldWithAStrokeLost_38 fu) (nI (om_ T nb i j)) (nI (om_ T nb j i)) (nI (fu_ T nb i j)) (nI X) (bz f) g = if (f && decide (pc24 X = min hd nb)) = true then some (0, g) else m_X7_toldWithAStrokeLost_38 fu (nI (om_ T nb i j)) (nI (om_ T nb j i)) (nI (fu_ T nb i j)) (nI (X + 1)) g := by
      intro f hX
      rw [m_X7_toldWithAStrokeLost_86, nI_1]
      cases f with
      | false => rw [if_pos (show bz false = 0 from rfl), Bool.false_and, if_neg (by decide)]
      | true =>
        rw [if_neg (show ¬ bz true = 0 by decide), heardSet_c t1 t3 b1 b5 (by omega), bdd_some, Bool.true_and]
        cases decide (pc24 X = min hd nb)
        · rw [if_pos (show bz false = 0 from rfl), if_neg (show ¬ (false = true) by decide)]
        · rw [if_neg (show ¬ bz true = 0 by decide), if_pos rfl]
    rw [m_X7_toldWithAStrokeLost_38, allBells_c t1 b1, bdd_some]
    by_cases q : X = 2 ^ nb
    · rw [if_pos (by rw [nI_ltI (by omega) (by omega)]; omega), show 2 ^ nb - X = 0 by omega]
      rfl
    · have e := ih (X + 1) (by omega) (by omega)
      have a1 := and_lt64 (b := X) f64
      have a2 := and_lt64 (b := X) o1
      have a3 := and_lt64 (b := X) o2
      have c2 := pc24_le a2
      have c3 := pc24_le a3
      have fin : ∀ f : Bool, f = KA T nb i j X → m_X7_toldWithAStrokeLost_86 (m_X7_toldWithAStrokeLost_38 fu) (nI (om_ T nb i j)) (nI (om_ T nb j i)) (nI (fu_ T nb i j)) (nI X) (bz f) g = some (bz (!(exN (ka_ T nb (min hd nb) i j) (2 ^ nb - X) X)), g) := by
        intro f hf
        rw [t86 f (by omega), show 2 ^ nb - X = (2 ^ nb - (X + 1)) + 1 by omega, exN, ka_, ← hf]
        cases (f && decide (pc24 X = min hd nb))
        · rw [if_neg (by decide), e, Bool.false_or]
        · rw [if_pos rfl, Bool.true_or]
          rfl
      rw [if_neg (by rw [nI_ltI (by omega) (by omega)]; omega), nI_and]
      by_cases z1 : fu_ T nb i j &&& X = 0
      · rw [if_pos (show nI (fu_ T nb i j &&& X) = 0 by rw [z1]; rfl), nI_and, bitCount_nI a2, bdd_some]
        by_cases z2 : pc24 (om_ T nb i j &&& X) ≤ 1
        · rw [if_neg (fun w => by have := (nI_ltI (a := 1) (by omega) (by omega)).mp w; omega), nI_and, bitCount_nI a3, bdd_some]
          by_cases z3 : pc24 (om_ T nb j i &&& X) ≤ 1
          · rw [if_neg (fun w => by have := (nI_ltI (a := 1) (by omega) (by omega)).mp w; omega)]
            exact fin true (by rw [KA, decide_eq_true z1, decide_eq_true z2, decide_eq_true z3]; rfl)
          · rw [if_pos (by exact (nI_ltI (a := 1) (by omega) (by omega)).mpr (by omega))]
            exact fin false (by rw [KA, decide_eq_true z1, decide_eq_true z2, decide_eq_false z3]; rfl)
        · rw [if_pos (by exact (nI_ltI (a := 1) (by omega) (by omega)).mpr (by omega))]
          exact fin false (by rw [KA, decide_eq_true z1, decide_eq_false z2]; rfl)
      · rw [if_neg (fun w => by exact z1 ((nI_eq (b := 0) (by omega) (by omega)).mp w))]
        exact fin false (by rw [KA, decide_eq_false z1]; rfl)
def pr_ (T : Nat → Nat → Nat) (M : Nat → Nat → Bool) (nb k : Nat) (p : Nat × Nat) : Bool := M p.1 p.2 || !(exN (ka_ T nb k p.1 p.2) (2 ^ nb - 1) 1)
theorem toldLost_c {nb nh hd : Nat} {T : Nat → Nat → Nat} {M : Nat → Nat → Bool} {g : Mm} (hs : sv nb nh hd T M g) {i j : Nat} (hi : i < 24) (hj : j < 24) : m_X7_toldWithAStrokeLost (nI i) (nI j) g = some (bz (!(exN (ka_ T nb (min hd nb) i j) (2 ^ nb - 1) 1)), g) := by
  have b1 := hs.1.1.1
  have h64 := pow6 b1
  have h0 := Nat.two_pow_pos nb
  obtain ⟨F, eF, hF⟩ := fu_get
  rw [m_X7_toldWithAStrokeLost, oneMore_c hs hi hj, bdd_some, oneMore_c hs hj hi, bdd_some, hs.dc hi hj, bdd_some, show (-1 : Int32) = nI (2 ^ 32 - 1) by decide, nI_xor, nI_and, nI_xor, nI_and, eF]
  exact told_c38 hs F 1 (by omega) (by omega)
theorem bears_c17 {nb nh hd : Nat} {T : Nat → Nat → Nat} {M : Nat → Nat → Bool} {g : Mm} (hs : sv nb nh hd T M g) (K : Int32 → Mm → Option (Int32 × Mm)) {i : Nat} (hi : i < nh) : ∀ (fu j : Nat), nh < j + fu → j ≤ nh →
    m_X7_allToldWithAStrokeLost_17 K fu (nI i) (nI j) g = if (rj nh i j).all (pr_ T M nb (min hd nb)) = true then K (nI (i + 1)) g else some (0, g) := by
  obtain ⟨⟨b1, b2, b3, b4, b5⟩, ⟨t1, t2, t3, t4, t5, t6⟩, -⟩ := id hs.1
  intro fu
  induction fu with
  | zero => intro j h1 h2; omega
  | succ fu ih =>
    intro j h1 h2
    rw [m_X7_allToldWithAStrokeLost_17, t2]
    by_cases q : j = nh
    · subst q
      rw [if_pos (by rw [nI_leI (by omega) (by omega)]; omega), rj_end (Nat.le_refl _), nI_1]
      rfl
    · have e := ih (j + 1) (by omega) (by omega)
      rw [if_neg (by rw [nI_leI (by omega) (by omega)]; omega), hs.mc (by omega) (by omega), bdd_some, rj_next (by omega), List.all_cons, nI_1, pr_]
      cases M i j with
      | true =>
        rw [if_neg (show ¬ bz true = 0 by decide), Bool.true_or, Bool.true_and]
        exact e
      | false =>
        rw [if_pos (show bz false = 0 from rfl), toldLost_c hs (by omega) (by omega), bdd_some, Bool.false_or]
        cases exN (ka_ T nb (min hd nb) i j) (2 ^ nb - 1) 1
        · rw [if_neg (show ¬ bz (!false) = 0 by decide)]
          exact e
        · rw [if_pos (show bz (!true) = 0 from rfl)]
          rfl
theorem bears_c2 {nb nh hd : Nat} {T : Nat → Nat → Nat} {M : Nat → Nat → Bool} {g : Mm} (hs : sv nb nh hd T M g) : ∀ (fu i : Nat), nh < i + fu → i ≤ nh →
    m_X7_allToldWithAStrokeLost_2 fu (nI i) g = some (bz ((ri nh i).all (pr_ T M nb (min hd nb))), g) := by
  obtain ⟨⟨b1, b2, b3, b4, b5⟩, ⟨t1, t2, t3, t4, t5, t6⟩, -⟩ := id hs.1
  intro fu
  induction fu with
  | zero => intro i h1 h2; omega
  | succ fu ih =>
    intro i h1 h2
    rw [m_X7_allToldWithAStrokeLost_2, t2]
    by_cases q : i = nh
    · subst q
      rw [if_pos (by rw [nI_leI (by omega) (by omega)]; omega), ri_end (Nat.le_refl _)]
      rfl
    · obtain ⟨F, eF, hF⟩ := fu_get
      rw [if_neg (by rw [nI_leI (by omega) (by omega)]; omega), nI_1, ri_next (n := nh) (i := i) (by omega), List.all_append, eF, bears_c17 hs _ (show i < nh by omega) F (i + 1) (by omega) (by omega), ih (i + 1) (by omega) (by omega)]
      cases (rj nh i (i + 1)).all (pr_ T M nb (min hd nb)) <;> rfl
def qx_ (T : Nat → Nat → Nat) (M : Nat → Nat → Bool) (nb X : Nat) (p : Nat × Nat) : Bool := M p.1 p.2 || !(CA T nb p.1 p.2 X)
theorem bears_m50 {nb nh hd : Nat} {T : Nat → Nat → Nat} {M : Nat → Nat → Bool} {g : Mm} (hs : sv nb nh hd T M g) (K : Int32 → Int32 → Int32 → Mm → Option (Int32 × Mm)) (a : Int32) {X i : Nat} (hX : X < 64) (hi : i < nh) : ∀ (fu j : Nat), nh < j + fu → j ≤ nh →
    m_X10_bears_50 K fu a (nI X) (nI i) (nI j) g = if (rj nh i j).all (qx_ T M nb X) = true then K a (nI X) (nI (i + 1)) g else some (0, g) := by
  obtain ⟨⟨b1, b2, b3, b4, b5⟩, ⟨t1, t2, t3, t4, t5, t6⟩, -⟩ := id hs.1
  intro fu
  induction fu with
  | zero => intro j h1 h2; omega
  | succ fu ih =>
    intro j h1 h2
    rw [m_X10_bears_50, t5]
    by_cases q : j = nh
    · subst q
      rw [if_pos (by rw [nI_leI (by omega) (by omega)]; omega), rj_end (Nat.le_refl _), nI_1]
      rfl
    · have e := ih (j + 1) (by omega) (by omega)
      rw [if_neg (by rw [nI_leI (by omega) (by omega)]; omega), hs.mm (by omega) (by omega), bdd_some, rj_next (by omega), List.all_cons, nI_1, qx_]
      cases M i j with
      | true =>
        rw [if_neg (show ¬ bz true = 0 by decide), Bool.true_or, Bool.true_and]
        exact e
      | false =>
        rw [if_pos (show bz false = 0 from rfl), cba_m hs (by omega) (by omega) hX, bdd_some, Bool.false_or]
        cases CA T nb i j X
        · rw [if_pos (show bz false = 0 from rfl)]
          exact e
        · rw [if_neg (show ¬ bz true = 0 by decide)]
          rfl
theorem bears_m37 {nb nh hd : Nat} {T : Nat → Nat → Nat} {M : Nat → Nat → Bool} {g : Mm} (hs : sv nb nh hd T M g) (K : Int32 → Int32 → Mm → Option (Int32 × Mm)) (a : Int32) {X : Nat} (hX : X < 64) : ∀ (fu i : Nat), nh < i + fu → i ≤ nh →
    m_X10_bears_37 K fu a (nI X) (nI i) g = if (ri nh i).all (qx_ T M nb X) = true then K a (nI (X + 1)) g else some (0, g) := by
  obtain ⟨⟨b1, b2, b3, b4, b5⟩, ⟨t1, t2, t3, t4, t5, t6⟩, -⟩ := id hs.1
  intro fu
  induction fu with
  | zero => intro i h1 h2; omega
  | succ fu ih =>
    intro i h1 h2
    rw [m_X10_bears_37, t5]
    by_cases q : i = nh
    · subst q
      rw [if_pos (by rw [nI_leI (by omega) (by omega)]; omega), ri_end (Nat.le_refl _), nI_1]
      rfl
    · obtain ⟨F, eF, hF⟩ := fu_get
      rw [if_neg (by rw [nI_leI (by omega) (by omega)]; omega), nI_1, ri_next (n := nh) (i := i) (by omega), List.all_append, eF, bears_m50 hs _ a hX (show i < nh by omega) F (i + 1) (by omega) (by omega), ih (i + 1) (by omega) (by omega)]
      cases (rj nh i (i + 1)).all (qx_ T M nb X) <;> rfl
def qk_ (T : Nat → Nat → Nat) (M : Nat → Nat → Bool) (nb nh k X : Nat) : Bool := decide (pc24 X = k) && !((ri nh 0).all (qx_ T M nb X))
theorem bears_m17 {nb nh hd : Nat} {T : Nat → Nat → Nat} {M : Nat → Nat → Bool} {g : Mm} (hs : sv nb nh hd T M g) {k : Nat} (hk : k < 100) : ∀ (fu X : Nat), 2 ^ nb < X + fu → X ≤ 2 ^ nb →
    m_X10_bears_17 fu (nI k) (nI X) g = some (bz (!(exN (qk_ T M nb nh k) (2 ^ nb - X) X)), g) := by
  obtain ⟨⟨b1, b2, b3, b4, b5⟩, ⟨t1, t2, t3, t4, t5, t6⟩, -⟩ := id hs.1
  have h64 := pow6 b1
  intro fu
  induction fu with
  | zero => intro i h1 h2; omega
  | succ fu ih =>
    intro X h1 h2
    rw [m_X10_bears_17, t4, shl_1 (by omega)]
    by_cases q : X = 2 ^ nb
    · rw [if_pos (by rw [nI_leI (by omega) (by omega)]; omega), show 2 ^ nb - X = 0 by omega]
      rfl
    · obtain ⟨F, eF, hF⟩ := fu_get
      have e := ih (X + 1) (by omega) (by omega)
      have hpc := pc24_le (n := X) (by omega)
      rw [if_neg (by rw [nI_leI (by omega) (by omega)]; omega), bitsOf_nI (by omega), bdd_some, nI_1, show 2 ^ nb - X = (2 ^ nb - (X + 1)) + 1 by omega, exN, qk_]
      by_cases z : pc24 X = k
      · rw [if_pos (by rw [z]), eF, show (0 : Int32) = nI 0 from rfl, bears_m37 hs _ _ (show X < 64 by omega) F 0 (by omega) (by omega), e, decide_eq_true z]
        cases (ri nh 0).all (qx_ T M nb X) <;> rfl
      · rw [if_neg (fun w => by exact z ((nI_eq (by omega) (by omega)).mp w)), e, decide_eq_false z]
        rfl
theorem op_bears {g : Mm} (hg : gv_ g) : al_ m_X9_bears m_X10_bears g := by
  have hg0 := hg
  obtain ⟨nb, nh, hd, cd, ck, tl, rt, nn, na, ra, f, hT, hX, hC, hP, hL, hE, hA, hS⟩ := hg
  obtain ⟨⟨b1, b2, b3, b4, b5⟩, ⟨t1, t2, t3, t4, t5, t6⟩, -⟩ := id hT
  have h64 := pow6 b1
  have hp0 := Nat.two_pow_pos nb
  by_cases n0 : nb = 0
  · subst n0
    refine al_.same (r := -5) hg0 ?_ ?_
    · rw [m_X9_bears, t1, if_pos (show nI 0 = 0 from rfl)]
    · rw [m_X10_bears, t4, if_pos (show nI 0 = 0 from rfl)]
  · have n1 : ¬ nI nb = (0 : Int32) := fun w => n0 ((nI_eq (b := 0) (by omega) (by omega)).mp w)
    have hs := sv.self hT hX
    obtain ⟨F, eF, hF⟩ := fu_get
    have hc := bears_c2 hs F 0 (by omega) (by omega)
    have hm := bears_m17 hs (k := min hd nb) (by omega) F 0 (by omega) (Nat.zero_le _)
    have he : (ri nh 0).all (pr_ (tv g) (mx_ g) nb (min hd nb)) = !(exN (qk_ (tv g) (mx_ g) nb nh (min hd nb)) (2 ^ nb - 0) 0) := by
      rw [Bool.eq_iff_iff, Bool.not_eq_true', List.all_eq_true]
      constructor
      · intro h
        cases q : exN (qk_ (tv g) (mx_ g) nb nh (min hd nb)) (2 ^ nb - 0) 0 with
        | false => rfl
        | true =>
          exfalso
          obtain ⟨X, -, h2, h3⟩ := (exN_iff _ _).mp q
          rw [qk_, Bool.and_eq_true, decide_eq_true_eq, Bool.not_eq_true'] at h3
          have h4 : ¬ ((ri nh 0).all (qx_ (tv g) (mx_ g) nb X) = true) := by rw [h3.2]; decide
          refine h4 (List.all_eq_true.mpr (fun p hp => ?_))
          have h5 := h p hp
          rw [pr_, Bool.or_eq_true, Bool.not_eq_true'] at h5
          rw [qx_, Bool.or_eq_true, Bool.not_eq_true', CA_KA b1]
          rcases h5 with h5 | h5
          · exact Or.inl h5
          · refine Or.inr ?_
            cases w : KA (tv g) nb p.1 p.2 X with
            | false => rfl
            | true =>
              have hX1 : 1 ≤ X := by
                rcases Nat.eq_zero_or_pos X with z | z
                · rw [z, show pc24 0 = 0 by decide] at h3
                  omega
                · exact z
              rw [(exN_iff _ _).mpr ⟨X, hX1, by omega, by rw [ka_, w, decide_eq_true h3.1]; rfl⟩] at h5
              cases h5
      · intro h p hp
        rw [pr_, Bool.or_eq_true, Bool.not_eq_true']
        cases hm : mx_ g p.1 p.2 with
        | true => exact Or.inl rfl
        | false =>
          refine Or.inr ?_
          cases w : exN (ka_ (tv g) nb (min hd nb) p.1 p.2) (2 ^ nb - 1) 1 with
          | false => rfl
          | true =>
            exfalso
            obtain ⟨X, h1, h2, h3⟩ := (exN_iff _ _).mp w
            rw [ka_, Bool.and_eq_true, decide_eq_true_eq] at h3
            have h4 : (ri nh 0).all (qx_ (tv g) (mx_ g) nb X) = false := by
              rw [List.all_eq_false]
              refine ⟨p, hp, ?_⟩
              rw [qx_, hm, CA_KA b1, h3.1]
              decide
            rw [(exN_iff _ _).mpr ⟨X, by omega, by omega, by rw [qk_, decide_eq_true h3.2, h4]; rfl⟩] at h
            cases h
    refine al_.same (r := bz ((ri nh 0).all (pr_ (tv g) (mx_ g) nb (min hd nb)))) hg0 ?_ ?_
    · rw [m_X9_bears, t1, if_neg n1, m_X7_allToldWithAStrokeLost, eF]
      rw [show m_X7_allToldWithAStrokeLost_2 F 0 g = some (bz ((ri nh 0).all (pr_ (tv g) (mx_ g) nb (min hd nb))), g) from hc, bdd_some]
      cases (ri nh 0).all (pr_ (tv g) (mx_ g) nb (min hd nb)) <;> rfl
    · rw [m_X10_bears, t4, if_neg n1, heard_m t4 t6 b1 b5, bdd_some, eF, he]
      exact hm
