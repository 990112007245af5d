/-! bits counted; masks -/
theorem and_split {a m : Nat} (ha : a < 256) (hm : m < 256) (r s : Nat) : (a + 256 * r) &&& (m + 256 * s) = (a &&& m) + 256 * (r &&& s) := by
  have hlt : a &&& m < 256 := Nat.lt_of_le_of_lt Nat.and_le_left ha
  refine Nat.eq_of_testBit_eq (fun j => ?_)
  rw [Nat.testBit_and, Nat.add_comm a, Nat.add_comm m, Nat.add_comm (a &&& m), show (256 : Nat) = 2 ^ 8 from rfl, Nat.testBit_two_pow_mul_add _ ha, Nat.testBit_two_pow_mul_add _ hm, Nat.testBit_two_pow_mul_add _ hlt]
  by_cases h : j < 8
  · simp only [if_pos h, Nat.testBit_and]
  · simp only [if_neg h, Nat.testBit_and]
def s1b (a : Nat) : Nat := a - ((a / 2) &&& 85)
def s2b (a : Nat) : Nat := (s1b a &&& 51) + ((s1b a / 4) &&& 51)
def p8 (a : Nat) : Nat := (s2b a + s2b a / 16) % 16
theorem s1_ok : ∀ a, a < 256 → (a / 2) &&& 85 ≤ a ∧ s1b a < 256 ∧ ∀ t, t < 2 → (a / 2 + 128 * t) &&& 85 = (a / 2) &&& 85 := by decide +kernel
theorem s2_ok : ∀ a, a < 256 → ∀ t, t < 4 → (a / 4 + 64 * t) &&& 51 = (a / 4) &&& 51 := by decide +kernel
theorem s2_le : ∀ a, a < 256 → s2b a ≤ 68 ∧ s2b a % 16 ≤ 4 ∧ p8 a ≤ 8 := by decide +kernel
theorem s3_ok : ∀ x, x < 69 → ∀ t, t < 5 → (x + x / 16 + 16 * t) &&& 15 = (x + x / 16) % 16 := by decide +kernel
theorem p8_0 : p8 0 = 0 := by decide
theorem p8_clr : ∀ a, a < 256 → a = 0 ∨ (a &&& (a - 1) < 256 ∧ p8 (a &&& (a - 1)) + 1 = p8 a) := by decide +kernel
theorem s4_all : ∀ x, x < 9 → ∀ y, y < 9 → ∀ z, z < 9 → (x + 256 * (y + 256 * z) + (x + 256 * (y + 256 * z)) / 2 ^ 8 + (x + 256 * (y + 256 * z) + (x + 256 * (y + 256 * z)) / 2 ^ 8) / 2 ^ 16) % 2 ^ 6 = x + (y + z) := by decide +kernel
theorem s4_ok {x y z : Nat} (hx : x ≤ 8) (hy : y ≤ 8) (hz : z ≤ 8) : (x + 256 * (y + 256 * z) + (x + 256 * (y + 256 * z)) / 2 ^ 8 + (x + 256 * (y + 256 * z) + (x + 256 * (y + 256 * z)) / 2 ^ 8) / 2 ^ 16) % 2 ^ 6 = x + (y + z) := s4_all x (by omega) y (by omega) z (by omega)
def pc24 (n : Nat) : Nat := p8 (n % 256) + (p8 (n / 256 % 256) + p8 (n / 65536))
theorem usr_nI {n k : Nat} (hn : n < 2 ^ 32) (hk : k < 32) : usrI (nI n) (nI k) = nI (n / 2 ^ k) := by
  have h : ∀ k, k < 32 → (((nI k).toUInt32 &&& Int32.toUInt32 31).toBitVec % 32).toNat = k := by decide +kernel
  exact pk_ushrN hn (nI k) k (h k hk)
theorem bitCount_nI {n : Nat} (hn : n < 2 ^ 24) (g : Mm) : m_J6_bitCount_0f7a4 (nI n) g = some (nI (pc24 n), g) := by
  obtain ⟨a, b, c, ha, hb, hc, rfl⟩ : ∃ a b c, a < 256 ∧ b < 256 ∧ c < 256 ∧ n = a + 256 * (b + 256 * c) := ⟨n % 256, n / 256 % 256, n / 65536, by omega, by omega, by omega, by omega⟩
  have em : pc24 (a + 256 * (b + 256 * c)) = p8 a + (p8 b + p8 c) := by
    unfold pc24
    rw [show (a + 256 * (b + 256 * c)) % 256 = a by omega, show (a + 256 * (b + 256 * c)) / 256 % 256 = b by omega, show (a + 256 * (b + 256 * c)) / 65536 = c by omega]
  obtain ⟨a1, a2, a3⟩ := s1_ok a ha
  obtain ⟨b1, b2, b3⟩ := s1_ok b hb
  obtain ⟨c1, c2, c3⟩ := s1_ok c hc
  obtain ⟨a4, a5, a6⟩ := s2_le a ha
  obtain ⟨b4, b5, b6⟩ := s2_le b hb
  obtain ⟨c4, c5, c6⟩ := s2_le c hc
  have m1 : ((a + 256 * (b + 256 * c)) / 2 ^ 1) &&& 1431655765 = ((a / 2) &&& 85) + 256 * (((b / 2) &&& 85) + 256 * ((c / 2) &&& 85)) := by
    rw [show (a + 256 * (b + 256 * c)) / 2 ^ 1 = (a / 2 + 128 * (b % 2)) + 256 * ((b / 2 + 128 * (c % 2)) + 256 * (c / 2 + 256 * 0)) by omega, show (1431655765 : Nat) = 85 + 256 * (85 + 256 * (85 + 256 * 85)) from rfl,
      and_split (by omega) (by omega), and_split (by omega) (by omega), and_split (by omega) (by omega), a3 _ (by omega), b3 _ (by omega), Nat.zero_and, Nat.mul_zero, Nat.add_zero]
  have m2 : (a + 256 * (b + 256 * c)) - (((a / 2) &&& 85) + 256 * (((b / 2) &&& 85) + 256 * ((c / 2) &&& 85))) = s1b a + 256 * (s1b b + 256 * s1b c) := by
    unfold s1b
    omega
  have m3 : (s1b a + 256 * (s1b b + 256 * s1b c)) &&& 858993459 = (s1b a &&& 51) + 256 * ((s1b b &&& 51) + 256 * (s1b c &&& 51)) := by
    rw [show s1b a + 256 * (s1b b + 256 * s1b c) = s1b a + 256 * (s1b b + 256 * (s1b c + 256 * 0)) by omega, show (858993459 : Nat) = 51 + 256 * (51 + 256 * (51 + 256 * 51)) from rfl, and_split a2 (by omega), and_split b2 (by omega), and_split c2 (by omega), Nat.zero_and, Nat.mul_zero, Nat.add_zero]
  have m4 : ((s1b a + 256 * (s1b b + 256 * s1b c)) / 2 ^ 2) &&& 858993459 = ((s1b a / 4) &&& 51) + 256 * (((s1b b / 4) &&& 51) + 256 * ((s1b c / 4) &&& 51)) := by
    rw [show (s1b a + 256 * (s1b b + 256 * s1b c)) / 2 ^ 2 = (s1b a / 4 + 64 * (s1b b % 4)) + 256 * ((s1b b / 4 + 64 * (s1b c % 4)) + 256 * (s1b c / 4 + 256 * 0)) by omega, show (858993459 : Nat) = 51 + 256 * (51 + 256 * (51 + 256 * 51)) from rfl,
      and_split (by omega) (by omega), and_split (by omega) (by omega), and_split (by omega) (by omega), s2_ok _ a2 _ (by omega), s2_ok _ b2 _ (by omega), Nat.zero_and, Nat.mul_zero, Nat.add_zero]
  have m5 : ((s1b a &&& 51) + 256 * ((s1b b &&& 51) + 256 * (s1b c &&& 51))) + (((s1b a / 4) &&& 51) + 256 * (((s1b b / 4) &&& 51) + 256 * ((s1b c / 4) &&& 51))) = s2b a + 256 * (s2b b + 256 * s2b c) := by
    unfold s2b
    omega
  have m6 : ((s2b a + 256 * (s2b b + 256 * s2b c)) + (s2b a + 256 * (s2b b + 256 * s2b c)) / 2 ^ 4) &&& 252645135 = p8 a + 256 * (p8 b + 256 * p8 c) := by
    rw [show (s2b a + 256 * (s2b b + 256 * s2b c)) + (s2b a + 256 * (s2b b + 256 * s2b c)) / 2 ^ 4 = (s2b a + s2b a / 16 + 16 * (s2b b % 16)) + 256 * ((s2b b + s2b b / 16 + 16 * (s2b c % 16)) + 256 * ((s2b c + s2b c / 16 + 16 * 0) + 256 * 0)) by omega,
      show (252645135 : Nat) = 15 + 256 * (15 + 256 * (15 + 256 * 15)) from rfl, and_split (by omega) (by omega), and_split (by omega) (by omega), and_split (by omega) (by omega), s3_ok _ (by omega) _ (by omega), s3_ok _ (by omega) _ (by omega), s3_ok _ (by omega) _ (by omega), Nat.zero_and]
    rfl
  rw [em]
  simp only [m_J6_bitCount_0f7a4, lti, fa_lit]
  rw [usr_nI (by omega) (by omega), nI_and, m1, pk_sub (by omega), m2, nI_and, m3, usr_nI (by omega) (by omega), nI_and, m4, nI_add, m5, usr_nI (by omega) (by omega), nI_add, nI_and, m6, usr_nI (by omega) (by omega), nI_add, usr_nI (by omega) (by omega), nI_add, nI_and]
  rw [show (63 : Nat) = 2 ^ 6 - 1 from rfl, Nat.and_two_pow_sub_one_eq_mod, s4_ok a6 b6 c6]
theorem bitsOf_nI {n : Nat} (hn : n < 2 ^ 24) (g : Mm) : m_X10_bitsOf (nI n) g = some (nI (pc24 n), g) := by
  have key : ∀ (fu k a b c : Nat), a < 256 → b < 256 → c < 256 → p8 a + (p8 b + p8 c) < fu → m_X10_bitsOf_4 fu (nI k) (nI (a + 256 * (b + 256 * c))) g = some (nI (k + (p8 a + (p8 b + p8 c))), g) := by
    intro fu
    induction fu with
    | zero => intro k a b c ha hb hc h; omega
    | succ fu ih =>
      intro k a b c ha hb hc h
      rw [m_X10_bitsOf_4]
      by_cases q : a + 256 * (b + 256 * c) = 0
      · have h1 : a = 0 := by omega
        have h2 : b = 0 := by omega
        have h3 : c = 0 := by omega
        subst h1 h2 h3
        rw [if_pos (show nI (0 + 256 * (0 + 256 * 0)) = 0 from rfl), p8_0]
        rfl
      · have hz : ¬ nI (a + 256 * (b + 256 * c)) = 0 := fun z => q (by
          have z : nI (a + 256 * (b + 256 * c)) = nI 0 := z
          rw [nI_eq (by omega) (by omega)] at z
          exact z)
        rw [if_neg hz, show nI (a + 256 * (b + 256 * c)) - (1 : Int32) = nI (a + 256 * (b + 256 * c) - 1) from pk_sub (b := 1) (by omega), nI_and, nI_1]
        rcases p8_clr a ha with h1 | ⟨h1, h2⟩
        · subst h1
          rcases p8_clr b hb with h1 | ⟨h1, h2⟩
          · subst h1
            rcases p8_clr c hc with h1 | ⟨h1, h2⟩
            · omega
            · have e : (0 + 256 * (0 + 256 * c)) &&& (0 + 256 * (0 + 256 * c) - 1) = 0 + 256 * (0 + 256 * (c &&& (c - 1))) := by
                rw [show 0 + 256 * (0 + 256 * c) - 1 = 255 + 256 * (255 + 256 * (c - 1)) by omega, and_split (by omega) (by omega), and_split (by omega) (by omega), Nat.zero_and]
              rw [e, ih (k + 1) 0 0 _ ha hb h1 (by omega), ← h2]
              congr 3
              omega
          · have e : (0 + 256 * (b + 256 * c)) &&& (0 + 256 * (b + 256 * c) - 1) = 0 + 256 * ((b &&& (b - 1)) + 256 * c) := by
              have hb0 : b ≠ 0 := fun z => by
                subst z
                rw [p8_0] at h2
                omega
              rw [show 0 + 256 * (b + 256 * c) - 1 = 255 + 256 * ((b - 1) + 256 * c) by omega, and_split (by omega) (by omega), and_split (by omega) (by omega), Nat.zero_and, Nat.and_self]
            rw [e, ih (k + 1) 0 _ c ha h1 hc (by omega), ← h2]
            congr 3
            omega
        · have ha0 : a ≠ 0 := fun z => by
            subst z
            rw [p8_0] at h2
            omega
          have e : (a + 256 * (b + 256 * c)) &&& (a + 256 * (b + 256 * c) - 1) = (a &&& (a - 1)) + 256 * (b + 256 * c) := by
            rw [show a + 256 * (b + 256 * c) - 1 = (a - 1) + 256 * (b + 256 * c) by omega, and_split (by omega) (by omega), Nat.and_self]
          rw [e, ih (k + 1) _ b c h1 hb hc (by omega), ← h2]
          congr 3
          omega
  obtain ⟨F, eF, hF⟩ := fu_get
  have h1 := s2_le (n % 256) (by omega)
  have h2 := s2_le (n / 256 % 256) (by omega)
  have h3 := s2_le (n / 65536) (by omega)
  have e := key F 0 (n % 256) (n / 256 % 256) (n / 65536) (by omega) (by omega) (by omega) (by omega)
  rw [show n % 256 + 256 * (n / 256 % 256 + 256 * (n / 65536)) = n by omega, Nat.zero_add] at e
  rw [m_X10_bitsOf, eF]
  exact e
/-- all of the first n -/
def alN (p : Nat → Bool) : Nat → Bool
  | 0 => true
  | n + 1 => alN p n && p n
theorem alN_iff {p : Nat → Bool} {n : Nat} : alN p n = true ↔ ∀ i, i < n → p i = true := by
  induction n with
  | zero => exact ⟨fun _ i hi => by omega, fun _ => rfl⟩
  | succ n ih =>
    rw [alN, Bool.and_eq_true, ih]
    constructor
    · rintro ⟨h1, h2⟩ i hi
      by_cases q : i = n
      · rw [q]; exact h2
      · exact h1 i (by omega)
    · exact fun h => ⟨fun i hi => h i (by omega), h n (by omega)⟩
theorem alN_no {p : Nat → Bool} {n i : Nat} (hi : i < n) (h : p i = false) : alN p n = false := by
  cases e : alN p n with
  | false => rfl
  | true => rw [alN_iff] at e; rw [e i hi] at h; cases h
theorem alN_eq {p q : Nat → Bool} {n m : Nat} (h : (∀ i, i < n → p i = true) ↔ ∀ i, i < m → q i = true) : alN p n = alN q m := by
  rw [Bool.eq_iff_iff, alN_iff, alN_iff]
  exact h
theorem alN_congr {p q : Nat → Bool} {n : Nat} (h : ∀ i, i < n → p i = q i) : alN p n = alN q n :=
  alN_eq ⟨fun z i hi => by rw [← h i hi]; exact z i hi, fun z i hi => by rw [h i hi]; exact z i hi⟩
/-- the mask of those of the first n -/
def bm (p : Nat → Bool) : Nat → Nat
  | 0 => 0
  | n + 1 => bm p n ||| (if p n = true then 2 ^ n else 0)
theorem bm_lt (p : Nat → Bool) (n : Nat) : bm p n < 2 ^ n := by
  induction n with
  | zero => exact Nat.one_pos
  | succ n ih =>
    rw [bm]
    have h1 : 2 ^ n < 2 ^ (n + 1) := Nat.pow_lt_pow_right (by decide) (by omega)
    refine Nat.or_lt_two_pow (by omega) ?_
    split
    · exact h1
    · exact Nat.two_pow_pos _
theorem bm_bit (p : Nat → Bool) (n j : Nat) : (bm p n).testBit j = (decide (j < n) && p j) := by
  induction n with
  | zero => rw [bm, Nat.zero_testBit, decide_eq_false (by omega), Bool.false_and]
  | succ n ih =>
    rw [bm, Nat.testBit_or, ih]
    by_cases q : j = n
    · subst q
      rw [decide_eq_false (by omega), Bool.false_and, Bool.false_or, decide_eq_true (by omega), Bool.true_and]
      cases e : p j
      · rw [if_neg (by decide), Nat.zero_testBit]
      · rw [if_pos rfl, Nat.testBit_two_pow_self]
    · have h0 : (if p n = true then 2 ^ n else 0).testBit j = false := by
        split
        · rw [Nat.testBit_two_pow, decide_eq_false (fun z => q z.symm)]
        · rw [Nat.zero_testBit]
      rw [h0, Bool.or_false]
      by_cases z : j < n
      · rw [decide_eq_true z, decide_eq_true (by omega)]
      · rw [decide_eq_false z, decide_eq_false (by omega)]
theorem bm_congr {p q : Nat → Bool} {n : Nat} (h : ∀ i, i < n → p i = q i) : bm p n = bm q n := by
  induction n with
  | zero => rfl
  | succ n ih => rw [bm, bm, ih (fun i hi => h i (by omega)), h n (by omega)]
theorem bm_t {p : Nat → Bool} {n : Nat} (hn : n < 32) (h : p n = true) : nI (bm p n) ||| shlI (1 : Int32) (nI n) = nI (bm p (n + 1)) := by
  rw [shl_1 hn, nI_or, bm, if_pos h]
theorem bm_f {p : Nat → Bool} {n : Nat} (hn : n < 32) (h : p n = false) : nI (bm p n) ||| shlI (0 : Int32) (nI n) = nI (bm p (n + 1)) := by
  rw [show (0 : Int32) = nI 0 from rfl, shl_nI (m := 0) hn (by omega), nI_or, bm, h, Nat.zero_mul]
  rfl
theorem bm_f' {p : Nat → Bool} {n : Nat} (h : p n = false) : nI (bm p n) = nI (bm p (n + 1)) := by
  rw [bm, h]
  show nI (bm p n) = nI (bm p n ||| 0)
  rw [Nat.or_zero]
/-- the table's numbers -/
def tv (g : Mm) (h b : Nat) : Nat := (rdI g 5 (6 * h + b)).toNatClampNeg
theorem tv_get {nb nh hd : Nat} {g : Mm} (hT : gv_t nb nh hd g) {h b : Nat} (hh : h < 24) (hb : b < 6) : rdI g 5 (6 * h + b) = nI (tv g h b) ∧ rdI g 44 (6 * h + b) = nI (tv g h b) ∧ tv g h b ≤ 15 := by
  obtain ⟨e1, v, hv, e2⟩ := hT.2.2.2.2.1 (6 * h + b) (by omega)
  rw [e1, tv, e2, nI_clamp (by omega)]
  exact ⟨rfl, rfl, hv⟩
theorem striking_c {nb nh hd b v : Nat} {g : Mm} (hT : gv_t nb nh hd g) (hb : b < 6) (hv : v < 2 ^ 31) : m_X8_hoursStriking (nI b) (nI v) g = some (nI (bm (fun h => decide (tv g h b = v)) nh), g) := by
  obtain ⟨⟨b1, b2, b3, b4, b5⟩, ⟨t1, t2, t3, t4, t5, t6⟩, -⟩ := id hT
  have key : ∀ (fu i : Nat), nh < i + fu → i ≤ nh → m_X8_hoursStriking_5 fu (nI b) (nI v) (nI (bm (fun h => decide (tv g h b = v)) i)) (nI i) g = some (nI (bm (fun h => decide (tv g h b = v)) nh), g) := by
    intro fu
    induction fu with
    | zero => intro i h1 h2; omega
    | succ fu ih =>
      intro i h1 h2
      rw [m_X8_hoursStriking_5]
      by_cases q : i = nh
      · subst q
        simp (disch := omega) only [t2, fa_lit, nI_nm1, nm1_nI, nI_nm1l, Nat.mul_comm _ 6, Nat.mul_comm _ 60, nI_ltI, nI_leI, nI_eq, nI_add, pk_mul, pk_sub, rm_nI, pk_div, nI_clamp, gdd_true, ix_nI, bdd_some, if_pos, if_neg, rI_wI, rI_wL, rL_wI, rL_wL, rI_cI, rI_cL, rL_cI, rL_cL, false_and, and_false, true_and, and_true, if_true, if_false, not_true_eq_false, not_false_eq_true, reduceCtorEq, zb_bz, bz_t, bz_f, Bool.true_eq_false, Bool.false_eq_true]
      · have e := ih (i + 1) (by omega) (by omega)
        obtain ⟨e1, e2, e3⟩ := tv_get hT (show i < 24 by omega) hb
        rw [t2, if_neg (show ¬ nI nh ≤ nI i by rw [nI_leI (by omega) (by omega)]; omega), m8_struck (by omega) hb, bdd_some, e1]
        by_cases z : tv g i b = v
        · rw [if_pos (by rw [z]), bm_t (p := fun h => decide (tv g h b = v)) (by omega) (decide_eq_true z), nI_1]
          exact e
        · rw [if_neg (by rw [nI_eq (by omega) (by omega)]; exact z), bm_f' (p := fun h => decide (tv g h b = v)) (decide_eq_false z), nI_1]
          exact e
  obtain ⟨F, eF, hF⟩ := fu_get
  rw [m_X8_hoursStriking, eF]
  exact key F 0 (by omega) (by omega)
theorem striking_m {nb nh hd b v : Nat} {g : Mm} (hT : gv_t nb nh hd g) (hb : b < 6) (hv : v < 2 ^ 31) : m_X10_striking (nI b) (nI v) g = some (nI (bm (fun h => decide (tv g h b = v)) nh), g) := by
  obtain ⟨⟨b1, b2, b3, b4, b5⟩, ⟨t1, t2, t3, t4, t5, t6⟩, -⟩ := id hT
  have key : ∀ (fu i : Nat), nh < i + fu → i ≤ nh → m_X10_striking_5 fu (nI b) (nI v) (nI (bm (fun h => decide (tv g h b = v)) i)) (nI i) g = some (nI (bm (fun h => decide (tv g h b = v)) nh), g) := by
    intro fu
    induction fu with
    | zero => intro i h1 h2; omega
    | succ fu ih =>
      intro i h1 h2
      rw [m_X10_striking_5]
      by_cases q : i = nh
      · subst q
        simp (disch := omega) only [t5, fa_lit, nI_nm1, nm1_nI, nI_nm1l, Nat.mul_comm _ 6, Nat.mul_comm _ 60, nI_ltI, nI_leI, nI_eq, nI_add, pk_mul, pk_sub, rm_nI, pk_div, nI_clamp, gdd_true, ix_nI, bdd_some, if_pos, if_neg, rI_wI, rI_wL, rL_wI, rL_wL, rI_cI, rI_cL, rL_cI, rL_cL, false_and, and_false, true_and, and_true, if_true, if_false, not_true_eq_false, not_false_eq_true, reduceCtorEq, zb_bz, bz_t, bz_f, Bool.true_eq_false, Bool.false_eq_true]
      · have e := ih (i + 1) (by omega) (by omega)
        obtain ⟨e1, e2, e3⟩ := tv_get hT (show i < 24 by omega) hb
        have hix : (6 : Int32) * nI i + nI b = nI (6 * i + b) := by
          rw [show (6 : Int32) = nI 6 from rfl, pk_mul, nI_add]
        rw [t5, if_neg (show ¬ nI nh ≤ nI i by rw [nI_leI (by omega) (by omega)]; omega), hix, ix_nI (by omega) (by omega), gdd_true, nI_clamp (by omega), e2]
        by_cases z : tv g i b = v
        · rw [if_pos (by rw [z]), bm_t (p := fun h => decide (tv g h b = v)) (by omega) (decide_eq_true z), nI_1]
          exact e
        · rw [if_neg (by rw [nI_eq (by omega) (by omega)]; exact z), bm_f (p := fun h => decide (tv g h b = v)) (by omega) (decide_eq_false z), nI_1]
          exact e
  obtain ⟨F, eF, hF⟩ := fu_get
  rw [m_X10_striking, eF]
  exact key F 0 (by omega) (by omega)
