/-! the hours ahead that a row must be told from -/
def XA (m h : Nat) : Nat := (2 ^ h - 1) &&& (m ^^^ (2 ^ 32 - 1))
theorem XA_bit {m h : Nat} (hh : h ≤ 32) (j : Nat) : (XA m h).testBit j = (decide (j < h) && !m.testBit j) := by
  rw [XA, Nat.testBit_and, Nat.testBit_two_pow_sub_one, Nat.testBit_xor, Nat.testBit_two_pow_sub_one]
  by_cases q : j < h
  · rw [decide_eq_true q, decide_eq_true (show j < 32 by omega)]
    cases m.testBit j <;> rfl
  · rw [decide_eq_false q, Bool.false_and, Bool.false_and]
theorem XA_lt {m h : Nat} (hh : h < 24) : XA m h < 2 ^ 24 := by
  have h1 : XA m h ≤ 2 ^ h - 1 := Nat.and_le_left
  have h2 : 2 ^ h ≤ 2 ^ 24 := Nat.pow_le_pow_right (by decide) (by omega)
  have h3 := Nat.two_pow_pos h
  omega
/-- which hours are mixed, in a cell's rows of bits -/
def mxv (cell : Nat) (M : Nat → Nat → Bool) (g : Mm) : Prop := ∀ a, a < 24 → ∃ m, m < 2 ^ 24 ∧ rdI g cell a = nI m ∧ ∀ b, b < 24 → m.testBit b = M a b
theorem mxv.fr {cell : Nat} {M : Nat → Nat → Bool} {P : Nat → Nat → Bool} {g g' : Mm} (h : mxv cell M g) (f : fr_ P g g') (hP : ∀ i, P cell i = false) : mxv cell M g' := fun a ha => by
  obtain ⟨m, h1, h2, h3⟩ := h a ha
  exact ⟨m, h1, by rw [f.1 cell a (hP a)]; exact h2, h3⟩
theorem mix_m {M : Nat → Nat → Bool} {g : Mm} (h : mxv 45 M g) {a b : Nat} (ha : a < 24) (hb : b < 24) : m_X10_areMixed (nI a) (nI b) g = some (bz (M a b), g) := by
  obtain ⟨m, h1, h2, h3⟩ := h a ha
  rw [m_X10_areMixed, ix_nI ha (by omega), gdd_true, nI_clamp (by omega), h2, bit_nI (by omega) (by omega), h3 b hb]
  cases M a b <;> rfl
theorem dif_m {nb : Nat} {g : Mm} (hnb : nb ≤ 6) (t4 : rdI g 40 4 = nI nb) {a b : Nat} (ha : a < 24) (hb : b < 24) {u v : Nat → Nat} (hu : ∀ i, i < nb → rdI g 44 (6 * a + i) = nI (u i) ∧ u i < 1000) (hv : ∀ i, i < nb → rdI g 44 (6 * b + i) = nI (v i) ∧ v i < 1000) : m_X10_differ (nI a) (nI b) g = some (nI (bm (fun i => decide (¬ u i = v i)) nb), g) := by
  have key : ∀ (fu i : Nat), nb < i + fu → i ≤ nb → m_X10_differ_5 fu (nI a) (nI b) (nI (bm (fun i => decide (¬ u i = v i)) i)) (nI i) g = some (nI (bm (fun i => decide (¬ u i = v i)) nb), g) := by
    intro fu
    induction fu with
    | zero => intro i h1 h2; omega
    | succ fu ih =>
      intro i h1 h2
      rw [m_X10_differ_5, t4]
      by_cases q : i = nb
      · subst q
        rw [if_pos (by rw [nI_leI (by omega) (by omega)]; omega)]
      · have e := ih (i + 1) (by omega) (by omega)
        obtain ⟨e1, e3⟩ := hu i (by omega)
        obtain ⟨f1, f3⟩ := hv i (by omega)
        have i1 : (6 : Int32) * nI a + nI i = nI (6 * a + i) := by rw [show (6 : Int32) = nI 6 from rfl, pk_mul, nI_add]
        have i2 : (6 : Int32) * nI b + nI i = nI (6 * b + i) := by rw [show (6 : Int32) = nI 6 from rfl, pk_mul, nI_add]
        rw [if_neg (by rw [nI_leI (by omega) (by omega)]; omega), i1, i2, ix_nI (by omega) (by omega), gdd_true, ix_nI (by omega) (by omega), gdd_true, nI_clamp (by omega), nI_clamp (by omega), e1, f1, nI_1]
        by_cases z : u i = v i
        · rw [if_pos (by rw [z]), bm_f (p := fun k => decide (¬ u k = v k)) (by omega) (decide_eq_false (fun y => y z))]
          exact e
        · rw [if_neg (fun y => by exact z ((nI_eq (by omega) (by omega)).mp y)), bm_t (p := fun k => decide (¬ u k = v k)) (by omega) (decide_eq_true z)]
          exact e
  obtain ⟨F, eF, hF⟩ := fu_get
  rw [m_X10_differ, eF]
  exact key F 0 (by omega) (by omega)
def chk (nb w : Nat) (M : Nat → Nat → Bool) (R : Nat → Nat → Nat) (r : Nat → Nat) (h g' : Nat) : Bool := M g' h || decide (w ≤ cnt_ (fun b => decide (¬ R g' b = r b)) nb)
theorem told_ahead {nb nh w m h : Nat} {M : Nat → Nat → Bool} {R : Nat → Nat → Nat} {r : Nat → Nat} (hh : h < nh) (hn : nh ≤ 24) (hm : ∀ b, b < 24 → m.testBit b = M h b) (hsym : ∀ i j, i < 24 → j < 24 → M i j = M j i) : told_ nb nh w R r (XA m h) = alN (chk nb w M R r h) h := by
  refine alN_eq ⟨fun z i hi => ?_, fun z i hi => ?_⟩
  · have := z i (by omega)
    rw [XA_bit (by omega), decide_eq_true hi, hm i (by omega), hsym h i (by omega) (by omega), Bool.true_and, Bool.not_not] at this
    exact this
  · rw [XA_bit (by omega)]
    by_cases q : i < h
    · have := z i q
      rw [decide_eq_true q, hm i (by omega), hsym h i (by omega) (by omega), Bool.true_and, Bool.not_not]
      exact this
    · rw [decide_eq_false q]
      rfl
def c44r (h c i : Nat) : Bool := decide (c = 44 ∧ 6 * h ≤ i ∧ i < 6 * h + 6)
/-- one row, spelled into the table -/
def fnE (K : Int32 → Int32 → Int32 → Int32 → Int32 → Int32 → Int32 → Mm → Option (Int32 × Mm)) (x1 x2 x3 x4 x5 x6 x7 : Int32) (s : Nat) (g : Mm) : Option (Int32 × Mm) := if nI s = x2 then m_X10_finds_155 K fuL x1 x2 x3 x4 x5 x6 x7 1 0 g else m_X10_finds_155 K fuL x1 x2 x3 x4 x5 x6 x7 0 0 g
theorem fn73 {nb nh hd : Nat} {mo : Nat → Nat} {h : Nat} (hh : h < 24) (K : Int32 → Int32 → Int32 → Int32 → Int32 → Int32 → Int32 → Mm → Option (Int32 × Mm)) (x2 x3 x4 x5 x6 x7 : Int32) : ∀ (k fu left s : Nat) (g : Mm), k ≤ nb → k < fu → left < 2 ^ 31 → sr_ nb nh hd mo g →
    ∃ g', fr_ (c44r h) g g' ∧ (∀ j, j < k → rdI g' 44 (6 * h + j) = nI (rdig mo k left j)) ∧ (∀ j, k ≤ j → rdI g' 44 (6 * h + j) = rdI g 44 (6 * h + j)) ∧ m_X10_finds_73 K fu (nI h) x2 x3 x4 x5 x6 x7 (nI left) (nI s) (ii_ k) g = fnE K (nI h) x2 x3 x4 x5 x6 x7 (s + sm (rdig mo k left) k) g' := by
  intro k
  induction k with
  | zero =>
    intro fu left s g h1 h2 h3 hs
    obtain ⟨fu, rfl⟩ : ∃ f, fu = f + 1 := ⟨fu - 1, by omega⟩
    refine ⟨g, fr_.rf, fun j hj => absurd hj (Nat.not_lt_zero _), fun j _ => rfl, ?_⟩
    rw [m_X10_finds_73, if_pos (show ii_ 0 < (0 : Int32) by decide)]
    rfl
  | succ k ih =>
    intro fu left s g h1 h2 h3 hs
    obtain ⟨fu, rfl⟩ : ∃ f, fu = f + 1 := ⟨fu - 1, by omega⟩
    have hk := hs.1.2.1
    obtain ⟨m1, m2⟩ := hs.2.2 k (by omega)
    have hm := Nat.mod_lt left (show 0 < mo k + 1 by omega)
    have hdv := Nat.div_le_self left (mo k + 1)
    have f1 : fr_ (c44r h) g (wrI g 44 (6 * h + k) (nI (left % (mo k + 1)))) := fr_.rf.w _ (decide_eq_true ⟨rfl, by omega, by omega⟩)
    obtain ⟨g', e1, e2, e3, e4⟩ := ih fu (left / (mo k + 1)) (s + left % (mo k + 1)) _ (by omega) (by omega) (by omega) (hs.fr f1 (decide_eq_false (by omega)) (decide_eq_false (by omega)) (decide_eq_false (by omega)) (fun _ => decide_eq_false (by omega)))
    refine ⟨g', f1.tr e1, fun j hj => ?_, fun j hj => ?_, ?_⟩
    · rw [rdig]
      by_cases q : j = k
      · rw [if_pos q, e3 j (by omega), rI_wI, if_pos ⟨rfl, by omega⟩]
      · rw [if_neg q, e2 j (by omega)]
    · rw [e3 j (by omega), rI_wI, if_neg (by omega)]
    · have d0 : decide (¬ nI (mo k + 1) = (0 : Int32)) = true := decide_eq_true (fun w => by have := (nI_eq (b := 0) (by omega) (by omega)).mp w; omega)
      have ix : (6 : Int32) * nI h + nI k = nI (6 * h + k) := by rw [show (6 : Int32) = nI 6 from rfl, pk_mul, nI_add]
      have r41 : rdI (wrI g 44 (6 * h + k) (nI (left % (mo k + 1)))) 41 k = nI (mo k) := by rw [rI_wI, if_neg (by omega)]; exact m1
      have r54 : rdI (wrI g 44 (6 * h + k) (nI (left % (mo k + 1)))) 44 (6 * h + k) = nI (left % (mo k + 1)) := by rw [rI_wI, if_pos ⟨rfl, rfl⟩]
      rw [rdig_sum, ← Nat.add_assoc, ← e4, m_X10_finds_73, if_neg (show ¬ ii_ (k + 1) < (0 : Int32) from fun w => by have := (ii_0 (by omega)).mp w; omega), ii_p, show ii_ (k + 1) = nI k from rfl, ix, ix_nI (n := 6) (by omega) (by omega), gdd_true, ix_nI (n := 144) (by omega) (by omega), nI_clamp (n := k) (by omega), nI_clamp (n := 6 * h + k) (by omega), m1, nI_1, d0, gdd_true, gdd_true, gdd_true, rm_nI h3 (by omega) (by omega), r54]
      dsimp only [lti]
      rw [gdd_true, r41, nI_1, d0, gdd_true, pk_div h3 (by omega) (by omega), nI_add]
theorem fn155 {nb nh hd : Nat} {mo : Nat → Nat} {M : Nat → Nat → Bool} {g : Mm} (hs : sr_ nb nh hd mo g) (hM : mxv 45 M g) {h : Nat} (hh : h < 24) {R : Nat → Nat → Nat} {r : Nat → Nat} (hR : ∀ a b, a < h → b < nb → rdI g 44 (6 * a + b) = nI (R a b) ∧ R a b < 1000) (hr : ∀ b, b < nb → rdI g 44 (6 * h + b) = nI (r b) ∧ r b < 1000)
    (K : Int32 → Int32 → Int32 → Int32 → Int32 → Int32 → Int32 → Mm → Option (Int32 × Mm)) (x2 x6 : Int32) (c : Nat) {w : Nat} (hw : w < 100) (f : Bool) : ∀ (fu i : Nat), h < i + fu → i ≤ h →
    m_X10_finds_155 K fu (nI h) x2 (nI h) 0 (nI w) x6 (nI c) (bz (f && alN (chk nb w M R r h) i)) (nI i) g = if (f && alN (chk nb w M R r h) h) = true then some (1, g) else K (nI h) x2 (nI h) 0 (nI w) x6 (nI (c + 1)) g := by
  obtain ⟨⟨a1, a2, a3, a4, a5⟩, ⟨t1, t2, t3⟩, t4⟩ := hs
  have fin : ∀ b : Bool, m_X10_finds_209 K (nI h) x2 (nI h) 0 (nI w) x6 (nI c) (bz b) g = if b = true then some (1, g) else K (nI h) x2 (nI h) 0 (nI w) x6 (nI (c + 1)) g := by
    intro b
    rw [m_X10_finds_209, nI_1]
    cases b
    · rw [if_pos (show bz false = 0 from rfl), if_neg (by decide)]
    · rw [if_neg (show ¬ bz true = 0 by decide), if_pos rfl]
  intro fu
  induction fu with
  | zero => intro i h1 h2; omega
  | succ fu ih =>
    intro i h1 h2
    rw [m_X10_finds_155]
    by_cases q : i = h
    · subst q
      rw [if_pos (by rw [nI_leI (by omega) (by omega)]; omega)]
      exact fin _
    · rw [if_neg (by rw [nI_leI (by omega) (by omega)]; omega)]
      cases hf : (f && alN (chk nb w M R r h) i) with
      | false =>
        rw [if_pos (show bz false = 0 from rfl), fin]
        have : (f && alN (chk nb w M R r h) h) = false := by
          rw [Bool.and_eq_false_iff] at hf ⊢
          rcases hf with hf | hf
          · exact Or.inl hf
          · exact Or.inr (alN_le hf h2)
        rw [this]
      | true =>
        have e := ih (i + 1) (by omega) (by omega)
        rw [alN, ← Bool.and_assoc, hf, Bool.true_and, chk] at e
        rw [if_neg (show ¬ bz true = 0 by decide), if_pos rfl, mix_m hM (by omega) hh, bdd_some, nI_1]
        cases hm : M i h with
        | true =>
          rw [hm, Bool.true_or] at e
          rw [if_neg (show ¬ bz true = 0 by decide)]
          exact e
        | false =>
          rw [hm, Bool.false_or] at e
          have hlt := bm_lt (fun b => decide (¬ R i b = r b)) nb
          have h64 := pow6 (nb := nb) (by omega)
          have hc := cnt_le (fun b => decide (¬ R i b = r b)) nb
          rw [if_pos (show bz false = 0 from rfl), m_X10_finds_181, dif_m (by omega) t1 (show i < 24 by omega) hh (fun b hb => hR i b (by omega) hb) hr, bdd_some, bitsOf_nI (by omega), bdd_some, pc_bm nb (by omega), nI_1]
          by_cases y : w ≤ cnt_ (fun b => decide (¬ R i b = r b)) nb
          · rw [decide_eq_true y] at e
            rw [if_neg (by rw [nI_ltI (by omega) (by omega)]; omega)]
            exact e
          · rw [decide_eq_false y] at e
            rw [if_pos (by rw [nI_ltI (by omega) (by omega)]; omega)]
            exact e
/-- the row of number c at hour h, as P asks -/
def pm_ (nb w : Nat) (mo : Nat → Nat) (M : Nat → Nat → Bool) (R : Nat → Nat → Nat) (h n c : Nat) : Bool := decide (sm (rdig mo nb c) nb = n) && alN (chk nb w M R (rdig mo nb c) h) h
theorem fn51 {nb nh hd : Nat} {mo : Nat → Nat} {M : Nat → Nat → Bool} {h n w : Nat} (hh : h < 24) (hn : n < 100) (hw : w < 100) {R : Nat → Nat → Nat} : ∀ (fu c : Nat) (g : Mm), pw_ mo nb < c + fu → c ≤ pw_ mo nb → sr_ nb nh hd mo g → mxv 45 M g → (∀ a b, a < h → b < nb → rdI g 44 (6 * a + b) = nI (R a b) ∧ R a b < 1000) → (∀ c', c' < c → pm_ nb w mo M R h n c' = false) →
    ∃ g', fr_ (c44r h) g g' ∧ ((∃ c2, c2 < pw_ mo nb ∧ m_X10_finds_51 fu (nI h) (nI n) (nI h) 0 (nI w) (nI (pw_ mo nb)) (nI c) g = some (1, g') ∧ pm_ nb w mo M R h n c2 = true ∧ (∀ c', c' < c2 → pm_ nb w mo M R h n c' = false) ∧ ∀ b, b < nb → rdI g' 44 (6 * h + b) = nI (rdig mo nb c2 b)) ∨
      (m_X10_finds_51 fu (nI h) (nI n) (nI h) 0 (nI w) (nI (pw_ mo nb)) (nI c) g = some (0, g') ∧ ∀ c', c' < pw_ mo nb → pm_ nb w mo M R h n c' = false)) := by
  intro fu
  induction fu with
  | zero => intro c g h1 h2; omega
  | succ fu ih =>
    intro c g h1 h2 hs hM hR hno
    have hpw := pw_sr hs (Nat.le_refl nb)
    have a1 := hs.1.1
    have a2 := hs.1.2.1
    rw [m_X10_finds_51]
    by_cases q : c = pw_ mo nb
    · exact ⟨g, fr_.rf, Or.inr ⟨by rw [if_pos (by rw [nI_leI (by omega) (by omega)]; omega)], fun c' hc => hno c' (by omega)⟩⟩
    · obtain ⟨F, eF, hF⟩ := fu_get
      obtain ⟨g1, f1, e2, e3, e4⟩ := fn73 (nb := nb) (nh := nh) (hd := hd) (mo := mo) hh (m_X10_finds_51 fu) (nI n) (nI h) 0 (nI w) (nI (pw_ mo nb)) (nI c) nb F c 0 g (Nat.le_refl _) (by omega) (by omega) hs
      have hs1 := hs.fr f1 (decide_eq_false (by omega)) (decide_eq_false (by omega)) (decide_eq_false (by omega)) (fun _ => decide_eq_false (by omega))
      have hM1 := hM.fr f1 (fun _ => decide_eq_false (by omega))
      have hR1 : ∀ a b, a < h → b < nb → rdI g1 44 (6 * a + b) = nI (R a b) ∧ R a b < 1000 := fun a b k1 k2 => by rw [f1.1 44 _ (decide_eq_false (by omega))]; exact hR a b k1 k2
      have hr1 : ∀ b, b < nb → rdI g1 44 (6 * h + b) = nI (rdig mo nb c b) ∧ rdig mo nb c b < 1000 := fun b hb => ⟨e2 b hb, by have := rdig_le (mo := mo) nb c b hb; have := (hs.2.2 b hb).2; omega⟩
      have hsum : sm (rdig mo nb c) nb ≤ 45 := by
        have h5 := sm_le (f := rdig mo nb c) (n := nb) (M := 15) (fun b hb => Nat.le_trans (rdig_le nb c b hb) (hs.2.2 b hb).2)
        omega
      rw [if_neg (by rw [nI_leI (by omega) (by omega)]; omega), hs.2.1.1, ii_last a1, eF]
      rw [show m_X10_finds_73 (m_X10_finds_51 fu) F (nI h) (nI n) (nI h) 0 (nI w) (nI (pw_ mo nb)) (nI c) (nI c) 0 (ii_ nb) g = _ from e4, Nat.zero_add]
      have e155 : fnE (m_X10_finds_51 fu) (nI h) (nI n) (nI h) 0 (nI w) (nI (pw_ mo nb)) (nI c) (sm (rdig mo nb c) nb) g1 = if pm_ nb w mo M R h n c = true then some (1, g1) else m_X10_finds_51 fu (nI h) (nI n) (nI h) 0 (nI w) (nI (pw_ mo nb)) (nI (c + 1)) g1 := by
        rw [fnE, eF, pm_]
        by_cases z : sm (rdig mo nb c) nb = n
        · have e := fn155 hs1 hM1 hh hR1 hr1 (m_X10_finds_51 fu) (nI n) (nI (pw_ mo nb)) c hw true F 0 (by omega) (Nat.zero_le _)
          rw [if_pos (by rw [z]), decide_eq_true z]
          exact e
        · have e := fn155 hs1 hM1 hh hR1 hr1 (m_X10_finds_51 fu) (nI n) (nI (pw_ mo nb)) c hw false F 0 (by omega) (Nat.zero_le _)
          rw [if_neg (fun y => by exact z ((nI_eq (by omega) (by omega)).mp y)), decide_eq_false z]
          exact e
      rw [e155]
      cases hp : pm_ nb w mo M R h n c with
      | true => exact ⟨g1, f1, Or.inl ⟨c, by omega, by rw [if_pos rfl], hp, hno, e2⟩⟩
      | false =>
        rw [if_neg (by decide)]
        obtain ⟨g', y1, y2⟩ := ih (c + 1) g1 (by omega) (by omega) hs1 hM1 hR1 (fun c' hc => by
          by_cases e : c' = c
          · rw [e]; exact hp
          · exact hno c' (by omega))
        exact ⟨g', f1.tr y1, y2⟩
theorem finds_m {nb nh hd : Nat} {mo : Nat → Nat} {M : Nat → Nat → Bool} {h n : Nat} {g : Mm} (hs : sr_ nb nh hd mo g) (hM : mxv 45 M g) (hh : h < 24) (hn : n < 100) {R : Nat → Nat → Nat} (hR : ∀ a b, a < h → b < nb → rdI g 44 (6 * a + b) = nI (R a b) ∧ R a b < 1000) :
    ∃ g', fr_ (c44r h) g g' ∧ ((∃ c2, c2 < pw_ mo nb ∧ m_X10_finds (nI h) (nI n) (nI h) 0 g = some (1, g') ∧ pm_ nb (nb - min hd nb + 1) mo M R h n c2 = true ∧ (∀ c', c' < c2 → pm_ nb (nb - min hd nb + 1) mo M R h n c' = false) ∧ ∀ b, b < nb → rdI g' 44 (6 * h + b) = nI (rdig mo nb c2 b)) ∨
      (m_X10_finds (nI h) (nI n) (nI h) 0 g = some (0, g') ∧ ∀ c', c' < pw_ mo nb → pm_ nb (nb - min hd nb + 1) mo M R h n c' = false)) := by
  obtain ⟨⟨a1, a2, a3, a4, a5⟩, ⟨t1, t2, t3⟩, t4⟩ := id hs
  have hpw := pw_sr hs (Nat.le_refl nb)
  obtain ⟨F, eF, hF⟩ := fu_get
  have x19 : m_X10_finds (nI h) (nI n) (nI h) 0 g = m_X10_finds_51 fuL (nI h) (nI n) (nI h) 0 (nI (nb - min hd nb + 1)) (nI (pw_ mo nb)) 0 g := by
    have key : ∀ (fu i : Nat), nb < i + fu → i ≤ nb → m_X10_finds_19 fu (nI h) (nI n) (nI h) 0 (nI (nb - min hd nb + 1)) (nI (pw_ mo i)) (nI i) g = m_X10_finds_51 fuL (nI h) (nI n) (nI h) 0 (nI (nb - min hd nb + 1)) (nI (pw_ mo nb)) 0 g := by
      intro fu
      induction fu with
      | zero => intro i h1 h2; omega
      | succ fu ih =>
        intro i h1 h2
        rw [m_X10_finds_19, t1]
        by_cases q : i = nb
        · subst q
          rw [if_pos (by rw [nI_leI (by omega) (by omega)]; omega)]
        · have e := ih (i + 1) (by omega) (by omega)
          rw [pw_] at e
          rw [if_neg (by rw [nI_leI (by omega) (by omega)]; omega), ix_nI (by omega) (by omega), gdd_true, nI_clamp (by omega), (t4 i (by omega)).1, nI_1, pk_mul, nI_1]
          exact e
    rw [m_X10_finds, heard_m t1 t3 (by omega) a5, bdd_some, t1, pk_sub (Nat.min_le_right _ _), nI_1, eF]
    exact (key F 0 (by omega) (by omega)).trans (by rw [eF])
  rw [x19, eF]
  exact fn51 (nh := nh) (hd := hd) hh hn (show nb - min hd nb + 1 < 100 by omega) F 0 g (by omega) (Nat.zero_le _) hs hM hR (fun c' hc => absurd hc (Nat.not_lt_zero _))
