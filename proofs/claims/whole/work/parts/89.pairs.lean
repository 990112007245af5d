/-! pairs of hours -/
def rjk (i : Nat) : Nat → Nat → List (Nat × Nat)
  | _, 0 => []
  | j, k + 1 => (i, j) :: rjk i (j + 1) k
def rj (n i j : Nat) : List (Nat × Nat) := rjk i j (n - j)
def rik (n : Nat) : Nat → Nat → List (Nat × Nat)
  | _, 0 => []
  | i, k + 1 => rj n i (i + 1) ++ rik n (i + 1) k
def ri (n i : Nat) : List (Nat × Nat) := rik n i (n - i)
theorem rj_end {n i j : Nat} (h : n ≤ j) : rj n i j = [] := by rw [rj, show n - j = 0 by omega]; rfl
theorem rj_next {n i j : Nat} (h : j < n) : rj n i j = (i, j) :: rj n i (j + 1) := by rw [rj, show n - j = (n - (j + 1)) + 1 by omega]; rfl
theorem ri_end {n i : Nat} (h : n ≤ i) : ri n i = [] := by rw [ri, show n - i = 0 by omega]; rfl
theorem ri_next {n i : Nat} (h : i < n) : ri n i = rj n i (i + 1) ++ ri n (i + 1) := by rw [ri, show n - i = (n - (i + 1)) + 1 by omega]; rfl
theorem rj_mem {n i : Nat} (a b : Nat) : ∀ (k j : Nat), (a, b) ∈ rjk i j k ↔ a = i ∧ j ≤ b ∧ b < j + k := by
  intro k
  induction k with
  | zero =>
    intro j
    rw [rjk]
    constructor
    · intro h; cases h
    · intro h; omega
  | succ k ih =>
    intro j
    rw [rjk, List.mem_cons, ih, Prod.mk.injEq]
    omega
theorem ri_mem {n : Nat} (a b : Nat) : ∀ (k i : Nat), i + k = n → ((a, b) ∈ rik n i k ↔ i ≤ a ∧ a < b ∧ b < n) := by
  intro k
  induction k with
  | zero =>
    intro i h
    rw [rik]
    constructor
    · intro h; cases h
    · intro h; omega
  | succ k ih =>
    intro i h
    rw [rik, List.mem_append, ih (i + 1) (by omega), rj, rj_mem (n := n)]
    omega
theorem pair_mem {n a b : Nat} : (a, b) ∈ ri n 0 ↔ a < b ∧ b < n := by
  rw [ri, ri_mem a b (n - 0) 0 (by omega)]
  omega
theorem pair_len : ∀ n, n < 25 → (ri n 0).length ≤ 276 := by decide +kernel
/-- the tower seen: the table T, what is mixed M -/
def sv (nb nh hd : Nat) (T : Nat → Nat → Nat) (M : Nat → Nat → Bool) (g : Mm) : Prop :=
  gv_t nb nh hd g ∧ gv_x nh g ∧ (∀ h b, h < 24 → b < 6 → tv g h b = T h b) ∧ ∀ i j, i < 24 → j < 24 → mx_ g i j = M i j
theorem sv.cong {nb nh hd : Nat} {T : Nat → Nat → Nat} {M : Nat → Nat → Bool} {g g' : Mm} (h : sv nb nh hd T M g) (e : kp_ (fun c i => pl_t c i || pl_x c i) g g') : sv nb nh hd T M g' := by
  obtain ⟨h1, h2, h3, h4⟩ := h
  refine ⟨h1.cong (fun c i q => e c i (by show (pl_t c i || pl_x c i) = true; rw [q]; rfl)), h2.cong (fun c i q => e c i (by show (pl_t c i || pl_x c i) = true; rw [q, Bool.or_true])), fun a b ha hb => ?_, fun i j hi hj => ?_⟩
  · rw [← h3 a b ha hb, tv, tv, e 5 _ rfl]
  · rw [← h4 i j hi hj, mx_, mx_, e 6 _ rfl]
theorem sv.self {nb nh hd : Nat} {g : Mm} (hT : gv_t nb nh hd g) (hX : gv_x nh g) : sv nb nh hd (tv g) (mx_ g) g := ⟨hT, hX, fun _ _ _ _ => rfl, fun _ _ _ _ => rfl⟩
theorem sv.t {nb nh hd : Nat} {T : Nat → Nat → Nat} {M : Nat → Nat → Bool} {g : Mm} (h : sv nb nh hd T M g) {a b : Nat} (ha : a < 24) (hb : b < 6) : rdI g 5 (6 * a + b) = nI (T a b) ∧ rdI g 44 (6 * a + b) = nI (T a b) ∧ T a b ≤ 15 := by
  have := tv_get h.1 ha hb
  rw [h.2.2.1 a b ha hb] at this
  exact this
theorem sv.mc {nb nh hd : Nat} {T : Nat → Nat → Nat} {M : Nat → Nat → Bool} {g : Mm} (h : sv nb nh hd T M g) {a b : Nat} (ha : a < 24) (hb : b < 24) : m_X8_areMixed (nI a) (nI b) g = some (bz (M a b), g) := by
  rw [m8_areMixed h.2.1 ha hb h.1.1.2.2.1, h.2.2.2 a b ha hb]
theorem sv.mm {nb nh hd : Nat} {T : Nat → Nat → Nat} {M : Nat → Nat → Bool} {g : Mm} (h : sv nb nh hd T M g) {a b : Nat} (ha : a < 24) (hb : b < 24) : m_X10_areMixed (nI a) (nI b) g = some (bz (M a b), g) := by
  obtain ⟨x1, x2, x3⟩ := h.2.1
  obtain ⟨m, hm, em, -⟩ := x2 a ha
  have hm24 := nI_lt2 hm h.1.1.2.2.1
  rw [m_X10_areMixed, ix_nI ha (by omega), gdd_true, nI_clamp (by omega), x1 a ha, em, bit_nI (by omega) (by omega), ← h.2.2.2 a b ha hb, mx_, em, nI_clamp (by omega)]
  cases m.testBit b <;> rfl
/-- in which bells two hours differ -/
def Dm (T : Nat → Nat → Nat) (nb i j : Nat) : Nat := bm (fun b => decide (¬ T i b = T j b)) nb
theorem Dm_lt (T : Nat → Nat → Nat) {nb : Nat} (h : nb ≤ 6) (i j : Nat) : Dm T nb i j < 64 := Nat.lt_of_lt_of_le (bm_lt _ _) (Nat.pow_le_pow_right (by decide) h)
theorem Dm_sym (T : Nat → Nat → Nat) (nb i j : Nat) : Dm T nb i j = Dm T nb j i := bm_congr (fun b _ => by
  rw [Bool.eq_iff_iff, decide_eq_true_eq, decide_eq_true_eq]
  exact ⟨fun h z => h z.symm, fun h z => h z.symm⟩)
theorem sv.dc {nb nh hd : Nat} {T : Nat → Nat → Nat} {M : Nat → Nat → Bool} {g : Mm} (h : sv nb nh hd T M g) {a b : Nat} (ha : a < 24) (hb : b < 24) : m_X8_bellsUnlike (nI a) (nI b) g = some (nI (Dm T nb a b), g) := by
  obtain ⟨⟨b1, b2, b3, b4, b5⟩, ⟨t1, t2, t3, t4, t5, t6⟩, -⟩ := id h.1
  have key : ∀ (fu i : Nat), nb < i + fu → i ≤ nb → m_X8_bellsUnlike_5 fu (nI a) (nI b) (nI (Dm T i a b)) (nI i) g = some (nI (Dm T nb a b), g) := by
    intro fu
    induction fu with
    | zero => intro i h1 h2; omega
    | succ fu ih =>
      intro i h1 h2
      rw [m_X8_bellsUnlike_5, t1]
      by_cases q : i = nb
      · subst q
        rw [if_pos (by rw [nI_leI (by omega) (by omega)]; omega)]
      · have e := ih (i + 1) (by omega) (by omega)
        obtain ⟨e1, -, e3⟩ := h.t ha (show i < 6 by omega)
        obtain ⟨f1, -, f3⟩ := h.t hb (show i < 6 by omega)
        rw [if_neg (by rw [nI_leI (by omega) (by omega)]; omega), m8_struck ha (by omega), bdd_some, m8_struck hb (by omega), bdd_some, e1, f1, nI_1]
        by_cases z : T a i = T b i
        · rw [if_pos (by rw [z])]
          rw [show Dm T i a b = bm (fun k => decide (¬ T a k = T b k)) i from rfl, bm_f' (p := fun k => decide (¬ T a k = T b k)) (decide_eq_false (fun y => y z))]
          exact e
        · rw [if_neg (fun y => z ((nI_eq (by omega) (by omega)).mp y))]
          rw [show Dm T i a b = bm (fun k => decide (¬ T a k = T b k)) i from rfl, bm_t (p := fun k => decide (¬ T a k = T b k)) (by omega) (decide_eq_true z)]
          exact e
  obtain ⟨F, eF, hF⟩ := fu_get
  rw [m_X8_bellsUnlike, eF]
  exact key F 0 (by omega) (by omega)
theorem sv.dm {nb nh hd : Nat} {T : Nat → Nat → Nat} {M : Nat → Nat → Bool} {g : Mm} (h : sv nb nh hd T M g) {a b : Nat} (ha : a < 24) (hb : b < 24) : m_X10_differ (nI a) (nI b) g = some (nI (Dm T nb a b), g) := by
  obtain ⟨⟨b1, b2, b3, b4, b5⟩, ⟨t1, t2, t3, t4, t5, t6⟩, -⟩ := id h.1
  have key : ∀ (fu i : Nat), nb < i + fu → i ≤ nb → m_X10_differ_5 fu (nI a) (nI b) (nI (Dm T i a b)) (nI i) g = some (nI (Dm T nb a b), g) := by
    intro fu
    induction fu with
    | zero => intro i h1 h2; omega
    | succ fu ih =>
      intro i h1 h2
      rw [m_X10_differ_5, t4]
      by_cases q : i = nb
      · subst q
        rw [if_pos (by rw [nI_leI (by omega) (by omega)]; omega)]
      · have e := ih (i + 1) (by omega) (by omega)
        obtain ⟨-, e1, e3⟩ := h.t ha (show i < 6 by omega)
        obtain ⟨-, f1, f3⟩ := h.t hb (show i < 6 by omega)
        have i1 : (6 : Int32) * nI a + nI i = nI (6 * a + i) := by rw [show (6 : Int32) = nI 6 from rfl, pk_mul, nI_add]
        have i2 : (6 : Int32) * nI b + nI i = nI (6 * b + i) := by rw [show (6 : Int32) = nI 6 from rfl, pk_mul, nI_add]
        rw [if_neg (by rw [nI_leI (by omega) (by omega)]; omega), i1, i2, ix_nI (by omega) (by omega), gdd_true, ix_nI (by omega) (by omega), gdd_true, nI_clamp (by omega), nI_clamp (by omega), e1, f1, nI_1]
        by_cases z : T a i = T b i
        · rw [if_pos (by rw [z])]
          rw [show Dm T i a b = bm (fun k => decide (¬ T a k = T b k)) i from rfl, bm_f (p := fun k => decide (¬ T a k = T b k)) (by omega) (decide_eq_false (fun y => y z))]
          exact e
        · rw [if_neg (fun y => z ((nI_eq (by omega) (by omega)).mp y))]
          rw [show Dm T i a b = bm (fun k => decide (¬ T a k = T b k)) i from rfl, bm_t (p := fun k => decide (¬ T a k = T b k)) (by omega) (decide_eq_true z)]
          exact e
  obtain ⟨F, eF, hF⟩ := fu_get
  rw [m_X10_differ, eF]
  exact key F 0 (by omega) (by omega)
/-! the class's list of pairs -/
def mk_ (T : Nat → Nat → Nat) (M : Nat → Nat → Bool) (nb : Nat) (P : List (Nat × Nat)) : List Nat := (P.filter (fun p => !M p.1 p.2)).map (fun p => Dm T nb p.1 p.2)
theorem mk_app {T : Nat → Nat → Nat} {M : Nat → Nat → Bool} {nb : Nat} (P Q : List (Nat × Nat)) : mk_ T M nb (P ++ Q) = mk_ T M nb P ++ mk_ T M nb Q := by
  unfold mk_
  rw [List.filter_append, List.map_append]
theorem mk_len {T : Nat → Nat → Nat} {M : Nat → Nat → Bool} {nb : Nat} (P : List (Nat × Nat)) : (mk_ T M nb P).length ≤ P.length := by
  unfold mk_
  rw [List.length_map]
  exact List.length_filter_le _ _
theorem mk_mem {T : Nat → Nat → Nat} {M : Nat → Nat → Bool} {nb : Nat} {P : List (Nat × Nat)} (m : Nat) : m ∈ mk_ T M nb P ↔ ∃ a b, (a, b) ∈ P ∧ M a b = false ∧ m = Dm T nb a b := by
  unfold mk_
  simp only [List.mem_map, List.mem_filter, Prod.exists, Bool.not_eq_true']
  constructor
  · rintro ⟨a, b, ⟨h1, h2⟩, h3⟩
    exact ⟨a, b, h1, h2, h3.symm⟩
  · rintro ⟨a, b, h1, h2, h3⟩
    exact ⟨a, b, ⟨h1, h2⟩, h3.symm⟩
def pk_ (L : List Nat) (g : Mm) : Prop := rdI g 23 2 = nI L.length ∧ ∀ k, k < L.length → rdI g 24 k = nI (L.getD k 0)
theorem pk_push {L : List Nat} {g : Mm} (h : pk_ L g) (m : Nat) : pk_ (L ++ [m]) (wrI (wrI g 24 L.length (nI m)) 23 2 (nI (L.length + 1))) := by
  refine ⟨?_, fun k hk => ?_⟩
  · rw [rI_wI, if_pos ⟨rfl, rfl⟩, List.length_append]
    rfl
  · rw [rI_wI, if_neg (by omega), rI_wI]
    rw [List.length_append, List.length_singleton] at hk
    by_cases q : k = L.length
    · rw [if_pos ⟨rfl, q⟩, q]
      simp [List.getD]
    · rw [if_neg (fun z => q z.2), h.2 k (by omega)]
      congr 1
      simp [List.getD, List.getElem?_append_left (show k < L.length by omega)]
theorem takePair_c {nb nh hd : Nat} {T : Nat → Nat → Nat} {M : Nat → Nat → Bool} {g : Mm} (h : sv nb nh hd T M g) {L : List Nat} (hp : pk_ L g) (hl : L.length < 276) {i j : Nat} (hi : i < 24) (hj : j < 24) (hne : i ≠ j) :
    ∃ g', m_X7_takePair (nI i) (nI j) g = some (nI 0, g') ∧ pk_ (L ++ mk_ T M nb [(i, j)]) g' ∧ (∀ c k, c ≠ 23 → c ≠ 24 → rdI g' c k = rdI g c k) ∧ g'.2 = g.2 := by
  rw [m_X7_takePair, if_neg (fun z => hne ((nI_eq (by omega) (by omega)).mp z)), h.mc hi hj, bdd_some]
  cases q : M i j with
  | true =>
    refine ⟨g, ?_, ?_, fun _ _ _ _ => rfl, rfl⟩
    · rw [if_neg (show ¬ bz true = 0 by decide)]
      rfl
    · have e : mk_ T M nb [(i, j)] = [] := by simp [mk_, q]
      rw [e, List.append_nil]
      exact hp
  | false =>
    refine ⟨wrI (wrI g 24 L.length (nI (Dm T nb i j))) 23 2 (nI (L.length + 1)), ?_, ?_, fun c k q1 q2 => ?_, rfl⟩
    · rw [if_pos (show bz false = 0 from rfl), hp.1, if_neg (show ¬ (276 : Int32) ≤ nI L.length from fun z => by have := (nI_leI (a := 276) (b := L.length) (by omega) (by omega)).mp z; omega), h.dc hi hj, bdd_some, ix_nI hl (by omega), gdd_true, nI_clamp (by omega), rI_wI, if_neg (by omega), hp.1, nI_1]
      rfl
    · have e : mk_ T M nb [(i, j)] = [Dm T nb i j] := by simp [mk_, q]
      rw [e]
      exact pk_push hp _
    · rw [rI_wI, if_neg (by omega), rI_wI, if_neg (by omega)]
theorem kp_23 {g g' : Mm} (h : ∀ c k, c ≠ 23 → c ≠ 24 → rdI g' c k = rdI g c k) : kp_ (fun c i => pl_t c i || pl_x c i) g g' := fun c i hc => h c i (by rintro rfl; cases hc) (by rintro rfl; cases hc)
theorem pairs_j {nb nh hd : Nat} {T : Nat → Nat → Nat} {M : Nat → Nat → Bool} (K : Int32 → Mm → Option (Int32 × Mm)) (hh : nh ≤ 24) {i : Nat} (hi : i < nh) : ∀ (fu j : Nat) (g : Mm) (L : List Nat), nh < j + fu → i < j → j ≤ nh → sv nb nh hd T M g → pk_ L g → L.length + (rj nh i j).length ≤ 276 →
    ∃ g', m_X7_takeAllPairs_22 K fu (nI i) (nI j) g = K (nI (i + 1)) g' ∧ pk_ (L ++ mk_ T M nb (rj nh i j)) g' ∧ (∀ c k, c ≠ 23 → c ≠ 24 → rdI g' c k = rdI g c k) ∧ g'.2 = g.2 := by
  intro fu
  induction fu with
  | zero => intro j g L h1 h0 h2; omega
  | succ fu ih =>
    intro j g L h1 h0 h2 hs hp hl
    rw [m_X7_takeAllPairs_22, hs.1.2.1.2.1]
    by_cases q : j = nh
    · subst q
      refine ⟨g, ?_, ?_, fun _ _ _ _ => rfl, rfl⟩
      · rw [if_pos (by rw [nI_leI (by omega) (by omega)]; omega), nI_1]
      · rw [rj_end (Nat.le_refl _), show mk_ T M nb [] = [] from rfl, List.append_nil]
        exact hp
    · rw [rj_next (by omega)] at hl ⊢
      rw [List.length_cons] at hl
      obtain ⟨g1, a1, a2, a3, a4⟩ := takePair_c hs hp (by omega) (show i < 24 by omega) (show j < 24 by omega) (by omega)
      have hl1 : (L ++ mk_ T M nb [(i, j)]).length ≤ L.length + 1 := by
        rw [List.length_append]
        have := mk_len (T := T) (M := M) (nb := nb) [(i, j)]
        simp only [List.length_cons, List.length_nil] at this
        omega
      obtain ⟨g2, c1, c2, c3, c4⟩ := ih (j + 1) g1 (L ++ mk_ T M nb [(i, j)]) (by omega) (by omega) (by omega) (hs.cong (kp_23 a3)) a2 (by omega)
      refine ⟨g2, ?_, ?_, fun c k q1 q2 => by rw [c3 c k q1 q2, a3 c k q1 q2], c4.trans a4⟩
      · rw [if_neg (by rw [nI_leI (by omega) (by omega)]; omega), a1, bdd_some, nI_1]
        exact c1
      · rw [show (i, j) :: rj nh i (j + 1) = [(i, j)] ++ rj nh i (j + 1) from rfl, mk_app, ← List.append_assoc]
        exact c2
theorem pairs_i {nb nh hd : Nat} {T : Nat → Nat → Nat} {M : Nat → Nat → Bool} (hh : nh ≤ 24) : ∀ (fu i : Nat) (g : Mm) (L : List Nat), nh < i + fu → i ≤ nh → sv nb nh hd T M g → pk_ L g → L.length + (ri nh i).length ≤ 276 →
    ∃ g', m_X7_takeAllPairs_7 fu (nI i) g = some (nI 0, g') ∧ pk_ (L ++ mk_ T M nb (ri nh i)) g' ∧ (∀ c k, c ≠ 23 → c ≠ 24 → rdI g' c k = rdI g c k) ∧ g'.2 = g.2 := by
  intro fu
  induction fu with
  | zero => intro i g L h1 h2; omega
  | succ fu ih =>
    intro i g L h1 h2 hs hp hl
    rw [m_X7_takeAllPairs_7, hs.1.2.1.2.1]
    by_cases q : i = nh
    · subst q
      refine ⟨g, ?_, ?_, fun _ _ _ _ => rfl, rfl⟩
      · rw [if_pos (by rw [nI_leI (by omega) (by omega)]; omega)]
        rfl
      · rw [ri_end (Nat.le_refl _), show mk_ T M nb [] = [] from rfl, List.append_nil]
        exact hp
    · rw [ri_next (by omega)] at hl ⊢
      rw [List.length_append] at hl
      obtain ⟨F, eF, hF⟩ := fu_get
      obtain ⟨g1, a1, a2, a3, a4⟩ := pairs_j (m_X7_takeAllPairs_7 fu) hh (show i < nh by omega) F (i + 1) g L (by omega) (by omega) (by omega) hs hp (by omega)
      have hl1 : (L ++ mk_ T M nb (rj nh i (i + 1))).length ≤ L.length + (rj nh i (i + 1)).length := by
        rw [List.length_append]
        have := mk_len (T := T) (M := M) (nb := nb) (rj nh i (i + 1))
        omega
      obtain ⟨g2, c1, c2, c3, c4⟩ := ih (i + 1) g1 (L ++ mk_ T M nb (rj nh i (i + 1))) (by omega) (by omega) (hs.cong (kp_23 a3)) a2 (by omega)
      refine ⟨g2, ?_, ?_, fun c k q1 q2 => by rw [c3 c k q1 q2, a3 c k q1 q2], c4.trans a4⟩
      · rw [if_neg (by rw [nI_leI (by omega) (by omega)]; omega), nI_1, eF, a1]
        exact c1
      · rw [mk_app, ← List.append_assoc]
        exact c2
theorem all_pairs {nb nh hd : Nat} {T : Nat → Nat → Nat} {M : Nat → Nat → Bool} {g : Mm} (hs : sv nb nh hd T M g) : ∃ g', m_X7_takeAllPairs g = some (nI 0, g') ∧ pk_ (mk_ T M nb (ri nh 0)) g' ∧ (∀ c k, c ≠ 23 → c ≠ 24 → rdI g' c k = rdI g c k) ∧ g'.2 = g.2 := by
  obtain ⟨F, eF, hF⟩ := fu_get
  have hh : nh ≤ 24 := hs.1.1.2.2.1
  obtain ⟨g', e1, e2, e3, e4⟩ := pairs_i (nb := nb) (nh := nh) (hd := hd) (T := T) (M := M) hh F 0 (wrI g 23 2 0) [] (by omega) (by omega) (hs.cong (kp_w rfl kp_rf)) ⟨by rw [rI_wI, if_pos ⟨rfl, rfl⟩]; rfl, fun k hk => by simp at hk⟩ (by have := pair_len nh (by omega); simpa using this)
  refine ⟨g', ?_, e2, fun c k q1 q2 => ?_, e4⟩
  · rw [m_X7_takeAllPairs, eF]
    exact e1
  · rw [e3 c k q1 q2, rI_wI, if_neg (by omega)]
theorem and_lt64 {a b : Nat} (h : a < 64) : a &&& b < 2 ^ 24 := Nat.lt_of_le_of_lt Nat.and_le_left (by omega)
theorem adi {nb : Nat} {L : List Nat} {g : Mm} (hp : pk_ L g) (hL : ∀ m, m ∈ L → m < 64) (hl : L.length ≤ 276) {S w : Nat} (hS : S < 2 ^ 31) (hw : w < 2 ^ 31) : m_X7_allDifferIn (nI S) (nI w) g = some (bz (L.all (fun m => decide (w ≤ pc24 (m &&& S)))), g) := by
  have key : ∀ (fu i : Nat), L.length < i + fu → i ≤ L.length → m_X7_allDifferIn_2 fu (nI S) (nI w) (nI i) g = some (bz ((L.drop i).all (fun m => decide (w ≤ pc24 (m &&& S)))), g) := by
    intro fu
    induction fu with
    | zero => intro i h1 h2; omega
    | succ fu ih =>
      intro i h1 h2
      rw [m_X7_allDifferIn_2, hp.1]
      by_cases q : i = L.length
      · subst q
        rw [if_pos (by rw [nI_leI (by omega) (by omega)]; omega), List.drop_length]
        rfl
      · have e := ih (i + 1) (by omega) (by omega)
        have hi : i < L.length := by omega
        have ed : L.drop i = L.getD i 0 :: L.drop (i + 1) := by
          rw [List.drop_eq_getElem_cons hi]
          simp [List.getD, hi]
        have hm : L.getD i 0 < 64 := by
          apply hL
          simp [List.getD, hi]
        have hlt := and_lt64 (b := S) hm
        have hpc := pc24_le hlt
        rw [if_neg (by rw [nI_leI (by omega) (by omega)]; omega), ix_nI (by omega) (by omega), gdd_true, nI_clamp (by omega), hp.2 i hi, nI_and, bitCount_nI hlt, bdd_some, ed, List.all_cons, nI_1]
        by_cases z : w ≤ pc24 (L.getD i 0 &&& S)
        · rw [if_pos (by rw [nI_leI (by omega) (by omega)]; exact z), decide_eq_true z, Bool.true_and]
          exact e
        · rw [if_neg (by rw [nI_leI (by omega) (by omega)]; exact z), decide_eq_false z, Bool.false_and]
          rfl
  obtain ⟨F, eF, hF⟩ := fu_get
  rw [m_X7_allDifferIn, eF]
  exact key F 0 (by omega) (by omega)
theorem mk_lt {T : Nat → Nat → Nat} {M : Nat → Nat → Bool} {nb : Nat} (hb : nb ≤ 6) (P : List (Nat × Nat)) : ∀ m, m ∈ mk_ T M nb P → m < 64 := by
  intro m hm
  obtain ⟨a, b, -, -, rfl⟩ := (mk_mem m).mp hm
  exact Dm_lt T hb a b
