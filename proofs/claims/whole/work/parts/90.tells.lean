/-! which bells heard tell the hours -/
def nsub (X S : Nat) : Nat := X &&& (S ^^^ (2 ^ 32 - 1))
theorem nsub_iff : ∀ X, X < 64 → ∀ S, S < 64 → (nsub X S = 0 ↔ X &&& S = X) := by decide +kernel
theorem nsub_lt : ∀ X, X < 64 → ∀ S, S < 64 → nsub X S < 64 := by decide +kernel
theorem pc_le : ∀ E, E < 64 → ∀ X, X < 64 → X &&& E = X → pc24 X ≤ pc24 E := by decide +kernel
theorem pc_has : ∀ E, E < 64 → ∀ k, k < 7 → k ≤ pc24 E → ∃ X, X < 64 ∧ X &&& E = X ∧ pc24 X = k := by decide +kernel
theorem pc_add : ∀ S, S < 64 → ∀ D, D < 64 → pc24 (D &&& S) + pc24 (S &&& (63 ^^^ D)) = pc24 S := by decide +kernel
theorem pc_le6 : ∀ E, E < 64 → pc24 E ≤ 6 ∧ (pc24 E = 0 ↔ E = 0) := by decide +kernel
theorem pc_all : ∀ n, n < 7 → pc24 (2 ^ n - 1) = n := by decide +kernel
theorem sub_bits {X S D : Nat} (hX : X < 64) : (X &&& S = X ∧ D &&& X = 0) ↔ X &&& (S &&& (63 ^^^ D)) = X := by
  have h63 : ∀ j, X.testBit j = true → (63 : Nat).testBit j = true := by
    intro j hj
    rw [show (63 : Nat) = 2 ^ 6 - 1 from rfl, Nat.testBit_two_pow_sub_one]
    refine decide_eq_true ?_
    refine Nat.lt_of_not_le (fun h => ?_)
    rw [Nat.testBit_lt_two_pow (Nat.lt_of_lt_of_le hX (show 2 ^ 6 ≤ 2 ^ j from Nat.pow_le_pow_right (by decide) h))] at hj
    cases hj
  constructor
  · rintro ⟨h1, h2⟩
    refine Nat.eq_of_testBit_eq (fun j => ?_)
    have e1 := congrArg (fun n => Nat.testBit n j) h1
    have e2 := congrArg (fun n => Nat.testBit n j) h2
    simp only [Nat.testBit_and, Nat.zero_testBit] at e1 e2
    rw [Nat.testBit_and, Nat.testBit_and, Nat.testBit_xor]
    cases hx : X.testBit j with
    | false => rfl
    | true =>
      rw [hx] at e1 e2
      rw [h63 j hx]
      revert e1 e2
      cases S.testBit j <;> cases D.testBit j <;> simp
  · intro h
    have e := fun j => congrArg (fun n => Nat.testBit n j) h
    simp only [Nat.testBit_and, Nat.testBit_xor] at e
    refine ⟨Nat.eq_of_testBit_eq (fun j => ?_), Nat.eq_of_testBit_eq (fun j => ?_)⟩
    · have ej := e j
      rw [Nat.testBit_and]
      revert ej
      cases X.testBit j <;> cases S.testBit j <;> simp
    · have ej := e j
      rw [Nat.testBit_and, Nat.zero_testBit]
      cases hx : X.testBit j with
      | false => simp
      | true =>
        rw [hx, h63 j hx] at ej
        revert ej
        cases S.testBit j <;> cases D.testBit j <;> simp
/-- so many heard of S, whichever, tell two hours that differ in D -/
theorem cmb {D S k : Nat} (hD : D < 64) (hS : S < 64) (hk : k ≤ pc24 S) : (∀ X, X < 64 → nsub X S = 0 → pc24 X = k → D &&& X ≠ 0) ↔ pc24 S - k + 1 ≤ pc24 (D &&& S) := by
  have h6 := pc_le6 S hS
  have ha := pc_add S hS D hD
  have hE : S &&& (63 ^^^ D) < 64 := Nat.lt_of_le_of_lt Nat.and_le_left hS
  constructor
  · intro h
    by_cases q : k ≤ pc24 (S &&& (63 ^^^ D))
    · exfalso
      obtain ⟨X, x1, x2, x3⟩ := pc_has _ hE k (by omega) q
      obtain ⟨y1, y2⟩ := (sub_bits x1).mpr x2
      exact h X x1 ((nsub_iff X x1 S hS).mpr y1) x3 y2
    · omega
  · intro h X x1 x2 x3 x4
    have y := (sub_bits (S := S) (D := D) x1).mp ⟨(nsub_iff X x1 S hS).mp x2, x4⟩
    have := pc_le _ hE X x1 y
    omega
/-- a fault: two hours not mixed that those heard don't part -/
def flt (T : Nat → Nat → Nat) (M : Nat → Nat → Bool) (nb X : Nat) (p : Nat × Nat) : Bool := !M p.1 p.2 && decide (Dm T nb p.1 p.2 &&& X = 0)
def fw (X : Nat) (p : Nat × Nat) (g : Mm) : Mm := wrI (wrI (wrI g 40 29 (nI X)) 40 30 (nI p.1)) 40 31 (nI p.2)
def oj (o : Option (Nat × Nat)) (x : Nat × Nat → Option (Int32 × Mm)) (y : Option (Int32 × Mm)) : Option (Int32 × Mm) := match o with
  | some p => x p
  | none => y
theorem tb46 {nb nh hd : Nat} {T : Nat → Nat → Nat} {M : Nat → Nat → Bool} {g : Mm} (hs : sv nb nh hd T M g) (K : Int32 → Int32 → Int32 → Int32 → Mm → Option (Int32 × Mm)) (a b : Int32) {X i : Nat} (hX : X < 64) (hi : i < nh) : ∀ (fu j : Nat), nh < j + fu → i < j → j ≤ nh →
    m_X10_tellsBy_46 K fu a b (nI X) (nI i) (nI j) g = oj ((rj nh i j).find? (flt T M nb X)) (fun p => some (0, fw X p g)) (K a b (nI X) (nI (i + 1)) g) := by
  obtain ⟨⟨b1, b2, b3, b4, b5⟩, ⟨t1, t2, t3, t4, t5, t6⟩, -⟩ := id hs.1
  intro fu
  induction fu with
  | zero => intro j h1 h0 h2; omega
  | succ fu ih =>
    intro j h1 h0 h2
    rw [m_X10_tellsBy_46, t5]
    by_cases q : j = nh
    · subst q
      rw [if_pos (by rw [nI_leI (by omega) (by omega)]; omega), rj_end (Nat.le_refl _), nI_1]
      rfl
    · have e := ih (j + 1) (by omega) (by omega) (by omega)
      have hD := Dm_lt T b1 i j
      rw [if_neg (by rw [nI_leI (by omega) (by omega)]; omega), hs.mm (by omega) (by omega), bdd_some, rj_next (by omega), List.find?_cons, nI_1, flt]
      cases z : M i j with
      | true =>
        rw [if_neg (show ¬ bz true = 0 by decide)]
        exact e
      | false =>
        rw [if_pos (show bz false = 0 from rfl), hs.dm (by omega) (by omega), bdd_some, nI_and]
        have hlt := and_lt64 (b := X) hD
        by_cases y : Dm T nb i j &&& X = 0
        · rw [if_pos (show nI (Dm T nb i j &&& X) = 0 by rw [y]; rfl), decide_eq_true y]
          rfl
        · rw [if_neg (show ¬ nI (Dm T nb i j &&& X) = (0 : Int32) from fun w => y ((nI_eq (b := 0) (by omega) (by omega)).mp w)), decide_eq_false y]
          exact e
theorem tb31 {nb nh hd : Nat} {T : Nat → Nat → Nat} {M : Nat → Nat → Bool} {g : Mm} (hs : sv nb nh hd T M g) (K : Int32 → Int32 → Int32 → Mm → Option (Int32 × Mm)) (a b : Int32) {X : Nat} (hX : X < 64) : ∀ (fu i : Nat), nh < i + fu → i ≤ nh →
    m_X10_tellsBy_31 K fu a b (nI X) (nI i) g = oj ((ri nh i).find? (flt T M nb X)) (fun p => some (0, fw X p g)) (K a b (nI (X + 1)) g) := by
  obtain ⟨⟨b1, b2, b3, b4, b5⟩, ⟨t1, t2, t3, t4, t5, t6⟩, -⟩ := id hs.1
  intro fu
  induction fu with
  | zero => intro i h1 h2; omega
  | succ fu ih =>
    intro i h1 h2
    rw [m_X10_tellsBy_31, t5]
    by_cases q : i = nh
    · subst q
      rw [if_pos (by rw [nI_leI (by omega) (by omega)]; omega), ri_end (Nat.le_refl _), nI_1]
      rfl
    · obtain ⟨F, eF, hF⟩ := fu_get
      rw [if_neg (by rw [nI_leI (by omega) (by omega)]; omega), nI_1, ri_next (n := nh) (i := i) (by omega), List.find?_append, eF, tb46 hs _ a b hX (show i < nh by omega) F (i + 1) (by omega) (by omega) (by omega), ih (i + 1) (by omega) (by omega)]
      cases (rj nh i (i + 1)).find? (flt T M nb X) <;> rfl
/-- the first of n numbers from x on at which something is found -/
def fs (p : Nat → Option (Nat × Nat)) : Nat → Nat → Option (Nat × Nat × Nat)
  | 0, _ => none
  | n + 1, x => match p x with
    | some a => some (x, a)
    | none => fs p n (x + 1)
def of3 (o : Option (Nat × Nat × Nat)) (x : Nat × Nat × Nat → Option (Int32 × Mm)) (y : Option (Int32 × Mm)) : Option (Int32 × Mm) := match o with
  | some p => x p
  | none => y
theorem fs_none {p : Nat → Option (Nat × Nat)} : ∀ (n x : Nat), fs p n x = none ↔ ∀ y, x ≤ y → y < x + n → p y = none := by
  intro n
  induction n with
  | zero => intro x; exact ⟨fun _ y h1 h2 => by omega, fun _ => rfl⟩
  | succ n ih =>
    intro x
    rw [fs]
    cases h : p x with
    | some a =>
      constructor
      · intro z; cases z
      · intro z
        rw [z x (Nat.le_refl _) (by omega)] at h
        cases h
    | none =>
      show fs p n (x + 1) = none ↔ _
      rw [ih]
      constructor
      · intro z y h1 h2
        by_cases q : y = x
        · rw [q]; exact h
        · exact z y (by omega) (by omega)
      · exact fun z y h1 h2 => z y (by omega) (by omega)
def ff (T : Nat → Nat → Nat) (M : Nat → Nat → Bool) (nb nh S k X : Nat) : Option (Nat × Nat) := if nsub X S = 0 ∧ pc24 X = k then (ri nh 0).find? (flt T M nb X) else none
theorem pow6 {nb : Nat} (h : nb ≤ 6) : 2 ^ nb ≤ 64 := Nat.pow_le_pow_right (by decide) h
theorem tb2 {nb nh hd : Nat} {T : Nat → Nat → Nat} {M : Nat → Nat → Bool} {g : Mm} (hs : sv nb nh hd T M g) {S k : Nat} (hS : S < 64) (hk : k < 100) : ∀ (fu X : Nat), 2 ^ nb < X + fu → X ≤ 2 ^ nb →
    m_X10_tellsBy_2 fu (nI S) (nI k) (nI X) g = of3 (fs (ff T M nb nh S k) (2 ^ nb - X) X) (fun p => some (0, fw p.1 p.2 g)) (some (1, g)) := by
  obtain ⟨⟨b1, b2, b3, b4, b5⟩, ⟨t1, t2, t3, t4, t5, t6⟩, -⟩ := id hs.1
  have h64 := pow6 b1
  intro fu
  induction fu with
  | zero => intro X h1 h2; omega
  | succ fu ih =>
    intro X h1 h2
    rw [m_X10_tellsBy_2, t4, shl_1 (by omega)]
    by_cases q : X = 2 ^ nb
    · rw [if_pos (by rw [nI_leI (by omega) (by omega)]; omega), show 2 ^ nb - X = 0 by omega]
      rfl
    · have e := ih (X + 1) (by omega) (by omega)
      have hX : X < 64 := by omega
      have e1 : nI X &&& (nI S ^^^ (-1 : Int32)) = nI (nsub X S) := by rw [show (-1 : Int32) = nI (2 ^ 32 - 1) by decide, nI_xor, nI_and]; rfl
      have hlt := nsub_lt X hX S hS
      have hpc := pc24_le (n := X) (by omega)
      rw [if_neg (by rw [nI_leI (by omega) (by omega)]; omega), e1, show 2 ^ nb - X = (2 ^ nb - (X + 1)) + 1 by omega, fs, nI_1]
      by_cases z1 : nsub X S = 0
      · rw [if_pos (show nI (nsub X S) = 0 by rw [z1]; rfl), bitsOf_nI (by omega), bdd_some]
        by_cases z2 : pc24 X = k
        · obtain ⟨F, eF, hF⟩ := fu_get
          rw [if_pos (by rw [z2]), eF, show (0 : Int32) = nI 0 from rfl, tb31 hs _ _ _ hX F 0 (by omega) (by omega), e, ff, if_pos ⟨z1, z2⟩]
          cases (ri nh 0).find? (flt T M nb X) <;> rfl
        · rw [if_neg (fun w => z2 ((nI_eq (by omega) (by omega)).mp w)), e, ff, if_neg (fun w => z2 w.2)]
      · rw [if_neg (show ¬ nI (nsub X S) = (0 : Int32) from fun w => z1 ((nI_eq (b := 0) (by omega) (by omega)).mp w)), e, ff, if_neg (fun w => z1 w.1)]
/-- all pairs not mixed differ in so many of S -/
def dw (T : Nat → Nat → Nat) (M : Nat → Nat → Bool) (nb nh S w : Nat) : Bool := (mk_ T M nb (ri nh 0)).all (fun m => decide (w ≤ pc24 (m &&& S)))
theorem dw_iff {T : Nat → Nat → Nat} {M : Nat → Nat → Bool} {nb nh S w : Nat} : dw T M nb nh S w = true ↔ ∀ i j, i < j → j < nh → M i j = false → w ≤ pc24 (Dm T nb i j &&& S) := by
  rw [dw, List.all_eq_true]
  constructor
  · intro h i j h1 h2 h3
    exact of_decide_eq_true (h _ ((mk_mem _).mpr ⟨i, j, pair_mem.mpr ⟨h1, h2⟩, h3, rfl⟩))
  · intro h m hm
    obtain ⟨a, b, h1, h2, rfl⟩ := (mk_mem m).mp hm
    exact decide_eq_true (h a b (pair_mem.mp h1).1 (pair_mem.mp h1).2 h2)
theorem find_none {T : Nat → Nat → Nat} {M : Nat → Nat → Bool} {nb nh X : Nat} : (ri nh 0).find? (flt T M nb X) = none ↔ ∀ i j, i < j → j < nh → M i j = false → Dm T nb i j &&& X ≠ 0 := by
  rw [List.find?_eq_none]
  constructor
  · intro h i j h1 h2 h3 h4
    refine h (i, j) (pair_mem.mpr ⟨h1, h2⟩) ?_
    rw [flt, h3, decide_eq_true h4]
    rfl
  · rintro h ⟨i, j⟩ hp hf
    have h0 := pair_mem.mp hp
    rw [flt, Bool.and_eq_true, Bool.not_eq_true', decide_eq_true_eq] at hf
    exact h i j h0.1 h0.2 hf.1 hf.2
theorem dw_one {T : Nat → Nat → Nat} {M : Nat → Nat → Bool} {nb nh X : Nat} (hb : nb ≤ 6) : dw T M nb nh X 1 = true ↔ (ri nh 0).find? (flt T M nb X) = none := by
  rw [dw_iff, find_none]
  constructor
  · intro h i j h1 h2 h3 h4
    have := h i j h1 h2 h3
    rw [h4] at this
    exact absurd this (by decide)
  · intro h i j h1 h2 h3
    have h5 := (pc_le6 _ (Nat.lt_of_le_of_lt Nat.and_le_left (Dm_lt T hb i j) : Dm T nb i j &&& X < 64)).2
    have := h i j h1 h2 h3
    omega
theorem fs_dw {T : Nat → Nat → Nat} {M : Nat → Nat → Bool} {nb nh S k : Nat} (hb : nb ≤ 6) (hS : S < 2 ^ nb) (hk : k ≤ pc24 S) : fs (ff T M nb nh S k) (2 ^ nb) 0 = none ↔ dw T M nb nh S (pc24 S - k + 1) = true := by
  have h64 := pow6 hb
  rw [fs_none, dw_iff]
  constructor
  · intro h i j h1 h2 h3
    refine (cmb (Dm_lt T hb i j) (by omega) hk).mp (fun X x1 x2 x3 x4 => ?_)
    have xs := (nsub_iff X x1 S (by omega)).mp x2
    have xlt : X < 2 ^ nb := by
      rw [← xs]
      exact Nat.lt_of_le_of_lt Nat.and_le_right hS
    have := h X (Nat.zero_le _) (by omega)
    rw [ff, if_pos ⟨x2, x3⟩, find_none] at this
    exact this i j h1 h2 h3 x4
  · intro h X _ hX
    rw [ff]
    split
    · rename_i q
      rw [find_none]
      intro i j h1 h2 h3
      exact (cmb (Dm_lt T hb i j) (by omega) hk).mpr (h i j h1 h2 h3) X (by omega) q.1 q.2
    · rfl
theorem fw_kp (X : Nat) (p : Nat × Nat) (g : Mm) (P : Nat → Nat → Bool) (h1 : P 40 29 = false) (h2 : P 40 30 = false) (h3 : P 40 31 = false) : kp_ P g (fw X p g) := kp_w h3 (kp_w h2 (kp_w h1 kp_rf))
/-- what tellsBy answers; it leaves all but the fault's place -/
theorem tb_ok {nb nh hd : Nat} {T : Nat → Nat → Nat} {M : Nat → Nat → Bool} {g : Mm} (hs : sv nb nh hd T M g) {S k : Nat} (hS : S < 2 ^ nb) (hk : k ≤ pc24 S) : ∃ g', m_X10_tellsBy (nI S) (nI k) g = some (bz (dw T M nb nh S (pc24 S - k + 1)), g') ∧ (∀ P : Nat → Nat → Bool, P 40 29 = false → P 40 30 = false → P 40 31 = false → kp_ P g g') ∧ g'.2 = g.2 := by
  have b1 := hs.1.1.1
  have h64 := pow6 b1
  have h6 := (pc_le6 S (by omega)).1
  obtain ⟨F, eF, hF⟩ := fu_get
  have e := tb2 hs (S := S) (k := k) (by omega) (by omega) F 0 (by omega) (by omega)
  rw [Nat.sub_zero] at e
  rw [m_X10_tellsBy, eF, show (0 : Int32) = nI 0 from rfl, e]
  have hd := fs_dw (T := T) (M := M) (nh := nh) b1 hS hk
  cases q : fs (ff T M nb nh S k) (2 ^ nb) 0 with
  | none =>
    rw [hd.mp q]
    exact ⟨g, rfl, fun _ _ _ _ => kp_rf, rfl⟩
  | some p =>
    have : dw T M nb nh S (pc24 S - k + 1) = false := by
      cases z : dw T M nb nh S (pc24 S - k + 1) with
      | false => rfl
      | true => rw [hd.mpr z] at q; cases q
    rw [this]
    exact ⟨fw p.1 p.2 g, rfl, fun P h1 h2 h3 => fw_kp _ _ _ P h1 h2 h3, rfl⟩
theorem kp_fw {g g' : Mm} (h : ∀ P : Nat → Nat → Bool, P 40 29 = false → P 40 30 = false → P 40 31 = false → kp_ P g g') : kp_ (fun c i => pl_t c i || pl_x c i) g g' := h _ rfl rfl rfl
/-- only scratch places changed -/
theorem gv_scr {g g' : Mm} (hg : gv_ g) (h : ∀ c i, c ≠ 23 → c ≠ 24 → ¬ (c = 40 ∧ 29 ≤ i ∧ i ≤ 31) → rdI g' c i = rdI g c i) (h2 : g'.2 = g.2) : gv_ g' := by
  obtain ⟨nb, nh, hd, cd, ck, tl, rt, nn, na, ra, f, hT, hX, hC, hP, hL, hE, hA, hS⟩ := hg
  have kp : ∀ P : Nat → Nat → Bool, (∀ i, P 23 i = false) → (∀ i, P 24 i = false) → P 40 29 = false → P 40 30 = false → P 40 31 = false → kp_ P g g' := fun P q1 q2 q3 q4 q5 c i hc => by
    refine h c i ?_ ?_ ?_
    · rintro rfl; rw [q1] at hc; cases hc
    · rintro rfl; rw [q2] at hc; cases hc
    · rintro ⟨rfl, h1, h2⟩
      rcases (by omega : i = 29 ∨ i = 30 ∨ i = 31) with rfl | rfl | rfl
      · rw [q3] at hc; cases hc
      · rw [q4] at hc; cases hc
      · rw [q5] at hc; cases hc
  refine ⟨nb, nh, hd, cd, ck, tl, rt, nn, na, ra, f, hT.cong (kp _ (fun _ => rfl) (fun _ => rfl) rfl rfl rfl), hX.cong (kp _ (fun _ => rfl) (fun _ => rfl) rfl rfl rfl), hC.cong (kp _ (fun _ => rfl) (fun _ => rfl) rfl rfl rfl), hP.cong (kp _ (fun _ => rfl) (fun _ => rfl) rfl rfl rfl), ?_, hE.cong (kp _ (fun _ => rfl) (fun _ => rfl) rfl rfl rfl), hA.cong (kp _ (fun _ => rfl) (fun _ => rfl) rfl rfl rfl), hS.cong (kp _ (fun _ => rfl) (fun _ => rfl) rfl rfl rfl) (fun i => by unfold rdL; rw [h2]; exact ⟨rfl, rfl⟩)⟩
  refine hL.cong ?_
  rcases hL.1 with ⟨rfl, -⟩ | ⟨rfl, -⟩ <;> exact kp _ (fun _ => rfl) (fun _ => rfl) rfl rfl rfl
theorem allBells_c {nb : Nat} {g : Mm} (t1 : rdI g 1 0 = nI nb) (hb : nb ≤ 6) : m_X8_allBells g = some (nI (2 ^ nb - 1), g) := by
  have hp : 0 < 2 ^ nb := Nat.two_pow_pos nb
  rw [m_X8_allBells, t1, shl_1 (by omega), show nI (2 ^ nb) - (1 : Int32) = nI (2 ^ nb - 1) from pk_sub (b := 1) hp]
theorem heard_c {nb hd : Nat} {g : Mm} (t1 : rdI g 1 0 = nI nb) (t3 : rdI g 1 2 = nI hd) (hb : nb ≤ 6) (hh : hd ≤ 6) : m_X8_heardTogether g = some (nI (min hd nb), g) := by
  rw [m_X8_heardTogether, t1, t3, m_J9_min_7cf53]
  by_cases q : nb < hd
  · rw [if_pos (by rw [nI_ltI (by omega) (by omega)]; exact q), bdd_some, Nat.min_eq_right (by omega)]
  · rw [if_neg (by rw [nI_ltI (by omega) (by omega)]; exact q), bdd_some, Nat.min_eq_left (by omega)]
theorem heard_m {nb hd : Nat} {g : Mm} (t1 : rdI g 40 4 = nI nb) (t3 : rdI g 40 6 = nI hd) (hb : nb ≤ 6) (hh : hd ≤ 6) : m_X10_heardNow g = some (nI (min hd nb), g) := by
  rw [m_X10_heardNow, t1, t3]
  by_cases q : nb ≤ hd
  · rw [if_pos (by rw [nI_leI (by omega) (by omega)]; exact q), Nat.min_eq_right q]
  · rw [if_neg (by rw [nI_leI (by omega) (by omega)]; exact q), Nat.min_eq_left (by omega)]
theorem wanted_c {nb hd : Nat} {g : Mm} (t1 : rdI g 1 0 = nI nb) (t3 : rdI g 1 2 = nI hd) (hb : nb ≤ 6) (hh : hd ≤ 6) : m_X8_differencesWanted g = some (nI (nb - min hd nb + 1), g) := by
  rw [m_X8_differencesWanted, heard_c t1 t3 hb hh, bdd_some, t1, pk_sub (Nat.min_le_right _ _), nI_1]
