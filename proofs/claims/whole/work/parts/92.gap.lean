/-! gap, kept, rest -/
theorem min_nI {a b : Nat} (ha : a < 2 ^ 31) (hb : b < 2 ^ 31) (g : Mm) : m_J9_min_7cf53 (nI a) (nI b) g = some (nI (min a b), g) := by
  rw [m_J9_min_7cf53]
  by_cases q : b < a
  · rw [if_pos (by rw [nI_ltI hb ha]; exact q), Nat.min_eq_right (by omega)]
  · rw [if_neg (by rw [nI_ltI hb ha]; exact q), Nat.min_eq_left (by omega)]
theorem max_nI {a b : Nat} (ha : a < 2 ^ 31) (hb : b < 2 ^ 31) (g : Mm) : m_J9_max_7cf53 (nI a) (nI b) g = some (nI (max a b), g) := by
  rw [m_J9_max_7cf53]
  by_cases q : a < b
  · rw [if_pos (by rw [nI_ltI ha hb]; exact q), Nat.max_eq_right (by omega)]
  · rw [if_neg (by rw [nI_ltI ha hb]; exact q), Nat.max_eq_left (by omega)]
def gp_o : Option Nat → Int32
  | none => -2
  | some n => nI n
def gp_s (o : Option Nat) (m : Nat) : Option Nat := match o with
  | none => some (pc24 m)
  | some n => some (min n (pc24 m))
theorem nn2 {n : Nat} (h : n < 2 ^ 31) : ¬ nI n = (-2 : Int32) := fun w => by
  have e := congrArg Int32.toInt w
  rw [nI_toInt h, show (-2 : Int32).toInt = -2 from rfl] at e
  omega
theorem mk_cons {T : Nat → Nat → Nat} {M : Nat → Nat → Bool} {nb : Nat} (i j : Nat) (P : List (Nat × Nat)) : mk_ T M nb ((i, j) :: P) = if M i j = true then mk_ T M nb P else Dm T nb i j :: mk_ T M nb P := by
  cases q : M i j <;> simp [mk_, q]
theorem gap_c9 {L : List Nat} {g : Mm} (hp : pk_ L g) (hL : ∀ m, m ∈ L → m < 64) (hl : L.length ≤ 276) : ∀ (fu i : Nat) (o : Option Nat), L.length < i + fu → i ≤ L.length → (∀ n, o = some n → n < 100) →
    m_X7_leastDifference_9 fu (gp_o o) (nI i) g = some (gp_o ((L.drop i).foldl gp_s o), g) ∧ ∀ n, (L.drop i).foldl gp_s o = some n → n < 100 := by
  intro fu
  induction fu with
  | zero => intro i o h1 h2; omega
  | succ fu ih =>
    intro i o h1 h2 ho
    rw [m_X7_leastDifference_9, hp.1]
    by_cases q : i = L.length
    · subst q
      rw [if_pos (by rw [nI_leI (by omega) (by omega)]; omega), List.drop_length]
      exact ⟨rfl, ho⟩
    · have hi : i < L.length := by omega
      have ed : L.drop i = L.getD i 0 :: L.drop (i + 1) := by
        rw [List.drop_eq_getElem_cons hi]
        simp [List.getD, hi]
      have hm : L.getD i 0 < 64 := by
        apply hL
        simp [List.getD, hi]
      have hpc := pc24_le (n := L.getD i 0) (by omega)
      rw [if_neg (by rw [nI_leI (by omega) (by omega)]; omega), ix_nI (by omega) (by omega), gdd_true, nI_clamp (by omega), hp.2 i hi, bitCount_nI (by omega), bdd_some, ed, List.foldl_cons, nI_1]
      cases o with
      | none =>
        rw [if_pos (show gp_o none = (-2 : Int32) from rfl)]
        exact ih (i + 1) (some (pc24 (L.getD i 0))) (by omega) (by omega) (fun n e => by cases e; omega)
      | some m =>
        have hm2 := ho m rfl
        rw [if_neg (show ¬ gp_o (some m) = (-2 : Int32) from nn2 (by omega)), show gp_o (some m) = nI m from rfl, min_nI (by omega) (by omega), bdd_some]
        exact ih (i + 1) (some (min m (pc24 (L.getD i 0)))) (by omega) (by omega) (fun n e => by cases e; omega)
theorem gap_m40 {nb nh hd : Nat} {T : Nat → Nat → Nat} {M : Nat → Nat → Bool} {g : Mm} (hs : sv nb nh hd T M g) (K : Int32 → Int32 → Int32 → Mm → Option (Int32 × Mm)) (a : Int32) {i : Nat} (hi : i < nh) : ∀ (fu j : Nat) (o : Option Nat), nh < j + fu → i < j → j ≤ nh → (∀ n, o = some n → n < 100) →
    m_X10_gap_40 K fu a (gp_o o) (nI i) (nI j) g = K a (gp_o ((mk_ T M nb (rj nh i j)).foldl gp_s o)) (nI (i + 1)) g ∧ ∀ n, (mk_ T M nb (rj nh i j)).foldl gp_s o = some n → n < 100 := by
  obtain ⟨⟨b1, b2, b3, b4, b5⟩, ⟨t1, t2, t3, t4, t5, t6⟩, -⟩ := id hs.1
  intro fu
  induction fu with
  | zero => intro j o h1 h0 h2; omega
  | succ fu ih =>
    intro j o h1 h0 h2 ho
    rw [m_X10_gap_40, t5]
    by_cases q : j = nh
    · subst q
      rw [if_pos (by rw [nI_leI (by omega) (by omega)]; omega), rj_end (Nat.le_refl _), nI_1]
      exact ⟨rfl, ho⟩
    · have hD := Dm_lt T b1 i j
      have hpc := pc24_le (n := Dm T nb i j) (by omega)
      rw [if_neg (by rw [nI_leI (by omega) (by omega)]; omega), hs.dm (by omega) (by omega), bdd_some, bitsOf_nI (by omega), bdd_some, hs.mm (by omega) (by omega), bdd_some, rj_next (by omega), mk_cons, nI_1]
      cases z : M i j with
      | true =>
        rw [if_neg (show ¬ bz true = 0 by decide), if_pos rfl]
        exact ih (j + 1) o (by omega) (by omega) (by omega) ho
      | false =>
        rw [if_pos (show bz false = 0 from rfl), if_neg (show ¬ (false = true) by decide), List.foldl_cons]
        cases o with
        | none =>
          rw [if_pos (show gp_o none = (-2 : Int32) from rfl)]
          exact ih (j + 1) (some (pc24 (Dm T nb i j))) (by omega) (by omega) (by omega) (fun n e => by cases e; omega)
        | some m =>
          have hm2 := ho m rfl
          have e := ih (j + 1) (some (min m (pc24 (Dm T nb i j)))) (by omega) (by omega) (by omega) (fun n e => by cases e; omega)
          rw [if_neg (show ¬ gp_o (some m) = (-2 : Int32) from nn2 (by omega)), show gp_o (some m) = nI m from rfl]
          by_cases y : m ≤ pc24 (Dm T nb i j)
          · rw [if_pos (by rw [nI_leI (by omega) (by omega)]; exact y)]
            rw [Nat.min_eq_left y] at e
            rw [show gp_s (some m) (Dm T nb i j) = some m by rw [gp_s, Nat.min_eq_left y]]
            exact e
          · rw [if_neg (by rw [nI_leI (by omega) (by omega)]; exact y)]
            rw [Nat.min_eq_right (by omega)] at e
            rw [show gp_s (some m) (Dm T nb i j) = some (pc24 (Dm T nb i j)) by rw [gp_s, Nat.min_eq_right (by omega)]]
            exact e
def gp_f (a : Int32) (nb : Nat) (o : Option Nat) : Int32 := match o with
  | none => -2
  | some n => if a = 0 then nI n else if n = 0 then -2 else nI nb - nI n + 1
theorem gap_m27 {nb nh hd : Nat} {T : Nat → Nat → Nat} {M : Nat → Nat → Bool} {g : Mm} (hs : sv nb nh hd T M g) (a : Int32) : ∀ (fu i : Nat) (o : Option Nat), nh < i + fu → i ≤ nh → (∀ n, o = some n → n < 100) →
    m_X10_gap_27 fu a (gp_o o) (nI i) g = some (gp_f a nb ((mk_ T M nb (ri nh i)).foldl gp_s o), g) := by
  obtain ⟨⟨b1, b2, b3, b4, b5⟩, ⟨t1, t2, t3, t4, t5, t6⟩, -⟩ := id hs.1
  intro fu
  induction fu with
  | zero => intro i o h1 h2; omega
  | succ fu ih =>
    intro i o h1 h2 ho
    rw [m_X10_gap_27, t5]
    by_cases q : i = nh
    · subst q
      rw [if_pos (by rw [nI_leI (by omega) (by omega)]; omega), ri_end (Nat.le_refl _)]
      show _ = some (gp_f a nb o, g)
      cases o with
      | none => rw [if_pos (show gp_o none = (-2 : Int32) from rfl)]; rfl
      | some m =>
        have hm2 := ho m rfl
        rw [if_neg (show ¬ gp_o (some m) = (-2 : Int32) from nn2 (by omega)), gp_f, show gp_o (some m) = nI m from rfl]
        by_cases a0 : a = 0
        · rw [if_pos a0, if_pos a0]
        · rw [if_neg a0, if_neg a0]
          by_cases m0 : m = 0
          · rw [if_pos (show nI m = 0 by rw [m0]; rfl), if_pos m0]
          · rw [if_neg (fun w => by exact m0 ((nI_eq (b := 0) (by omega) (by omega)).mp w)), if_neg m0, t4]
    · obtain ⟨F, eF, hF⟩ := fu_get
      obtain ⟨e1, e2⟩ := gap_m40 hs (m_X10_gap_27 fu) a (show i < nh by omega) F (i + 1) o (by omega) (by omega) (by omega) ho
      rw [if_neg (by rw [nI_leI (by omega) (by omega)]; omega), nI_1, eF, e1, ri_next (n := nh) (i := i) (by omega), mk_app, List.foldl_append]
      exact ih (i + 1) _ (by omega) (by omega) e2
theorem op_gap (a0 : Int32) {g : Mm} (hg : gv_ g) : al_ (m_X9_gap a0) (m_X10_gap a0) g := by
  have hg0 := hg
  obtain ⟨nb, nh, hd, cd, ck, tl, rt, nn, na, ra, f, hT, hX, hC, hP, hL, hE, hA, hS⟩ := hg
  obtain ⟨⟨b1, b2, b3, b4, b5⟩, ⟨t1, t2, t3, t4, t5, t6⟩, -⟩ := id hT
  rcases i_cases a0 with h | ⟨v, hv, rfl⟩
  · refine al_.same (r := -1) hg0 ?_ ?_
    · rw [m_X9_gap, if_pos (neg_lt0 h)]
    · rw [m_X10_gap, in_neg h (by decide), bdd_some, if_pos (show bz false = 0 from rfl)]
  · by_cases hv3 : v ≤ 1
    · have c1 : ¬ nI v < (0 : Int32) := fun w => by have := (nI_ltI (b := 0) hv (by omega)).mp w; omega
      have c2 : nI v ≤ (1 : Int32) := (nI_leI (b := 1) hv (by omega)).mpr hv3
      by_cases n0 : nb = 0
      · subst n0
        refine al_.same (r := -5) hg0 ?_ ?_
        · rw [m_X9_gap, if_neg c1, if_pos c2, t1, if_pos (show nI 0 = 0 from rfl)]
        · rw [m_X10_gap, in_nI 0 1 0 1 hv rfl rfl, decide_eq_true (by omega), bdd_some, if_neg (show ¬ bz true = 0 by decide), t4, if_pos (show nI 0 = 0 from rfl)]
      · have n1 : ¬ nI nb = (0 : Int32) := fun w => n0 ((nI_eq (b := 0) (by omega) (by omega)).mp w)
        have hs := sv.self hT hX
        obtain ⟨g1, e1, p1, k1, d1⟩ := all_pairs hs
        have s1 := sc_23 k1 d1
        have hs1 := hs.sc s1
        obtain ⟨-, ⟨u1, -, -, u4, -, -⟩, -⟩ := id hs1.1
        obtain ⟨F, eF, hF⟩ := fu_get
        obtain ⟨c3, c4⟩ := gap_c9 p1 (mk_lt b1 _) (mk_len2 b3) F 0 none (by have := mk_len2 (T := tv g) (M := mx_ g) (nb := nb) b3; omega) (Nat.zero_le _) (fun n e => by cases e)
        have m3 := gap_m27 hs1 (nI v) F 0 none (by omega) (by omega) (fun n e => by cases e)
        rw [List.drop_zero] at c3 c4
        refine ⟨gp_f (nI v) nb ((mk_ (tv g) (mx_ g) nb (ri nh 0)).foldl gp_s none), g1, g1, ?_, ?_, s1.gv hg0⟩
        · rw [m_X9_gap, if_neg c1, if_pos c2, t1, if_neg n1, m_X7_leastDifference, e1, bdd_some, eF]
          rw [show m_X7_leastDifference_9 F (-2) 0 g1 = some (gp_o ((mk_ (tv g) (mx_ g) nb (ri nh 0)).foldl gp_s none), g1) from c3, bdd_some]
          cases o : (mk_ (tv g) (mx_ g) nb (ri nh 0)).foldl gp_s none with
          | none =>
            rw [if_pos (show gp_o none = (-2 : Int32) from rfl)]
            split <;> rfl
          | some m =>
            have hm2 := c4 m o
            rw [if_neg (show ¬ gp_o (some m) = (-2 : Int32) from nn2 (by omega)), gp_f, show gp_o (some m) = nI m from rfl]
            by_cases a0 : nI v = 0
            · rw [if_pos a0, if_pos a0]
            · rw [if_neg a0, if_neg a0]
              by_cases m0 : m = 0
              · rw [if_pos (show nI m = 0 by rw [m0]; rfl), if_pos m0]
              · rw [if_neg (fun w => by exact m0 ((nI_eq (b := 0) (by omega) (by omega)).mp w)), if_neg m0, u1]
        · rw [m_X10_gap, in_nI 0 1 0 1 hv rfl rfl, decide_eq_true (by omega), bdd_some, if_neg (show ¬ bz true = 0 by decide), u4, if_neg n1, eF]
          exact m3
    · refine al_.same (r := -1) hg0 ?_ ?_
      · rw [m_X9_gap, if_neg (fun w => by have := (nI_ltI (b := 0) hv (by omega)).mp w; omega), if_neg (fun w => by exact hv3 ((nI_leI (b := 1) hv (by omega)).mp w))]
      · rw [m_X10_gap, in_nI 0 1 0 1 hv rfl rfl, decide_eq_false (by omega), bdd_some, if_pos (show bz false = 0 from rfl)]
theorem tb_sc {nb nh hd : Nat} {T : Nat → Nat → Nat} {M : Nat → Nat → Bool} {g : Mm} (hs : sv nb nh hd T M g) {S k : Nat} (hS : S < 2 ^ nb) (hk : k ≤ pc24 S) : ∃ g', m_X10_tellsBy (nI S) (nI k) g = some (bz (dw T M nb nh S (pc24 S - k + 1)), g') ∧ sc_ g g' := by
  have b1 := hs.1.1.1
  have h64 := pow6 b1
  have hd := fs_dw (T := T) (M := M) (nh := nh) b1 hS hk
  have h6 := (pc_le6 S (by omega)).1
  rw [tb_of hs (by omega) (by omega)]
  cases q : fs (ff T M nb nh S k) (2 ^ nb) 0 with
  | none =>
    rw [hd.mp q]
    exact ⟨g, rfl, sc_.rf⟩
  | some p =>
    have : dw T M nb nh S (pc24 S - k + 1) = false := by
      cases z : dw T M nb nh S (pc24 S - k + 1) with
      | false => rfl
      | true => rw [hd.mpr z] at q; cases q
    rw [this]
    exact ⟨fw p.1 p.2 g, rfl, sc_fw _ _ _⟩
/-! the fewest bells that tell -/
def kb_ (Q : Nat → Bool) (n : Nat) (r : Option Nat) : Prop := match r with
  | none => ∀ Y, Y < n → Q Y = false
  | some X => X < n ∧ Q X = true ∧ ∀ Y, Y < n → Q Y = true → pc24 X < pc24 Y ∨ (pc24 X = pc24 Y ∧ X ≤ Y)
theorem kb_uniq {Q : Nat → Bool} {n : Nat} {r r' : Option Nat} (h : kb_ Q n r) (h' : kb_ Q n r') : r = r' := by
  cases r with
  | none =>
    cases r' with
    | none => rfl
    | some X => have := h X h'.1; rw [h'.2.1] at this; cases this
  | some X =>
    cases r' with
    | none => have := h' X h.1; rw [h.2.1] at this; cases this
    | some X' =>
      have h1 := h.2.2 X' h'.1 h'.2.1
      have h2 := h'.2.2 X h.1 h.2.1
      have : X = X' := by omega
      rw [this]
theorem kb_no {Q : Nat → Bool} {n : Nat} {r : Option Nat} (h : kb_ Q n r) (hq : Q n = false) : kb_ Q (n + 1) r := by
  cases r with
  | none =>
    intro Y hY
    by_cases e : Y = n
    · rw [e]; exact hq
    · exact h Y (by omega)
  | some X =>
    refine ⟨Nat.lt_succ_of_lt h.1, h.2.1, fun Y hY hQ => ?_⟩
    by_cases e : Y = n
    · rw [e, hq] at hQ; cases hQ
    · exact h.2.2 Y (by omega) hQ
theorem kb_worse {Q : Nat → Bool} {n X : Nat} (h : kb_ Q n (some X)) (hp : pc24 X ≤ pc24 n) : kb_ Q (n + 1) (some X) := by
  refine ⟨Nat.lt_succ_of_lt h.1, h.2.1, fun Y hY hQ => ?_⟩
  by_cases e : Y = n
  · have := h.1
    subst e
    omega
  · exact h.2.2 Y (by omega) hQ
theorem kb_new {Q : Nat → Bool} {n : Nat} {r : Option Nat} (h : kb_ Q n r) (hq : Q n = true) (hp : ∀ X, r = some X → pc24 n < pc24 X) : kb_ Q (n + 1) (some n) := by
  refine ⟨Nat.lt_succ_self _, hq, fun Y hY hQ => ?_⟩
  by_cases e : Y = n
  · subst e
    omega
  · cases r with
    | none => have := h Y (by omega); rw [hQ] at this; cases this
    | some X =>
      have h1 := h.2.2 Y (by omega) hQ
      have h2 := hp X rfl
      omega
theorem pc_lim : ∀ n, n < 7 → ∀ Y, Y < 64 → Y < 2 ^ n → pc24 Y ≤ n := by decide +kernel
theorem kept_c19 {nb nh hd : Nat} {T : Nat → Nat → Nat} {M : Nat → Nat → Bool} {g : Mm} (hs : sv nb nh hd T M g) (hp : pk_ (mk_ T M nb (ri nh 0)) g) (K : Int32 → Mm → Option (Int32 × Mm)) {s : Nat} (hs9 : s < 9) : ∀ (fu X : Nat), 2 ^ nb < X + fu → X ≤ 2 ^ nb → (∀ Y, Y < 2 ^ nb → dw T M nb nh Y 1 = true → s ≤ pc24 Y ∧ (pc24 Y = s → X ≤ Y)) →
    (∃ r, kb_ (fun Y => dw T M nb nh Y 1) (2 ^ nb) (some r) ∧ m_X7_fewestBells_19 K fu (nI s) (nI X) g = some (nI r, g)) ∨ (m_X7_fewestBells_19 K fu (nI s) (nI X) g = K (nI (s + 1)) g ∧ ∀ Y, Y < 2 ^ nb → dw T M nb nh Y 1 = true → s + 1 ≤ pc24 Y) := by
  obtain ⟨⟨b1, b2, b3, b4, b5⟩, ⟨t1, t2, t3, t4, t5, t6⟩, -⟩ := id hs.1
  have h64 := pow6 b1
  have h0 := Nat.two_pow_pos nb
  intro fu
  induction fu with
  | zero => intro X h1 h2; omega
  | succ fu ih =>
    intro X h1 h2 hQ
    rw [m_X7_fewestBells_19, allBells_c t1 b1, bdd_some]
    by_cases q : X = 2 ^ nb
    · refine Or.inr ⟨?_, fun Y hY h => ?_⟩
      · rw [if_pos (by rw [nI_ltI (by omega) (by omega)]; omega), nI_1]
      · have := hQ Y hY h
        omega
    · have hpc := pc24_le (n := X) (by omega)
      rw [if_neg (by rw [nI_ltI (by omega) (by omega)]; omega), bitCount_nI (by omega), bdd_some, nI_1]
      by_cases z : pc24 X = s
      · rw [if_pos (by rw [z]), show (1 : Int32) = nI 1 from rfl, adi_dw hs hp (by omega) (by omega), bdd_some]
        cases y : dw T M nb nh X 1 with
        | true =>
          refine Or.inl ⟨X, ⟨by omega, y, fun Y hY h => ?_⟩, ?_⟩
          · have := hQ Y hY h
            omega
          · rw [if_neg (show ¬ bz true = 0 by decide)]
        | false =>
          rw [if_pos (show bz false = 0 from rfl)]
          refine ih (X + 1) (by omega) (by omega) (fun Y hY h => ?_)
          have := hQ Y hY h
          refine ⟨this.1, fun e => ?_⟩
          have h3 := this.2 e
          by_cases w : Y = X
          · rw [w, y] at h; cases h
          · omega
      · rw [if_neg (fun w => by exact z ((nI_eq (by omega) (by omega)).mp w))]
        refine ih (X + 1) (by omega) (by omega) (fun Y hY h => ?_)
        have := hQ Y hY h
        refine ⟨this.1, fun e => ?_⟩
        have h3 := this.2 e
        by_cases w : Y = X
        · rw [w] at e; omega
        · omega
theorem kept_c6 {nb nh hd : Nat} {T : Nat → Nat → Nat} {M : Nat → Nat → Bool} {g : Mm} (hs : sv nb nh hd T M g) (hp : pk_ (mk_ T M nb (ri nh 0)) g) : ∀ (fu s : Nat), nb + 1 < s + fu → s ≤ nb + 1 → (∀ Y, Y < 2 ^ nb → dw T M nb nh Y 1 = true → s ≤ pc24 Y) →
    ∃ r, kb_ (fun Y => dw T M nb nh Y 1) (2 ^ nb) r ∧ m_X7_fewestBells_6 fu (nI s) g = some (gp_o r, g) := by
  obtain ⟨⟨b1, b2, b3, b4, b5⟩, ⟨t1, t2, t3, t4, t5, t6⟩, -⟩ := id hs.1
  have h64 := pow6 b1
  intro fu
  induction fu with
  | zero => intro s h1 h2; omega
  | succ fu ih =>
    intro s h1 h2 hQ
    rw [m_X7_fewestBells_6, t1]
    by_cases q : s = nb + 1
    · refine ⟨none, fun Y hY => ?_, ?_⟩
      · cases y : dw T M nb nh Y 1 with
        | false => exact y
        | true =>
          have h3 := hQ Y hY y
          have h4 := pc_lim nb (by omega) Y (by omega) hY
          omega
      · rw [if_pos (by rw [nI_ltI (by omega) (by omega)]; omega)]
        rfl
    · obtain ⟨F, eF, hF⟩ := fu_get
      rw [if_neg (by rw [nI_ltI (by omega) (by omega)]; omega), eF]
      rcases kept_c19 hs hp (m_X7_fewestBells_6 fu) (show s < 9 by omega) F 0 (by omega) (Nat.zero_le _) (fun Y hY h => ⟨hQ Y hY h, fun _ => Nat.zero_le _⟩) with ⟨r, k1, k2⟩ | ⟨k1, k2⟩
      · exact ⟨some r, k1, k2⟩
      · rw [show m_X7_fewestBells_19 (m_X7_fewestBells_6 fu) F (nI s) 0 g = m_X7_fewestBells_6 fu (nI (s + 1)) g from k1]
        exact ih (s + 1) (by omega) (by omega) k2
theorem kept_m5 {nb nh hd : Nat} {T : Nat → Nat → Nat} {M : Nat → Nat → Bool} : ∀ (fu X : Nat) (g : Mm) (r : Option Nat), 2 ^ nb < X + fu → X ≤ 2 ^ nb → sv nb nh hd T M g → kb_ (fun Y => dw T M nb nh Y 1) X r →
    ∃ r' g', kb_ (fun Y => dw T M nb nh Y 1) (2 ^ nb) r' ∧ m_X10_kept_5 fu (gp_o r) (nI X) g = some (gp_o r', g') ∧ sc_ g g' := by
  intro fu
  induction fu with
  | zero => intro X g r h1 h2; omega
  | succ fu ih =>
    intro X g r h1 h2 hs hr
    obtain ⟨⟨b1, b2, b3, b4, b5⟩, ⟨t1, t2, t3, t4, t5, t6⟩, -⟩ := id hs.1
    have h64 := pow6 b1
    rw [m_X10_kept_5, t4, shl_1 (by omega)]
    by_cases q : X = 2 ^ nb
    · subst q
      exact ⟨r, g, hr, by rw [if_pos (by rw [nI_leI (by omega) (by omega)]; omega)], sc_.rf⟩
    · have hpc := pc24_le (n := X) (by omega)
      rw [if_neg (by rw [nI_leI (by omega) (by omega)]; omega)]
      have key : (∀ Y, r = some Y → pc24 X < pc24 Y) → ∃ r' g', kb_ (fun Y => dw T M nb nh Y 1) (2 ^ nb) r' ∧ m_X10_kept_32 (m_X10_kept_5 fu) (gp_o r) (nI X) g = some (gp_o r', g') ∧ sc_ g g' := by
        intro hb
        obtain ⟨g1, e1, s1⟩ := tb_sc hs (S := X) (k := pc24 X) (by omega) (Nat.le_refl _)
        rw [Nat.sub_self, Nat.zero_add] at e1
        rw [m_X10_kept_32, bitsOf_nI (by omega), bdd_some, e1, bdd_some, nI_1]
        cases y : dw T M nb nh X 1 with
        | false =>
          obtain ⟨r', g', k1, k2, k3⟩ := ih (X + 1) g1 r (by omega) (by omega) (hs.sc s1) (kb_no hr y)
          exact ⟨r', g', k1, by rw [if_pos (show bz false = 0 from rfl)]; exact k2, s1.tr k3⟩
        | true =>
          obtain ⟨r', g', k1, k2, k3⟩ := ih (X + 1) g1 (some X) (by omega) (by omega) (hs.sc s1) (kb_new hr y hb)
          exact ⟨r', g', k1, by rw [if_neg (show ¬ bz true = 0 by decide)]; exact k2, s1.tr k3⟩
      cases r with
      | none =>
        rw [if_pos (show gp_o none = (-2 : Int32) from rfl)]
        exact key (fun Y e => by cases e)
      | some Y =>
        have hY := hr.1
        have hpY := pc24_le (n := Y) (by omega)
        rw [if_neg (show ¬ gp_o (some Y) = (-2 : Int32) from nn2 (by omega)), bitsOf_nI (by omega), bdd_some, show gp_o (some Y) = nI Y from rfl, bitsOf_nI (by omega), bdd_some]
        by_cases z : pc24 Y ≤ pc24 X
        · rw [if_pos (by rw [nI_leI (by omega) (by omega)]; exact z), nI_1]
          exact ih (X + 1) g (some Y) (by omega) (by omega) hs (kb_worse hr z)
        · rw [if_neg (by rw [nI_leI (by omega) (by omega)]; exact z)]
          exact key (fun Y' e => by cases e; omega)
theorem op_kept {g : Mm} (hg : gv_ g) : al_ m_X9_kept m_X10_kept g := by
  have hg0 := hg
  obtain ⟨nb, nh, hd, cd, ck, tl, rt, nn, na, ra, f, hT, hX, hC, hP, hL, hE, hA, hS⟩ := hg
  have b1 := hT.1.1
  have h64 := pow6 b1
  have hs := sv.self hT hX
  obtain ⟨g1, e1, p1, k1, d1⟩ := all_pairs hs
  have s1 := sc_23 k1 d1
  have hs1 := hs.sc s1
  obtain ⟨F, eF, hF⟩ := fu_get
  obtain ⟨r, r1, r2⟩ := kept_c6 hs1 p1 F 0 (by omega) (by omega) (fun _ _ _ => Nat.zero_le _)
  obtain ⟨r', g2, r3, r4, s2⟩ := kept_m5 F 0 g1 none (by omega) (Nat.zero_le _) hs1 (fun Y hY => absurd hY (Nat.not_lt_zero _))
  have e := kb_uniq r1 r3
  subst e
  refine ⟨gp_o r, g1, g2, ?_, ?_, (s1.tr s2).gv hg0⟩
  · rw [m_X9_kept, m_X7_fewestBells, e1, bdd_some, eF]
    rw [show m_X7_fewestBells_6 F 0 g1 = some (gp_o r, g1) from r2, bdd_some]
  · rw [m_X10_kept, eF]
    exact r4
/-! ropes that rest -/
theorem rest_pc : ∀ n, n < 7 → ∀ b, b < n → pc24 (mset (2 ^ n - 1) b false) = n - 1 ∧ mset (2 ^ n - 1) b false < 2 ^ n := by decide +kernel
theorem rest_c37 {nb nh hd : Nat} {T : Nat → Nat → Nat} {M : Nat → Nat → Bool} {g : Mm} (hs : sv nb nh hd T M g) (hp : pk_ (mk_ T M nb (ri nh 0)) g) {x y : Int32} {w : Nat} (hw : 1 ≤ nb → x - y + 1 = nI w) (hw2 : w < 100) : ∀ (fu i : Nat), nb < i + fu → i ≤ nb →
    m_X7_bellsThatMayRest_37 fu x y (nI (bm (fun b => dw T M nb nh (mset (2 ^ nb - 1) b false) w) i)) (nI i) g = some (nI (bm (fun b => dw T M nb nh (mset (2 ^ nb - 1) b false) w) nb), g) := by
  obtain ⟨⟨b1, b2, b3, b4, b5⟩, ⟨t1, t2, t3, t4, t5, t6⟩, -⟩ := id hs.1
  have h64 := pow6 b1
  intro fu
  induction fu with
  | zero => intro i h1 h2; omega
  | succ fu ih =>
    intro i h1 h2
    rw [m_X7_bellsThatMayRest_37, t1]
    by_cases q : i = nb
    · subst q
      rw [if_pos (by rw [nI_leI (by omega) (by omega)]; omega)]
    · have e := ih (i + 1) (by omega) (by omega)
      obtain ⟨r1, r2⟩ := rest_pc nb (by omega) i (by omega)
      rw [if_neg (by rw [nI_leI (by omega) (by omega)]; omega), allBells_c t1 b1, bdd_some, mset_0 (by omega), hw (by omega), adi_dw hs hp (by omega) (by omega), bdd_some, nI_1]
      cases z : dw T M nb nh (mset (2 ^ nb - 1) i false) w with
      | false =>
        rw [if_pos (show bz false = 0 from rfl), bm_f' (p := fun b => dw T M nb nh (mset (2 ^ nb - 1) b false) w) z]
        exact e
      | true =>
        rw [if_neg (show ¬ bz true = 0 by decide), bm_t (p := fun b => dw T M nb nh (mset (2 ^ nb - 1) b false) w) (by omega) z]
        exact e
theorem rest_m54 {nb nh hd : Nat} {T : Nat → Nat → Nat} {M : Nat → Nat → Bool} {k : Nat} (hk : 1 ≤ nb → k ≤ nb - 1) (y : Int32) (hy : 1 ≤ nb → y = nI k) : ∀ (fu i : Nat) (g : Mm), sv nb nh hd T M g → nb < i + fu → i ≤ nb →
    ∃ g', m_X10_rest_54 fu (nI (2 ^ nb - 1)) y (nI (bm (fun b => dw T M nb nh (mset (2 ^ nb - 1) b false) (nb - 1 - k + 1)) i)) (nI i) g = some (nI (bm (fun b => dw T M nb nh (mset (2 ^ nb - 1) b false) (nb - 1 - k + 1)) nb), g') ∧ sc_ g g' := by
  intro fu
  induction fu with
  | zero => intro i g hs h1 h2; omega
  | succ fu ih =>
    intro i g hs h1 h2
    obtain ⟨⟨b1, b2, b3, b4, b5⟩, ⟨t1, t2, t3, t4, t5, t6⟩, -⟩ := id hs.1
    have h64 := pow6 b1
    rw [m_X10_rest_54, t4]
    by_cases q : i = nb
    · subst q
      exact ⟨g, by rw [if_pos (by rw [nI_leI (by omega) (by omega)]; omega)], sc_.rf⟩
    · obtain ⟨r1, r2⟩ := rest_pc nb (by omega) i (by omega)
      obtain ⟨g1, e1, s1⟩ := tb_sc hs (S := mset (2 ^ nb - 1) i false) (k := k) r2 (by rw [r1]; exact hk (by omega))
      rw [r1] at e1
      obtain ⟨g2, e2, s2⟩ := ih (i + 1) g1 (hs.sc s1) (by omega) (by omega)
      refine ⟨g2, ?_, s1.tr s2⟩
      rw [if_neg (by rw [nI_leI (by omega) (by omega)]; omega), mset_0 (by omega), hy (by omega), e1, bdd_some, nI_1]
      rw [hy (by omega)] at e2
      cases z : dw T M nb nh (mset (2 ^ nb - 1) i false) (nb - 1 - k + 1) with
      | false =>
        rw [if_pos (show bz false = 0 from rfl), bm_f (p := fun b => dw T M nb nh (mset (2 ^ nb - 1) b false) (nb - 1 - k + 1)) (by omega) z]
        exact e2
      | true =>
        rw [if_neg (show ¬ bz true = 0 by decide), bm_t (p := fun b => dw T M nb nh (mset (2 ^ nb - 1) b false) (nb - 1 - k + 1)) (by omega) z]
        exact e2
theorem op_rest {g : Mm} (hg : gv_ g) : al_ m_X9_rest m_X10_rest g := by
  have hg0 := hg
  obtain ⟨nb, nh, hd, cd, ck, tl, rt, nn, na, ra, f, hT, hX, hC, hP, hL, hE, hA, hS⟩ := hg
  obtain ⟨⟨b1, b2, b3, b4, b5⟩, ⟨t1, t2, t3, t4, t5, t6⟩, -⟩ := id hT
  have h64 := pow6 b1
  have hp0 := Nat.two_pow_pos nb
  have hs := sv.self hT hX
  obtain ⟨g1, e1, p1, k1, d1⟩ := all_pairs hs
  have s1 := sc_23 k1 d1
  have hs1 := hs.sc s1
  obtain ⟨-, ⟨u1, u2, u3, u4, u5, u6⟩, -⟩ := id hs1.1
  obtain ⟨F, eF, hF⟩ := fu_get
  have emax : m_J9_max_7cf53 (1 : Int32) (nI hd - (1 : Int32)) g1 = some (nI (max 1 (hd - 1)), g1) := by
    rw [show nI hd - (1 : Int32) = nI (hd - 1) from pk_sub (b := 1) b4]
    exact max_nI (a := 1) (by omega) (by omega) g1
  -- the class: whatever it takes for the heard, when there is no bell
  obtain ⟨y, ey, hy⟩ : ∃ y : Int32, m_J9_min_7cf53 (nI (max 1 (hd - 1))) (nI nb - (1 : Int32)) g1 = some (y, g1) ∧ (1 ≤ nb → y = nI (min (max 1 (hd - 1)) (nb - 1))) := by
    by_cases n0 : 1 ≤ nb
    · refine ⟨nI (min (max 1 (hd - 1)) (nb - 1)), ?_, fun _ => rfl⟩
      rw [show nI nb - (1 : Int32) = nI (nb - 1) from pk_sub (b := 1) n0]
      exact min_nI (by omega) (by omega) g1
    · rw [m_J9_min_7cf53]
      split
      · exact ⟨_, rfl, fun h => absurd h n0⟩
      · exact ⟨_, rfl, fun h => absurd h n0⟩
  have hc := rest_c37 hs1 p1 (x := nI nb - (1 : Int32)) (y := y) (w := nb - 1 - min (max 1 (hd - 1)) (nb - 1) + 1) (fun n1 => by
    rw [hy n1, show nI nb - (1 : Int32) = nI (nb - 1) from pk_sub (b := 1) n1, pk_sub (Nat.min_le_right _ _), nI_1]) (by omega) F 0 (by omega) (by omega)
  -- the reference
  obtain ⟨y2, hy2, em⟩ : ∃ y2 : Int32, (1 ≤ nb → y2 = nI (min (max 1 (hd - 1)) (nb - 1))) ∧ m_X10_rest g1 = m_X10_rest_54 fuL (nI (2 ^ nb - 1)) y2 0 0 g1 := by
    have hr : m_X10_rest g1 = m_X10_rest_27 (nI (2 ^ nb - 1)) (nI (max 1 (hd - 1))) g1 := by
      rw [m_X10_rest, u4, mask1 b1, u6]
      show (if nI hd ≤ (1 : Int32) then m_X10_rest_27 (nI (2 ^ nb - 1)) (1 : Int32) g1 else m_X10_rest_27 (nI (2 ^ nb - 1)) (nI hd - (1 : Int32)) g1) = _
      by_cases q : hd ≤ 1
      · rw [if_pos (by exact (nI_leI (b := 1) (by omega) (by omega)).mpr q), Nat.max_eq_left (by omega)]
        rfl
      · rw [if_neg (fun w => by exact q ((nI_leI (b := 1) (by omega) (by omega)).mp w)), Nat.max_eq_right (by omega), show nI hd - (1 : Int32) = nI (hd - 1) from pk_sub (b := 1) b4]
    rw [hr, m_X10_rest_27, u4]
    by_cases n0 : 1 ≤ nb
    · rw [show nI nb - (1 : Int32) = nI (nb - 1) from pk_sub (b := 1) n0]
      by_cases q : nb - 1 ≤ max 1 (hd - 1)
      · exact ⟨nI (nb - 1), fun _ => by rw [Nat.min_eq_right q], by rw [if_pos (by exact (nI_leI (by omega) (by omega)).mpr q)]⟩
      · exact ⟨nI (max 1 (hd - 1)), fun _ => by rw [Nat.min_eq_left (by omega)], by rw [if_neg (fun w => by exact q ((nI_leI (by omega) (by omega)).mp w))]⟩
    · split
      · exact ⟨_, fun h => absurd h n0, rfl⟩
      · exact ⟨_, fun h => absurd h n0, rfl⟩
  obtain ⟨g2, e2, s2⟩ := rest_m54 (T := tv g) (M := mx_ g) (hd := hd) (nh := nh) (nb := nb) (k := min (max 1 (hd - 1)) (nb - 1)) (fun _ => Nat.min_le_right _ _) y2 hy2 F 0 g1 hs1 (by omega) (by omega)
  refine ⟨nI (bm (fun b => dw (tv g) (mx_ g) nb nh (mset (2 ^ nb - 1) b false) (nb - 1 - min (max 1 (hd - 1)) (nb - 1) + 1)) nb), g1, g2, ?_, ?_, (s1.tr s2).gv hg0⟩
  · rw [m_X9_rest, m_X7_bellsThatMayRest, e1, bdd_some, u3, emax, bdd_some, u1, ey, bdd_some, eF]
    rw [show m_X7_bellsThatMayRest_37 F (nI nb - (1 : Int32)) y 0 0 g1 = some (nI (bm (fun b => dw (tv g) (mx_ g) nb nh (mset (2 ^ nb - 1) b false) (nb - 1 - min (max 1 (hd - 1)) (nb - 1) + 1)) nb), g1) from hc, bdd_some]
  · rw [em, eF]
    exact e2
