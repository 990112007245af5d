/-! scratch places -/
def scr (c i : Nat) : Bool := decide (23 ≤ c ∧ c ≤ 28) || (decide (52 ≤ c ∧ c ≤ 54) || decide (c = 40 ∧ 29 ≤ i ∧ i ≤ 31))
def sc_ (g g' : Mm) : Prop := (∀ c i, scr c i = false → rdI g' c i = rdI g c i) ∧ g'.2 = g.2
theorem sc_.rf {g : Mm} : sc_ g g := ⟨fun _ _ _ => rfl, rfl⟩
theorem sc_.tr {g g' g2 : Mm} (h : sc_ g g') (h2 : sc_ g' g2) : sc_ g g2 := ⟨fun c i q => (h2.1 c i q).trans (h.1 c i q), h2.2.trans h.2⟩
theorem sc_.w {g g' : Mm} {c i : Nat} {v : Int32} (h : sc_ g g') (q : scr c i = true) : sc_ g (wrI g' c i v) := by
  refine ⟨fun d j z => ?_, h.2⟩
  rw [rI_wI, if_neg]
  · exact h.1 d j z
  · rintro ⟨rfl, rfl⟩
    rw [q] at z
    cases z
theorem scr_dj (f : Int32) {c i : Nat} (h : scr c i = true) : pl_t c i = false ∧ pl_x c i = false ∧ pl_c c i = false ∧ pl_p c i = false ∧ pl_e c i = false ∧ pl_a c i = false ∧ pl_s c i = false ∧ pl_l f c i = false := by
  have := pgm_01 f
  simp only [scr, pl_t, pl_x, pl_c, pl_p, pl_e, pl_a, pl_s, pl_l, Bool.or_eq_true, Bool.and_eq_true, decide_eq_true_eq, beq_iff_eq, Bool.or_eq_false_iff, Bool.and_eq_false_iff, beq_eq_false_iff_ne] at *
  omega
theorem sc_.kp {g g' : Mm} (h : sc_ g g') {P : Nat → Nat → Bool} (hP : ∀ c i, scr c i = true → P c i = false) : kp_ P g g' := fun c i hc => h.1 c i (by
  cases q : scr c i with
  | false => rfl
  | true => rw [hP c i q] at hc; cases hc)
theorem sc_.gv {g g' : Mm} (h : sc_ g g') (hg : gv_ g) : gv_ g' := by
  obtain ⟨nb, nh, hd, cd, ck, tl, rt, nn, na, ra, f, hT, hX, hC, hP, hL, hE, hA, hS⟩ := hg
  exact ⟨nb, nh, hd, cd, ck, tl, rt, nn, na, ra, f, hT.cong (h.kp fun c i q => (scr_dj f q).1), hX.cong (h.kp fun c i q => (scr_dj f q).2.1), hC.cong (h.kp fun c i q => (scr_dj f q).2.2.1), hP.cong (h.kp fun c i q => (scr_dj f q).2.2.2.1), hL.cong (h.kp fun c i q => (scr_dj f q).2.2.2.2.2.2.2), hE.cong (h.kp fun c i q => (scr_dj f q).2.2.2.2.1), hA.cong (h.kp fun c i q => (scr_dj f q).2.2.2.2.2.1), hS.cong (h.kp fun c i q => (scr_dj f q).2.2.2.2.2.2.1) (fun i => by unfold rdL; rw [h.2]; exact ⟨rfl, rfl⟩)⟩
theorem sv.sc {nb nh hd : Nat} {T : Nat → Nat → Nat} {M : Nat → Nat → Bool} {g g' : Mm} (hs : sv nb nh hd T M g) (h : sc_ g g') : sv nb nh hd T M g' := hs.cong (h.kp fun c i q => by
  show (pl_t c i || pl_x c i) = false
  rw [(scr_dj 0 q).1, (scr_dj 0 q).2.1]
  rfl)
theorem sc_23 {g g' : Mm} (h : ∀ c k, c ≠ 23 → c ≠ 24 → rdI g' c k = rdI g c k) (h2 : g'.2 = g.2) : sc_ g g' := ⟨fun c i q => h c i (by rintro rfl; cases q) (by rintro rfl; cases q), h2⟩
theorem sc_fw (X : Nat) (p : Nat × Nat) (g : Mm) : sc_ g (fw X p g) := ((sc_.rf.w rfl).w rfl).w rfl
theorem hf18 {nb nh hd : Nat} {T : Nat → Nat → Nat} {M : Nat → Nat → Bool} {g : Mm} (hs : sv nb nh hd T M g) (K : Int32 → Int32 → Int32 → Mm → Option (Int32 × Mm)) (p : Int32) {X i : Nat} (hX : X < 64) (hi : i < nh) : ∀ (fu j : Nat), nh < j + fu → i < j → j ≤ nh →
    m_X7_hourOfFault_18 K fu (nI X) p (nI i) (nI j) g = oj ((rj nh i j).find? (flt T M nb X)) (fun q => some (if p = 1 then nI q.1 else nI q.2, g)) (K (nI X) p (nI (i + 1)) g) := by
  obtain ⟨⟨b1, b2, b3, b4, b5⟩, ⟨t1, t2, t3, t4, t5, t6⟩, -⟩ := id hs.1
  intro fu
  induction fu with
  | zero => intro j h1 h0 h2; omega
  | succ fu ih =>
    intro j h1 h0 h2
    rw [m_X7_hourOfFault_18, t2]
    by_cases q : j = nh
    · subst q
      rw [if_pos (by rw [nI_leI (by omega) (by omega)]; omega), rj_end (Nat.le_refl _), nI_1]
      rfl
    · have e := ih (j + 1) (by omega) (by omega) (by omega)
      have hD := Dm_lt T b1 i j
      rw [if_neg (by rw [nI_leI (by omega) (by omega)]; omega), hs.mc (by omega) (by omega), bdd_some, rj_next (by omega), List.find?_cons, nI_1, flt]
      cases z : M i j with
      | true =>
        rw [if_neg (show ¬ bz true = 0 by decide)]
        exact e
      | false =>
        rw [if_pos (show bz false = 0 from rfl), hs.dc (by omega) (by omega), bdd_some, nI_and]
        have hlt := and_lt64 (b := X) hD
        by_cases y : Dm T nb i j &&& X = 0
        · rw [if_pos (show nI (Dm T nb i j &&& X) = 0 by rw [y]; rfl), decide_eq_true y]
          show _ = some (if p = 1 then nI i else nI j, g)
          split <;> rfl
        · rw [if_neg (show ¬ nI (Dm T nb i j &&& X) = (0 : Int32) from fun w => y ((nI_eq (b := 0) (by omega) (by omega)).mp w)), decide_eq_false y]
          exact e
theorem hf2 {nb nh hd : Nat} {T : Nat → Nat → Nat} {M : Nat → Nat → Bool} {g : Mm} (hs : sv nb nh hd T M g) (p : Int32) {X : Nat} (hX : X < 64) : ∀ (fu i : Nat), nh < i + fu → i ≤ nh →
    m_X7_hourOfFault_2 fu (nI X) p (nI i) g = oj ((ri nh i).find? (flt T M nb X)) (fun q => some (if p = 1 then nI q.1 else nI q.2, g)) (some (-2, g)) := by
  obtain ⟨⟨b1, b2, b3, b4, b5⟩, ⟨t1, t2, t3, t4, t5, t6⟩, -⟩ := id hs.1
  intro fu
  induction fu with
  | zero => intro i h1 h2; omega
  | succ fu ih =>
    intro i h1 h2
    rw [m_X7_hourOfFault_2, t2]
    by_cases q : i = nh
    · subst q
      rw [if_pos (by rw [nI_leI (by omega) (by omega)]; omega), ri_end (Nat.le_refl _)]
      rfl
    · obtain ⟨F, eF, hF⟩ := fu_get
      rw [if_neg (by rw [nI_leI (by omega) (by omega)]; omega), nI_1, ri_next (n := nh) (i := i) (by omega), List.find?_append, eF, hf18 hs _ p hX (show i < nh by omega) F (i + 1) (by omega) (by omega) (by omega), ih (i + 1) (by omega) (by omega)]
      cases (rj nh i (i + 1)).find? (flt T M nb X) <;> rfl
theorem heardSet_c {nb hd X : Nat} {g : Mm} (t1 : rdI g 1 0 = nI nb) (t3 : rdI g 1 2 = nI hd) (hb : nb ≤ 6) (hh : hd ≤ 6) (hX : X < 2 ^ 24) : m_X7_isHeardSet (nI X) g = some (bz (decide (pc24 X = min hd nb)), g) := by
  have hpc := pc24_le hX
  rw [m_X7_isHeardSet, bitCount_nI hX, bdd_some, heard_c t1 t3 hb hh, bdd_some]
  by_cases z : pc24 X = min hd nb
  · rw [if_pos (by rw [z]), decide_eq_true z]
    rfl
  · rw [if_neg (fun w => by exact z ((nI_eq (by omega) (by omega)).mp w)), decide_eq_false z]
    rfl
theorem mk_len2 {T : Nat → Nat → Nat} {M : Nat → Nat → Bool} {nb nh : Nat} (hh : nh ≤ 24) : (mk_ T M nb (ri nh 0)).length ≤ 276 := Nat.le_trans (mk_len _) (pair_len nh (by omega))
theorem adi_dw {nb nh hd : Nat} {T : Nat → Nat → Nat} {M : Nat → Nat → Bool} {g : Mm} (hs : sv nb nh hd T M g) (hp : pk_ (mk_ T M nb (ri nh 0)) g) {S w : Nat} (hS : S < 2 ^ 31) (hw : w < 2 ^ 31) : m_X7_allDifferIn (nI S) (nI w) g = some (bz (dw T M nb nh S w), g) := adi (nb := nb) (L := mk_ T M nb (ri nh 0)) hp (mk_lt hs.1.1.1 _) (mk_len2 hs.1.1.2.2.1) hS hw
theorem full_sub {nb X : Nat} (hb : nb ≤ 6) (h : X < 2 ^ nb) : nsub X (2 ^ nb - 1) = 0 := by
  have h64 := pow6 hb
  refine (nsub_iff X (by omega) (2 ^ nb - 1) (by omega)).mpr ?_
  rw [Nat.and_two_pow_sub_one_eq_mod, Nat.mod_eq_of_lt h]
def tf (p : Int32) (q : Nat × Nat × Nat) : Int32 := if p = 0 then nI q.1 else if p = 1 then nI q.2.1 else nI q.2.2
theorem ff6 {nb nh hd : Nat} {T : Nat → Nat → Nat} {M : Nat → Nat → Bool} {g : Mm} (hs : sv nb nh hd T M g) (hp : pk_ (mk_ T M nb (ri nh 0)) g) (p : Int32) : ∀ (fu X : Nat), 2 ^ nb < X + fu → X ≤ 2 ^ nb →
    m_X7_firstFault_6 fu p (nI X) g = of3 (fs (ff T M nb nh (2 ^ nb - 1) (min hd nb)) (2 ^ nb - X) X) (fun q => some (tf p q, g)) (some (-2, g)) := by
  obtain ⟨⟨b1, b2, b3, b4, b5⟩, ⟨t1, t2, t3, t4, t5, t6⟩, -⟩ := id hs.1
  have h64 := pow6 b1
  have h0 := Nat.two_pow_pos nb
  intro fu
  induction fu with
  | zero => intro X h1 h2; omega
  | succ fu ih =>
    intro X h1 h2
    rw [m_X7_firstFault_6, allBells_c t1 b1, bdd_some]
    by_cases q : X = 2 ^ nb
    · rw [if_pos (by rw [nI_ltI (by omega) (by omega)]; omega), show 2 ^ nb - X = 0 by omega]
      rfl
    · have e := ih (X + 1) (by omega) (by omega)
      have hX : X < 64 := by omega
      rw [if_neg (by rw [nI_ltI (by omega) (by omega)]; omega), heardSet_c t1 t3 b1 (by omega) (by omega), bdd_some, show 2 ^ nb - X = (2 ^ nb - (X + 1)) + 1 by omega, fs, nI_1]
      by_cases z : pc24 X = min hd nb
      · have hff : ff T M nb nh (2 ^ nb - 1) (min hd nb) X = (ri nh 0).find? (flt T M nb X) := by rw [ff, if_pos ⟨full_sub b1 (by omega), z⟩]
        rw [decide_eq_true z, if_neg (show ¬ bz true = 0 by decide), hff]
        rw [show m_X7_allDifferIn (nI X) (1 : Int32) g = some (bz (dw T M nb nh X 1), g) from adi_dw hs hp (w := 1) (by omega) (by omega), bdd_some]
        cases y : dw T M nb nh X 1 with
        | true =>
          rw [if_neg (show ¬ bz true = 0 by decide), (dw_one b1).mp y]
          exact e
        | false =>
          rw [if_pos (show bz false = 0 from rfl)]
          cases w : (ri nh 0).find? (flt T M nb X) with
          | none => rw [(dw_one b1).mpr w] at y; cases y
          | some a =>
            by_cases p0 : p = 0
            · rw [if_pos p0]
              show _ = some (tf p (X, a), g)
              rw [tf, if_pos p0]
            · obtain ⟨F, eF, hF⟩ := fu_get
              have e2 := hf2 hs p hX F 0 (by omega) (by omega)
              rw [w] at e2
              rw [if_neg p0, m_X7_hourOfFault, eF]
              rw [show m_X7_hourOfFault_2 F (nI X) p 0 g = some (if p = 1 then nI a.1 else nI a.2, g) from e2, bdd_some]
              show _ = some (tf p (X, a), g)
              rw [tf, if_neg p0]
      · rw [decide_eq_false z, if_pos (show bz false = 0 from rfl), ff, if_neg (fun w => by exact z w.2)]
        exact e
theorem allTold_c {nb nh hd : Nat} {T : Nat → Nat → Nat} {M : Nat → Nat → Bool} {g : Mm} (hs : sv nb nh hd T M g) : ∃ g1, m_X7_allTold g = some (bz (dw T M nb nh (2 ^ nb - 1) (nb - min hd nb + 1)), g1) ∧ sc_ g g1 := by
  have b1 := hs.1.1.1
  have h64 := pow6 b1
  obtain ⟨g1, e1, p1, c1, d1⟩ := all_pairs hs
  have h1 := sc_23 c1 d1
  have hs1 := hs.sc h1
  obtain ⟨⟨-, -, -, -, b5⟩, ⟨t1, -, t3, -⟩, -⟩ := id hs1.1
  refine ⟨g1, ?_, h1⟩
  rw [m_X7_allTold, e1, bdd_some, allBells_c t1 b1, bdd_some, wanted_c t1 t3 b1 b5, bdd_some, adi_dw hs1 p1 (by omega) (by omega), bdd_some, zb_bz, gdd_true]
theorem firstFault_c {nb nh hd : Nat} {T : Nat → Nat → Nat} {M : Nat → Nat → Bool} {g : Mm} (hs : sv nb nh hd T M g) (p : Int32) : ∃ g1, m_X7_firstFault p g = of3 (fs (ff T M nb nh (2 ^ nb - 1) (min hd nb)) (2 ^ nb - 1) 1) (fun q => some (tf p q, g1)) (some (-2, g1)) ∧ sc_ g g1 := by
  have b1 := hs.1.1.1
  have h64 := pow6 b1
  have h0 := Nat.two_pow_pos nb
  obtain ⟨g1, e1, p1, c1, d1⟩ := all_pairs hs
  have h1 := sc_23 c1 d1
  obtain ⟨F, eF, hF⟩ := fu_get
  refine ⟨g1, ?_, h1⟩
  rw [m_X7_firstFault, e1, bdd_some, eF]
  exact ff6 (hs.sc h1) p1 p F 1 (by omega) (by omega)
theorem tb_of {nb nh hd : Nat} {T : Nat → Nat → Nat} {M : Nat → Nat → Bool} {g : Mm} (hs : sv nb nh hd T M g) {S k : Nat} (hS : S < 64) (hk : k < 100) : m_X10_tellsBy (nI S) (nI k) g = of3 (fs (ff T M nb nh S k) (2 ^ nb) 0) (fun p => some (0, fw p.1 p.2 g)) (some (1, g)) := by
  have h64 := pow6 hs.1.1.1
  obtain ⟨F, eF, hF⟩ := fu_get
  rw [m_X10_tellsBy, eF]
  exact tb2 hs hS hk F 0 (by omega) (Nat.zero_le _)
theorem fs_01 {T : Nat → Nat → Nat} {M : Nat → Nat → Bool} {nb nh S k : Nat} (hk : 1 ≤ k) : fs (ff T M nb nh S k) (2 ^ nb) 0 = fs (ff T M nb nh S k) (2 ^ nb - 1) 1 := by
  have h0 := Nat.two_pow_pos nb
  have e : fs (ff T M nb nh S k) ((2 ^ nb - 1) + 1) 0 = fs (ff T M nb nh S k) (2 ^ nb - 1) 1 := by
    rw [fs, ff, if_neg (fun w => by have h := w.2; rw [show pc24 0 = 0 by decide] at h; omega)]
  rw [← e, show 2 ^ nb - 1 + 1 = 2 ^ nb by omega]
theorem all_pc {nb : Nat} (hb : nb ≤ 6) : pc24 (2 ^ nb - 1) = nb := pc_all nb (by omega)
theorem mask1 {nb : Nat} (hb : nb ≤ 6) : shlI (1 : Int32) (nI nb) - (1 : Int32) = nI (2 ^ nb - 1) := by
  rw [shl_1 (by omega)]
  exact pk_sub (b := 1) (Nat.two_pow_pos nb)
set_option maxHeartbeats 1000000 in
theorem op_tells (a0 : Int32) {g : Mm} (hg : gv_ g) : al_ (m_X9_tells a0) (m_X10_tells a0) g := by
  have hg0 := hg
  obtain ⟨nb, nh, hd, cd, ck, tl, rt, nn, na, ra, f, hT, hX, hC, hP, hL, hE, hA, hS⟩ := hg
  obtain ⟨⟨b1, b2, b3, b4, b5⟩, ⟨t1, t2, t3, t4, t5, t6⟩, -⟩ := id hT
  have h64 := pow6 b1
  have hp0 := Nat.two_pow_pos nb
  rcases i_cases a0 with h | ⟨v, hv, rfl⟩
  · refine al_.same (r := -1) hg0 ?_ ?_
    · rw [m_X9_tells, if_pos (neg_lt0 h)]
    · rw [m_X10_tells, in_neg h (by decide), bdd_some, if_pos (show bz false = 0 from rfl)]
  · by_cases hv3 : v ≤ 3
    · have c1 : ¬ nI v < (0 : Int32) := fun w => by have := (nI_ltI (b := 0) hv (by omega)).mp w; omega
      have c2 : nI v ≤ (3 : Int32) := (nI_leI (b := 3) hv (by omega)).mpr hv3
      have mi : m_X10_in (nI v).toInt64 0 3 g = some (bz true, g) := by rw [in_nI 0 3 0 3 hv rfl rfl, decide_eq_true (by omega)]
      by_cases n0 : nb = 0
      · subst n0
        refine al_.same (r := -5) hg0 ?_ ?_
        · rw [m_X9_tells, if_neg c1, if_pos c2, t1, if_pos (show nI 0 = 0 from rfl)]
        · rw [m_X10_tells, mi, bdd_some, if_neg (show ¬ bz true = 0 by decide), t4, if_pos (show nI 0 = 0 from rfl)]
      · have n1 : ¬ nI nb = (0 : Int32) := fun w => n0 ((nI_eq (b := 0) (by omega) (by omega)).mp w)
        have hs := sv.self hT hX
        obtain ⟨g1, e1, s1⟩ := allTold_c hs
        have hs1 := hs.sc s1
        obtain ⟨g2, e2, s2⟩ := firstFault_c hs1 (nI v)
        have hs2 := hs1.sc s2
        have hk : 1 ≤ min hd nb := by omega
        have hfd := fs_dw (T := tv g) (M := mx_ g) (nh := nh) (S := 2 ^ nb - 1) (k := min hd nb) b1 (by omega) (by rw [all_pc b1]; omega)
        rw [all_pc b1, fs_01 hk] at hfd
        have mm : ∀ g3, sv nb nh hd (tv g) (mx_ g) g3 → m_X10_tells (nI v) g3 = bdd (of3 (fs (ff (tv g) (mx_ g) nb nh (2 ^ nb - 1) (min hd nb)) (2 ^ nb - 1) 1) (fun p => some (0, fw p.1 p.2 g3)) (some (1, g3))) (fun ra9 ga10 => (if nI v = (3 : Int32) then (if ra9 = (0 : Int32) then some ((0 : Int32), ga10) else some ((1 : Int32), ga10)) else (if ra9 = (0 : Int32) then (if nI v = (0 : Int32) then some ((rdI ga10 40 29), ga10) else (if nI v = (1 : Int32) then some ((rdI ga10 40 30), ga10) else some ((rdI ga10 40 31), ga10))) else some ((-2 : Int32), ga10)))) := by
          intro g3 h3
          obtain ⟨-, ⟨-, -, -, u4, -, u6⟩, -⟩ := id h3.1
          rw [m_X10_tells, in_nI 0 3 0 3 hv rfl rfl, decide_eq_true (by omega), bdd_some, if_neg (show ¬ bz true = 0 by decide), u4, if_neg n1, heard_m u4 u6 b1 b5, bdd_some, mask1 b1, tb_of h3 (by omega) (by omega), fs_01 hk]
        cases q : fs (ff (tv g) (mx_ g) nb nh (2 ^ nb - 1) (min hd nb)) (2 ^ nb - 1) 1 with
        | none =>
          have hD := hfd.mp q
          rw [hD] at e1
          have m1 := mm g1 hs1
          rw [q] at m1
          refine ⟨if nI v = (3 : Int32) then 1 else -2, g1, g1, ?_, ?_, s1.gv hg0⟩
          · rw [m_X9_tells, if_neg c1, if_pos c2, t1, if_neg n1, e1, bdd_some, if_neg (show ¬ bz true = 0 by decide), if_neg (show ¬ bz true = 0 by decide)]
            split <;> rfl
          · rw [m1]
            show (if nI v = (3 : Int32) then _ else _) = _
            split <;> rfl
        | some a =>
          have hD : dw (tv g) (mx_ g) nb nh (2 ^ nb - 1) (nb - min hd nb + 1) = false := by
            cases z : dw (tv g) (mx_ g) nb nh (2 ^ nb - 1) (nb - min hd nb + 1) with
            | false => rfl
            | true => rw [hfd.mpr z] at q; cases q
          rw [hD] at e1
          rw [q] at e2
          by_cases z3 : nI v = (3 : Int32)
          · have m1 := mm g1 hs1
            rw [q] at m1
            refine ⟨0, g1, fw a.1 a.2 g1, ?_, ?_, (s1.tr (sc_fw _ _ _)).gv hg0⟩
            · rw [m_X9_tells, if_neg c1, if_pos c2, t1, if_neg n1, e1, bdd_some, if_pos z3]
              rfl
            · rw [m1]
              show (if nI v = (3 : Int32) then _ else _) = _
              rw [if_pos z3]
              rfl
          · have m1 := mm g2 hs2
            rw [q] at m1
            refine ⟨tf (nI v) a, g2, fw a.1 a.2 g2, ?_, ?_, ((s1.tr s2).tr (sc_fw _ _ _)).gv hg0⟩
            · rw [m_X9_tells, if_neg c1, if_pos c2, t1, if_neg n1, e1, bdd_some, if_neg z3, if_pos (show bz false = 0 from rfl), e2]
              rfl
            · rw [m1]
              show (if nI v = (3 : Int32) then _ else _) = _
              rw [if_neg z3, if_pos rfl, tf]
              split
              · rfl
              · split <;> rfl
    · refine al_.same (r := -1) hg0 ?_ ?_
      · rw [m_X9_tells, if_neg (fun w => by have := (nI_ltI (b := 0) hv (by omega)).mp w; omega), if_neg (fun w => by exact hv3 ((nI_leI (b := 3) hv (by omega)).mp w))]
      · rw [m_X10_tells, in_nI 0 3 0 3 hv rfl rfl, decide_eq_false (by omega), bdd_some, if_pos (show bz false = 0 from rfl)]
