/-! a line of the text -/
def lineM (K : Int32 → Int32 → Int32 → Mm → Option (Int32 × Mm)) (x1 x2 : Int32) (g : Mm) : Option (Int32 × Mm) := bdd (gm_ 80 5 0 0 0 0 g) (fun ra3 ga4 => (if (rdI ga4 40 21) = (0 : Int32) then bdd (m_X10_at ga4) (fun ra7 ga8 => (if ra7 = (63 : Int32) then (if ra3 = (0 : Int32) then m_X10_walks_77 (m_X10_walks_85 K) x1 x2 (0 : Int32) (wrI ga8 40 20 ((rdI ga8 40 20) + (1 : Int32))) else m_X10_walks_77 (m_X10_walks_85 K) x1 x2 (1 : Int32) (wrI ga8 40 20 ((rdI ga8 40 20) + (1 : Int32)))) else m_X10_walks_85 K x1 x2 ra3 (1 : Int32) ga8)) else m_X10_walks_85 K x1 x2 ra3 (1 : Int32) ga4))
def XL (t : Nat → Nat) (n p : Nat) : Prop := ∃ (ok : Bool) (p' : Nat) (code : Nat → List (Int32 × Int32)) (val : (Nat → Int32) → Int32) (cnt : (Nat → Int32) → Bool), p ≤ p' ∧ p' ≤ n ∧ (ok = true → ∀ s, 1 ≤ (code s).length ∧ (code s).length ≤ p' - p + 1) ∧
  (∀ d s g, s ≤ p → rg t n d s p g → ∃ g', m_X3_readLine g = some (bz ok, g') ∧ rf_ d s g g' ∧ rdI g' 11 2 = nI p' ∧ (ok = true → rdI g' (pgm d) 4 = nI (s + (code s).length) ∧ cd d g' s (code s))) ∧
  (∀ g, wg t n 0 p g → ∃ v c g', (∀ K x1 x2, lineM K x1 x2 g = m_X10_walks_85 K x1 x2 v (bz c) g') ∧ wf_ g g' ∧ rdI g' 40 20 = nI p' ∧ (ok = true → rdI g' 40 21 = 0 ∧ rdI g' 40 22 = nI 0 ∧ v = val (nmv g) ∧ c = cnt (nmv g)) ∧ (ok = false → rdI g' 40 21 = 1)) ∧
  (ok = true → ∀ f len M fu frm a g, kg f len M g → cd f g a (code a) → a + (code a).length ≤ len → frm ≤ a →
    if cnt M = true then ∃ g', m_X4_work_6 (fu + (code a).length) f (nI 0) (nI frm) (nI a) g = some (val M, g') ∧ ko f 0 g g'
    else ∃ g', m_X4_work_6 (fu + (code a).length) f (nI 0) (nI frm) (nI a) g = m_X4_work_6 fu f (nI 0) (nI (a + (code a).length)) (nI (a + (code a).length)) g' ∧ ko f 0 g g')
theorem wk_passes {f : Int32} {len fu frm : Nat} {N : Nat → Int32} {g : Mm} (k : kg f len N g) (hf : frm ≤ len) (x1 : Int32) : ∀ j a, a + j = frm → m_X4_work_6 (fu + j) f x1 (nI frm) (nI a) g = m_X4_work_6 fu f x1 (nI frm) (nI frm) g := by
  have := k.1
  intro j
  induction j with
  | zero => intro a h; rw [show a = frm by omega]; rfl
  | succ j ih =>
    intro a h
    rw [← Nat.add_assoc, wk_pass k (by omega) (by omega) (by omega), ih (a + 1) (by omega)]
theorem skip_c {d : Int32} {s L : Nat} {g : Mm} (h : rdI g (pgm d) 4 = nI L) (hs : s < L) (hL : L ≤ 121) : m_X4_skipToEnd d (nI s) g = some (0, wrI g (pgm d + 2) s (nI L)) := by
  rw [m_X4_skipToEnd, h, if_neg (by rw [nI_leI (by omega) (by omega)]; omega), ix_nI (by omega) (by omega), gdd_true, nI_clamp (by omega)]
theorem line_ok {t : Nat → Nat} {n p : Nat} (ht : tb_ t n) (hp : p ≤ n) : XL t n p := by
  have hn := ht.1
  have A := all_ok ht 6 0 rfl 0 (by omega)
  obtain ⟨ok1, p1, code1, val1, a1, a2, a3, R1, W1, O1⟩ := A p hp
  have R1 := R1 120 (by decide)
  have W1 := W1 80 (by decide)
  have fn : ∀ g, fnc 0 0 120 g = gl_ 120 1 0 0 0 0 g := fun g => fnc_k (by decide) 0 120 g
  cases ok1 with
  | false =>
    refine ⟨false, p1, fun _ => [], fun _ => 0, fun _ => true, a1, a2, fun h => absurd h (by decide), fun d s g hs hr => ?_, fun g hw => ?_, fun h => absurd h (by decide)⟩
    · obtain ⟨g2, e1, e2, e3, -⟩ := R1 d s g hs hr
      rw [fn] at e1
      refine ⟨g2, ?_, e2, e3, fun h => absurd h (by decide)⟩
      rw [m_X3_readLine, e1, bdd_some, if_pos (show bz false = 0 from rfl)]
      rfl
    · obtain ⟨v, g2, e1, e2, e3, -, e5⟩ := W1 g hw
      have h21 := e5 rfl
      have e1' : gm_ 80 5 0 0 0 0 g = some (v, g2) := e1
      refine ⟨v, true, g2, fun K x1 x2 => ?_, e2, e3, fun h => absurd h (by decide), fun _ => h21⟩
      rw [lineM, e1', bdd_some, h21, if_neg (by decide)]
      rfl
  | true =>
    have hl1 := a3 rfl
    obtain ⟨o1, O1⟩ := O1 rfl
    by_cases hq : cc t n p1 = 63
    · have hp1 : p1 < n := (cc_lt ht (by omega)).1
      have ha : ac t n p1 = (63 : Int32) := (ac_iff (k := 63) ht (by omega)).mpr hq
      obtain ⟨ok2, p2, code2, val2, b1, b2, b3, R2, W2, O2⟩ := A (p1 + 1) (by omega)
      have R2 := R2 120 (by decide)
      have W2 := W2 80 (by decide)
      -- the class up to the second expression
      have cl : ∀ d s g, s ≤ p → rg t n d s p g → ∃ g4 g5, rf_ d s g g4 ∧ cd d g4 s code1 ∧ rdI g4 (pgm d + 1) (s + code1.length) = 5 ∧ rf_ d (s + code1.length + 1) g4 g5 ∧ rdI g5 11 2 = nI p2 ∧ rdI g5 11 4 = d ∧ (ok2 = true → rdI g5 (pgm d) 4 = nI (s + code1.length + 1 + code2.length) ∧ cd d g5 (s + code1.length + 1) code2) ∧
          m_X3_readLine g = if bz ok2 = (0 : Int32) then some ((0 : Int32), g5) else bdd (m_X4_add (rdI g5 11 4) 6 0 g5) (fun _ ga18 => bdd (m_X4_skipToEnd (rdI ga18 11 4) (nI (s + code1.length)) ga18) (fun _ ga21 => some ((1 : Int32), ga21))) := by
        intro d s g hs hr
        obtain ⟨g2, e1, e2, e3, e4⟩ := R1 d s g hs hr
        obtain ⟨e5, e6⟩ := e4 rfl
        rw [fn] at e1
        have hd1 := pgm_01 d
        have hr2 := hr.nx e2 e3 e5
        have hr3 := hr2.go (p1 + 1)
        have rf3 : rf_ d (s + code1.length) g2 (wrI g2 11 2 (nI (p1 + 1))) := rf_.rf.go _
        have rf4 := rf_add (d := d) (s := s + code1.length) (wrI g2 11 2 (nI (p1 + 1))) 5 0 (nI (s + code1.length + 1))
        have hr4 := hr3.nx (p' := p1 + 1) (s' := s + code1.length + 1) rf4 (by rw [rI_wI, if_neg (by omega), rI_wI, if_neg (by omega), rI_wI, if_neg (by omega)]; exact hr3.2.1) (by rw [rI_wI, if_pos ⟨rfl, rfl⟩])
        obtain ⟨g5, f1, f2, f3, f4⟩ := R2 d (s + code1.length + 1) _ (by omega) hr4
        rw [fn] at f1
        have x11 : rdI g5 11 4 = d := by rw [f2.1 11 4 (by omega) (by omega) (by omega)]; exact hr4.2.2.1
        refine ⟨_, g5, (e2.tr rf3 (by omega)).tr rf4 (by omega), cd_rf (cd_rf e6 rf3 (Nat.le_refl _)) rf4 (Nat.le_refl _), (cd_add _ _ _ _).1, f2, f3, x11, f4, ?_⟩
        rw [m_X3_readLine, e1, bdd_some, if_neg (show ¬ bz true = 0 by decide)]
        rw [show m_X3_isNext 63 g2 = some (bz (decide (cc t n p1 = 63)), g2) from next_c (k := 63) ht hr2 a2 (by omega), decide_eq_true hq, bdd_some, if_neg (show ¬ bz true = 0 by decide), e3, nI_1, hr3.2.2.1, hr3.2.2.2.1]
        dsimp only [lti]
        rw [add_c hr3.2.2.2.1 (by omega), bdd_some, f1, bdd_some]
      have ml : ∀ g, wg t n 0 p g → ∃ v c g', (∀ K x1 x2, lineM K x1 x2 g = m_X10_walks_85 K x1 x2 v (bz c) g') ∧ wf_ g g' ∧ rdI g' 40 20 = nI p2 ∧ (ok2 = true → rdI g' 40 21 = 0 ∧ rdI g' 40 22 = nI 0 ∧ v = val2 (nmv g) ∧ c = decide (val1 (nmv g) ≠ 0)) ∧ (ok2 = false → rdI g' 40 21 = 1) := by
        intro g hw
        obtain ⟨v, g2, e1, e2, e3, e4, -⟩ := W1 g hw
        obtain ⟨h21, h22, hv⟩ := e4 rfl
        have e1' : gm_ 80 5 0 0 0 0 g = some (v, g2) := e1
        have hw2 : wg t n 0 p1 g2 := ⟨hw.1.wf e2, e3, h21, h22⟩
        obtain ⟨v2, g4, f1, f2, f3, f4, f5⟩ := W2 _ (hw2.go (p1 + 1))
        have f1' : gm_ 80 5 0 0 0 0 (wrI g2 40 20 (nI (p1 + 1))) = some (v2, g4) := f1
        have wf0 : wf_ g2 (wrI g2 40 20 (nI (p1 + 1))) := wf_.rf.w _ (by omega) (by omega)
        refine ⟨v2, decide (v ≠ 0), g4, fun K x1 x2 => ?_, (e2.tr wf0).tr f2, f3, fun h => ?_, f5⟩
        · rw [lineM, e1', bdd_some, h21, if_pos rfl, hw2.at ht a2, bdd_some, if_pos ha, e3, nI_1]
          by_cases z : v = 0
          · rw [if_pos z, m_X10_walks_77, f1', bdd_some, decide_eq_false (fun w => w z)]
            rfl
          · rw [if_neg z, m_X10_walks_77, f1', bdd_some, decide_eq_true z]
            rfl
        · obtain ⟨x1, x2, x3⟩ := f4 h
          refine ⟨x1, x2, ?_, ?_⟩
          · rw [x3, nmv_wf wf0, nmv_wf e2]
          · rw [hv]
      cases ok2 with
      | false =>
        refine ⟨false, p2, fun _ => [], fun _ => 0, fun _ => true, by omega, b2, fun h => absurd h (by decide), fun d s g hs hr => ?_, fun g hw => ?_, fun h => absurd h (by decide)⟩
        · obtain ⟨g4, g5, c1, c2, c3, c4, c5, c6, c7, c8⟩ := cl d s g hs hr
          exact ⟨g5, by rw [c8, if_pos (show bz false = 0 from rfl)]; rfl, c1.tr c4 (by omega), c5, fun h => absurd h (by decide)⟩
        · obtain ⟨v, c, g', m1, m2, m3, -, m5⟩ := ml g hw
          exact ⟨v, c, g', m1, m2, m3, fun h => absurd h (by decide), m5⟩
      | true =>
        have hl2 := b3 rfl
        obtain ⟨o2, O2⟩ := O2 rfl
        have len : ∀ s, (code1 ++ ([((5 : Int32), nI (s + code1.length + 1 + code2.length + 1))] ++ (code2 ++ [((6 : Int32), (0 : Int32))]))).length = code1.length + 1 + code2.length + 1 := fun s => by
          rw [List.length_append, List.length_append, List.length_append, List.length_singleton, List.length_singleton]
          omega
        refine ⟨true, p2, fun s => code1 ++ ([(5, nI (s + code1.length + 1 + code2.length + 1))] ++ (code2 ++ [(6, 0)])), val2, fun M => decide (val1 M ≠ 0), by omega, b2, fun _ s => ?_, fun d s g hs hr => ?_, ml, fun _ => ?_⟩
        · show 1 ≤ (code1 ++ _).length ∧ (code1 ++ _).length ≤ _
          rw [len]
          omega
        · obtain ⟨g4, g5, c1, c2, c3, c4, c5, c6, c7, c8⟩ := cl d s g hs hr
          obtain ⟨c9, c10⟩ := c7 rfl
          have hd1 := pgm_01 d
          have rf6 := rf_add (d := d) (s := s + code1.length + 1 + code2.length) g5 6 0 (nI (s + code1.length + 1 + code2.length + 1))
          have cd6 := cd_add (d := d) (s := s + code1.length + 1 + code2.length) g5 6 0 (nI (s + code1.length + 1 + code2.length + 1))
          have l6 : rdI (wrI (wrI (wrI g5 (pgm d + 1) (s + code1.length + 1 + code2.length) 6) (pgm d + 2) (s + code1.length + 1 + code2.length) 0) (pgm d) 4 (nI (s + code1.length + 1 + code2.length + 1))) (pgm d) 4 = nI (s + code1.length + 1 + code2.length + 1) := by rw [rI_wI, if_pos ⟨rfl, rfl⟩]
          have x6 : rdI (wrI (wrI (wrI g5 (pgm d + 1) (s + code1.length + 1 + code2.length) 6) (pgm d + 2) (s + code1.length + 1 + code2.length) 0) (pgm d) 4 (nI (s + code1.length + 1 + code2.length + 1))) 11 4 = d := by rw [rI_wI, if_neg (by omega), rI_wI, if_neg (by omega), rI_wI, if_neg (by omega)]; exact c6
          have y6 : rdI (wrI (wrI (wrI g5 (pgm d + 1) (s + code1.length + 1 + code2.length) 6) (pgm d + 2) (s + code1.length + 1 + code2.length) 0) (pgm d) 4 (nI (s + code1.length + 1 + code2.length + 1))) 11 2 = nI p2 := by rw [rI_wI, if_neg (by omega), rI_wI, if_neg (by omega), rI_wI, if_neg (by omega)]; exact c5
          generalize hg6 : wrI (wrI (wrI g5 (pgm d + 1) (s + code1.length + 1 + code2.length) 6) (pgm d + 2) (s + code1.length + 1 + code2.length) 0) (pgm d) 4 (nI (s + code1.length + 1 + code2.length + 1)) = g6 at rf6 cd6 l6 x6 y6
          have rf7 : rf_ d (s + code1.length) g6 (wrI g6 (pgm d + 2) (s + code1.length) (nI (s + code1.length + 1 + code2.length + 1))) := ⟨fun c i q1 q2 q3 => by rw [rI_wI, if_neg (by omega)], rfl⟩
          refine ⟨_, ?_, ((c1.tr c4 (by omega)).tr rf6 (by omega)).tr rf7 (by omega), ?_, fun _ => ⟨?_, ?_⟩⟩
          · rw [c8, if_neg (show ¬ bz true = 0 by decide), c6, add_c c9 (by omega), bdd_some, hg6, x6, skip_c l6 (by omega) (by omega), bdd_some]
            rfl
          · rw [rI_wI, if_neg (by omega)]; exact y6
          · rw [rI_wI, if_neg (by omega)]
            show _ = nI (s + (code1 ++ _).length)
            rw [len, l6]
            congr 1
            omega
          · refine (cd_app _ _ _).mpr ⟨cd_rf (cd_rf (cd_rf c2 c4 (by omega)) rf6 (by omega)) rf7 (Nat.le_refl _), (cd_app _ _ _).mpr ⟨⟨?_, ?_, trivial⟩, (cd_app _ _ _).mpr ⟨?_, ?_⟩⟩⟩
            · rw [rI_wI, if_neg (by omega), rf6.1 _ _ (by omega) (by omega) (by omega), c4.1 _ _ (by omega) (by omega) (by omega)]; exact c3
            · rw [rI_wI, if_pos ⟨rfl, rfl⟩]
            · rw [List.length_singleton]
              exact cd_cong _ _ (cd_rf c10 rf6 (Nat.le_refl _)) (fun c i h1 h2 h3 => by rw [rI_wI, if_neg (by omega)])
            · rw [List.length_singleton]
              exact cd_cong _ _ cd6 (fun c i h1 h2 h3 => by rw [rI_wI, if_neg (by omega)])
        · intro f ln M fu frm a g k cdh h2 h3
          have h2 : a + (code1 ++ ([((5 : Int32), nI (a + code1.length + 1 + code2.length + 1))] ++ (code2 ++ [((6 : Int32), (0 : Int32))]))).length ≤ ln := h2
          show if decide (val1 M ≠ 0) = true then ∃ g', m_X4_work_6 (fu + (code1 ++ ([((5 : Int32), nI (a + code1.length + 1 + code2.length + 1))] ++ (code2 ++ [((6 : Int32), (0 : Int32))]))).length) f (nI 0) (nI frm) (nI a) g = _ ∧ _ else ∃ g', m_X4_work_6 (fu + (code1 ++ ([((5 : Int32), nI (a + code1.length + 1 + code2.length + 1))] ++ (code2 ++ [((6 : Int32), (0 : Int32))]))).length) f (nI 0) (nI frm) (nI a) g = m_X4_work_6 fu f (nI 0) (nI (a + (code1 ++ ([((5 : Int32), nI (a + code1.length + 1 + code2.length + 1))] ++ (code2 ++ [((6 : Int32), (0 : Int32))]))).length)) (nI (a + (code1 ++ ([((5 : Int32), nI (a + code1.length + 1 + code2.length + 1))] ++ (code2 ++ [((6 : Int32), (0 : Int32))]))).length)) g' ∧ _
          rw [len] at h2 ⊢
          obtain ⟨c1, c2⟩ := (cd_app _ _ _).mp cdh
          obtain ⟨c2, c3⟩ := (cd_app _ _ _).mp c2
          rw [List.length_singleton] at c3
          obtain ⟨c3, c4⟩ := (cd_app _ _ _).mp c3
          obtain ⟨g1, e1, e2, e3⟩ := O1 f ln M (fu + code2.length + 1 + 1) frm 0 a g k c1 (Nat.zero_le _) (by omega) h3
          have k1 := k.ko e3
          have c21 := cd_ko c2 e3
          have w := wk_skip (fu := fu + code2.length + 1) k1 (show a + code1.length < ln by omega) (show frm ≤ a + code1.length by omega) (show 0 + 1 ≤ a + code1.length by omega) c21.1 c21.2.1
          rw [e2] at w
          by_cases z : val1 M = 0
          · rw [if_neg (show ¬ decide (val1 M ≠ 0) = true by rw [decide_eq_false (fun w => w z)]; decide)]
            refine ⟨g1, ?_, e3⟩
            rw [if_pos z] at w
            rw [show fu + (code1.length + 1 + code2.length + 1) = fu + code2.length + 1 + 1 + code1.length by omega, e1, w, show a + (code1.length + 1 + code2.length + 1) = a + code1.length + 1 + code2.length + 1 by omega]
            exact wk_passes k1 (by omega) _ (code2.length + 1) (a + code1.length + 1) (by omega)
          · rw [if_pos (show decide (val1 M ≠ 0) = true from decide_eq_true z)]
            rw [if_neg z] at w
            obtain ⟨g2, f1, f2, f3⟩ := O2 f ln M (fu + 1) frm 0 (a + code1.length + 1) g1 k1 (cd_ko c3 e3) (Nat.zero_le _) (by omega) (by omega)
            have c41 := cd_ko (cd_ko c4 e3) f3
            have w2 := wk_ans (fu := fu) (k1.ko f3) (show a + code1.length + 1 + code2.length < ln by omega) (show frm ≤ a + code1.length + 1 + code2.length by omega) (show 0 + 1 ≤ a + code1.length + 1 + code2.length by omega) c41.1
            refine ⟨g2, ?_, e3.tr f3 (Nat.le_refl _)⟩
            rw [show fu + (code1.length + 1 + code2.length + 1) = fu + code2.length + 1 + 1 + code1.length by omega, e1, w, show fu + code2.length + 1 = fu + 1 + code2.length by omega, f1, w2, f2]
    · refine ⟨true, p1, fun _ => code1 ++ [(6, 0)], val1, fun _ => true, a1, a2, fun _ s => ?_, fun d s g hs hr => ?_, fun g hw => ?_, fun _ => ?_⟩
      · show 1 ≤ (code1 ++ _).length ∧ (code1 ++ _).length ≤ _
        rw [List.length_append, List.length_singleton]
        omega
      · obtain ⟨g2, e1, e2, e3, e4⟩ := R1 d s g hs hr
        obtain ⟨e5, e6⟩ := e4 rfl
        rw [fn] at e1
        have hd1 := pgm_01 d
        have hr2 := hr.nx e2 e3 e5
        have rf3 := rf_add (d := d) (s := s + code1.length) g2 6 0 (nI (s + code1.length + 1))
        refine ⟨_, ?_, e2.tr rf3 (by omega), ?_, fun _ => ⟨?_, (cd_app _ _ _).mpr ⟨cd_rf e6 rf3 (Nat.le_refl _), cd_add g2 _ _ _⟩⟩⟩
        · rw [m_X3_readLine, e1, bdd_some, if_neg (show ¬ bz true = 0 by decide)]
          rw [show m_X3_isNext 63 g2 = some (bz (decide (cc t n p1 = 63)), g2) from next_c (k := 63) ht hr2 a2 (by omega), decide_eq_false hq, bdd_some, if_pos (show bz false = 0 from rfl), hr2.2.2.1, add_c e5 (by omega), bdd_some]
          rfl
        · rw [rI_wI, if_neg (by omega), rI_wI, if_neg (by omega), rI_wI, if_neg (by omega)]; exact e3
        · rw [rI_wI, if_pos ⟨rfl, rfl⟩, List.length_append, List.length_singleton, ← Nat.add_assoc]
      · obtain ⟨v, g2, e1, e2, e3, e4, -⟩ := W1 g hw
        obtain ⟨h21, h22, hv⟩ := e4 rfl
        have e1' : gm_ 80 5 0 0 0 0 g = some (v, g2) := e1
        have hw2 : wg t n 0 p1 g2 := ⟨hw.1.wf e2, e3, h21, h22⟩
        refine ⟨v, true, g2, fun K x1 x2 => ?_, e2, e3, fun _ => ⟨h21, h22, hv, rfl⟩, fun h => absurd h (by decide)⟩
        rw [lineM, e1', bdd_some, h21, if_pos rfl, hw2.at ht a2, bdd_some, if_neg (show ¬ ac t n p1 = (63 : Int32) from fun w => hq ((ac_iff (k := 63) ht (by omega)).mp w))]
        rfl
      · intro f ln M fu frm a g k cdh h2 h3
        have h2 : a + (code1 ++ [((6 : Int32), (0 : Int32))]).length ≤ ln := h2
        rw [if_pos rfl]
        show ∃ g', m_X4_work_6 (fu + (code1 ++ [((6 : Int32), (0 : Int32))]).length) f (nI 0) (nI frm) (nI a) g = _ ∧ _
        rw [List.length_append, List.length_singleton] at h2 ⊢
        obtain ⟨c1, c2⟩ := (cd_app _ _ _).mp cdh
        obtain ⟨g1, e1, e2, e3⟩ := O1 f ln M (fu + 1) frm 0 a g k c1 (Nat.zero_le _) (by omega) h3
        have w := wk_ans (fu := fu) (k.ko e3) (show a + code1.length < ln by omega) (show frm ≤ a + code1.length by omega) (show 0 + 1 ≤ a + code1.length by omega) (cd_ko c2 e3).1
        refine ⟨g1, ?_, e3⟩
        rw [show fu + (code1.length + 1) = fu + 1 + code1.length by omega, e1, w, e2]
