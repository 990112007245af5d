/-! the whole text -/
def TT (t : Nat → Nat) (n p : Nat) : Prop := ∃ (ok : Bool) (p' : Nat) (code : Nat → List (Int32 × Int32)) (res : (Nat → Int32) → Option Int32), p ≤ p' ∧ p' ≤ n ∧ (ok = true → p' = n ∧ ∀ s, 1 ≤ (code s).length ∧ (code s).length ≤ n - p + 1) ∧
  (∀ d s g fu, s ≤ p → rg t n d s p g → n - p + 2 ≤ fu → ∃ g', bdd (m_X3_readLine g) (fun r g2 => m_X3_readAll_18 fu r g2) = m_X3_readAll_88 (if ok = true then -1 else nI p') g' ∧ rf_ d s g g' ∧ (ok = true → rdI g' (pgm d) 4 = nI (s + (code s).length) ∧ cd d g' s (code s))) ∧
  (∀ g x1 x2 fu, wg t n 0 p g → n - p + 3 ≤ fu → ∃ g' v, m_X10_walks_21 fu x1 x2 1 g = some (v, g') ∧ wf_ g g' ∧ rdI g' 40 20 = nI p' ∧ rdI g' 40 21 = bz (!ok) ∧ (ok = true → v = if x1 = 0 then (res (nmv g)).getD x2 else x2)) ∧
  (ok = true → ∀ f len M fu frm a g, kg f len M g → cd f g a (code a) → a + (code a).length = len → frm ≤ a → ∃ g', m_X4_work_6 (fu + (code a).length + 1) f (nI 0) (nI frm) (nI a) g = some ((res M).getD 0, g') ∧ ko f 0 g g')
theorem w21_line {t : Nat → Nat} {n p : Nat} {g : Mm} (hw : wg t n 0 p g) (fu : Nat) (x1 x2 : Int32) : m_X10_walks_21 (fu + 1) x1 x2 1 g = lineM (m_X10_walks_21 fu) x1 x2 g := by
  rw [m_X10_walks_21, if_neg (by decide), hw.2.2.1, if_pos rfl]
  rfl
theorem w21_end (fu : Nat) (x1 x2 : Int32) (g : Mm) : m_X10_walks_21 (fu + 1) x1 x2 0 g = m_X10_walks_149 x2 g := by rw [m_X10_walks_21, if_pos rfl]
theorem w85_bad (K : Int32 → Int32 → Int32 → Mm → Option (Int32 × Mm)) (x1 x2 v c : Int32) {g : Mm} (h : rdI g 40 21 = 1) : m_X10_walks_85 K x1 x2 v c g = K x1 x2 0 (wrI g 40 20 (rdI g 40 20)) := by
  rw [m_X10_walks_85, h, if_neg (by decide), m_X10_walks_106, h, if_neg (by decide), m_X10_walks_127, if_pos rfl, Int32.add_zero]
theorem w85_ok (K : Int32 → Int32 → Int32 → Mm → Option (Int32 × Mm)) (x1 x2 v : Int32) (c : Bool) {g : Mm} (h : rdI g 40 21 = 0) : m_X10_walks_85 K x1 x2 v (bz c) g = m_X10_walks_106 K (if c = true ∧ x1 = 0 then 1 else x1) (if c = true ∧ x1 = 0 then v else x2) g := by
  rw [m_X10_walks_85, h, if_pos rfl]
  cases c with
  | false => rw [if_pos (show bz false = 0 from rfl), if_neg (fun w => absurd w.1 (by decide)), if_neg (fun w => absurd w.1 (by decide))]
  | true =>
    rw [if_neg (show ¬ bz true = 0 by decide)]
    by_cases z : x1 = 0
    · rw [if_pos z, if_pos ⟨rfl, z⟩, if_pos ⟨rfl, z⟩]
    · rw [if_neg z, if_neg (fun w => z w.2), if_neg (fun w => z w.2)]
theorem r18_0 (fu : Nat) {g : Mm} {p : Nat} (h : rdI g 11 2 = nI p) : m_X3_readAll_18 (fu + 1) 0 g = m_X3_readAll_88 (nI p) g := by rw [m_X3_readAll_18, if_pos rfl, m_X3_readAll_65, if_pos rfl, h]
theorem text_step {t : Nat → Nat} {n p : Nat} (ht : tb_ t n) (hp : p ≤ n) (I : ∀ p1, p < p1 → p1 ≤ n → TT t n p1) : TT t n p := by
  have hn := ht.1
  obtain ⟨ok1, p1, code1, val, cnt, a1, a2, a3, C1, M1, O1⟩ := line_ok ht hp
  cases ok1 with
  | false =>
    refine ⟨false, p1, fun _ => [], fun _ => none, a1, a2, fun h => absurd h (by decide), fun d s g fu hs hr hf => ?_, fun g x1 x2 fu hw hf => ?_, fun h => absurd h (by decide)⟩
    · obtain ⟨fu, rfl⟩ : ∃ f, fu = f + 1 := ⟨fu - 1, by omega⟩
      obtain ⟨g2, e1, e2, e3, -⟩ := C1 d s g hs hr
      refine ⟨g2, ?_, e2, fun h => absurd h (by decide)⟩
      rw [e1, bdd_some, show bz false = 0 from rfl, r18_0 fu e3, if_neg (by decide)]
    · obtain ⟨fu, rfl⟩ : ∃ f, fu = f + 1 + 1 := ⟨fu - 2, by omega⟩
      obtain ⟨v, c, g2, e1, e2, e3, -, e5⟩ := M1 g hw
      have h21 := e5 rfl
      have b21 : rdI (wrI g2 40 20 (rdI g2 40 20)) 40 21 = 1 := by rw [rI_wI, if_neg (by omega)]; exact h21
      refine ⟨wrI (wrI g2 40 20 (rdI g2 40 20)) 40 21 1, x2, ?_, (e2.w _ (by omega) (by omega)).w _ (by omega) (by omega), ?_, ?_, fun h => absurd h (by decide)⟩
      · rw [w21_line hw, e1, w85_bad _ _ _ _ _ h21, w21_end, m_X10_walks_149, b21, if_neg (by decide)]
      · rw [rI_wI, if_neg (by omega), rI_wI, if_pos ⟨rfl, rfl⟩]; exact e3
      · rw [rI_wI, if_pos ⟨rfl, rfl⟩]; rfl
  | true =>
    have hl1 := a3 rfl
    have O1 := O1 rfl
    by_cases hq : cc t n p1 = 59
    · obtain ⟨hp1, ec⟩ := cc_lt ht (show cc t n p1 < 256 by omega)
      have ha : ac t n p1 = (59 : Int32) := (ac_iff (k := 59) ht (by omega)).mpr hq
      obtain ⟨ok2, p2, code2, res2, b1, b2, b3, C2, M2, O2⟩ := I (p1 + 1) (by omega) (by omega)
      refine ⟨ok2, p2, fun s => code1 s ++ code2 (s + (code1 s).length), fun M => if cnt M = true then some (val M) else res2 M, by omega, b2, fun h => ⟨(b3 h).1, fun s => ?_⟩, fun d s g fu hs hr hf => ?_, fun g x1 x2 fu hw hf => ?_, fun h => ?_⟩
      · have := (b3 h).2 (s + (code1 s).length)
        have := hl1 s
        rw [List.length_append]
        omega
      · obtain ⟨fu, rfl⟩ : ∃ f, fu = f + 1 := ⟨fu - 1, by omega⟩
        obtain ⟨g2, e1, e2, e3, e4⟩ := C1 d s g hs hr
        obtain ⟨e5, e6⟩ := e4 rfl
        have := hl1 s
        have hr2 := hr.nx e2 e3 e5
        obtain ⟨g4, f1, f2, f3⟩ := C2 d (s + (code1 s).length) _ fu (by omega) (hr2.go (p1 + 1)) (by omega)
        have rf1 : rf_ d (s + (code1 s).length) g2 (wrI g2 11 2 (nI (p1 + 1))) := rf_.rf.go _
        refine ⟨g4, ?_, (e2.tr rf1 (by omega)).tr f2 (by omega), fun h => ⟨?_, ?_⟩⟩
        · rw [e1, bdd_some, m_X3_readAll_18, if_neg (show ¬ bz true = 0 by decide), hr2.1, hr2.2.1, if_neg (by rw [nI_leI (by omega) (by omega)]; omega), ix_nI (by omega) (by omega), gdd_true, nI_clamp (by omega), hr2.2.2.2.2 p1 hp1, if_pos (show nI (t p1) = (59 : Int32) by rw [← ec, hq]; rfl), nI_1]
          exact f1
        · rw [(f3 h).1, List.length_append, Nat.add_assoc]
        · exact (cd_app _ _ _).mpr ⟨cd_rf (cd_rf e6 rf1 (Nat.le_refl _)) f2 (Nat.le_refl _), (f3 h).2⟩
      · obtain ⟨fu, rfl⟩ : ∃ f, fu = f + 1 := ⟨fu - 1, by omega⟩
        obtain ⟨v, c, g2, e1, e2, e3, e4, -⟩ := M1 g hw
        obtain ⟨h21, h22, hv, hc⟩ := e4 rfl
        have hw2 : wg t n 0 p1 g2 := ⟨hw.1.wf e2, e3, h21, h22⟩
        obtain ⟨g4, v4, f1, f2, f3, f4, f5⟩ := M2 _ (if c = true ∧ x1 = 0 then 1 else x1) (if c = true ∧ x1 = 0 then v else x2) fu (hw2.go (p1 + 1)) (by omega)
        have wf0 : wf_ g2 (wrI g2 40 20 (nI (p1 + 1))) := wf_.rf.w _ (by omega) (by omega)
        refine ⟨g4, v4, ?_, (e2.tr wf0).tr f2, f3, f4, fun h => ?_⟩
        · rw [w21_line hw, e1, w85_ok _ _ _ _ _ h21, m_X10_walks_106, h21, if_pos rfl, hw2.at ht a2, bdd_some, if_pos ha, m_X10_walks_127, if_neg (by decide), e3, nI_1]
          exact f1
        · rw [f5 h, nmv_wf wf0, nmv_wf e2, hc, hv]
          dsimp only
          by_cases z1 : cnt (nmv g) = true
          · by_cases z2 : x1 = 0
            · have zz : cnt (nmv g) = true ∧ x1 = 0 := ⟨z1, z2⟩
              rw [if_pos zz, if_pos zz, if_neg (show ¬ (1 : Int32) = 0 by decide), if_pos z2, if_pos z1]
              rfl
            · have zz : ¬ (cnt (nmv g) = true ∧ x1 = 0) := fun w => z2 w.2
              rw [if_neg zz, if_neg zz, if_neg z2, if_neg z2]
          · have zz : ¬ (cnt (nmv g) = true ∧ x1 = 0) := fun w => z1 w.1
            rw [if_neg zz, if_neg zz]
            by_cases z2 : x1 = 0
            · rw [if_pos z2, if_pos z2, if_neg z1]
            · rw [if_neg z2, if_neg z2]
      · have O2 := O2 h
        intro f len M fu frm a g k cdh h2 h3
        have h2 : a + (code1 a ++ code2 (a + (code1 a).length)).length = len := h2
        show ∃ g', m_X4_work_6 (fu + (code1 a ++ code2 (a + (code1 a).length)).length + 1) f (nI 0) (nI frm) (nI a) g = some ((if cnt M = true then some (val M) else res2 M).getD 0, g') ∧ _
        rw [List.length_append] at h2 ⊢
        obtain ⟨c1, c2⟩ := (cd_app _ _ _).mp cdh
        have w := O1 f len M (fu + (code2 (a + (code1 a).length)).length + 1) frm a g k c1 (by omega) h3
        by_cases z1 : cnt M = true
        · rw [if_pos z1] at w
          obtain ⟨g1, e1, e2⟩ := w
          refine ⟨g1, ?_, e2⟩
          rw [show fu + ((code1 a).length + (code2 (a + (code1 a).length)).length) + 1 = fu + (code2 (a + (code1 a).length)).length + 1 + (code1 a).length by omega, e1, if_pos z1]
          rfl
        · rw [if_neg z1] at w
          obtain ⟨g1, e1, e2⟩ := w
          obtain ⟨g2, f1, f2⟩ := O2 f len M fu (a + (code1 a).length) (a + (code1 a).length) g1 (k.ko e2) (cd_ko c2 e2) (by omega) (Nat.le_refl _)
          refine ⟨g2, ?_, e2.tr f2 (Nat.le_refl _)⟩
          rw [show fu + ((code1 a).length + (code2 (a + (code1 a).length)).length) + 1 = fu + (code2 (a + (code1 a).length)).length + 1 + (code1 a).length by omega, e1, f1, if_neg z1]
    · refine ⟨decide (p1 = n), p1, code1, fun M => if cnt M = true then some (val M) else none, a1, a2, fun h => ⟨of_decide_eq_true h, fun s => ?_⟩, fun d s g fu hs hr hf => ?_, fun g x1 x2 fu hw hf => ?_, fun h => ?_⟩
      · have := hl1 s
        have := of_decide_eq_true h
        omega
      · obtain ⟨fu, rfl⟩ : ∃ f, fu = f + 1 := ⟨fu - 1, by omega⟩
        obtain ⟨g2, e1, e2, e3, e4⟩ := C1 d s g hs hr
        have e5 := e4 rfl
        have hr2 := hr.nx e2 e3 e5.1
        refine ⟨g2, ?_, e2, fun _ => e5⟩
        have h65 : m_X3_readAll_65 (bz true) g2 = m_X3_readAll_88 (if decide (p1 = n) = true then -1 else nI p1) g2 := by
          rw [m_X3_readAll_65, if_neg (show ¬ bz true = 0 by decide), hr2.1, hr2.2.1]
          by_cases z : p1 = n
          · rw [if_pos (by rw [z]), if_pos (decide_eq_true z)]
          · rw [if_neg (fun w => by exact z ((nI_eq (by omega) (by omega)).mp w)), if_neg (by rw [decide_eq_false z]; decide)]
        rw [e1, bdd_some, m_X3_readAll_18, if_neg (show ¬ bz true = 0 by decide), hr2.1, hr2.2.1]
        by_cases z : p1 < n
        · rw [cc_in z] at hq
          have := ht.2 p1 z
          rw [if_neg (by rw [nI_leI (by omega) (by omega)]; omega), ix_nI (by omega) (by omega), gdd_true, nI_clamp (by omega), hr2.2.2.2.2 p1 z, if_neg (show ¬ nI (t p1) = (59 : Int32) from fun w => hq ((nI_eq (b := 59) (by omega) (by omega)).mp w))]
          exact h65
        · rw [if_pos (by rw [nI_leI (by omega) (by omega)]; omega)]
          exact h65
      · obtain ⟨fu, rfl⟩ : ∃ f, fu = f + 1 + 1 := ⟨fu - 2, by omega⟩
        obtain ⟨v, c, g2, e1, e2, e3, e4, -⟩ := M1 g hw
        obtain ⟨h21, h22, hv, hc⟩ := e4 rfl
        have hw2 : wg t n 0 p1 g2 := ⟨hw.1.wf e2, e3, h21, h22⟩
        have hw3 : wg t n 0 p1 (wrI g2 40 20 (nI p1)) := hw2.go p1
        have wf0 : wf_ g (wrI (wrI g2 40 20 (nI p1)) 40 21 (bz (!decide (p1 = n)))) := (e2.w _ (by omega) (by omega)).w _ (by omega) (by omega)
        refine ⟨_, (if c = true ∧ x1 = 0 then v else x2), ?_, wf0, ?_, ?_, fun h => ?_⟩
        · rw [w21_line hw, e1, w85_ok _ _ _ _ _ h21, m_X10_walks_106, h21, if_pos rfl, hw2.at ht a2, bdd_some, if_neg (show ¬ ac t n p1 = (59 : Int32) from fun w => hq ((ac_iff (k := 59) ht (by omega)).mp w)), m_X10_walks_127, if_pos rfl, e3, Int32.add_zero, w21_end, m_X10_walks_149, hw3.2.2.1, if_pos rfl, hw3.at ht a2, bdd_some, ac]
          by_cases z : p1 < n
          · have := ht.2 p1 z
            rw [if_pos z, if_neg (nI_pos (by omega)), decide_eq_false (show ¬ p1 = n by omega)]
            rfl
          · rw [if_neg z, if_pos (show (-1 : Int32) < 0 by decide), decide_eq_true (show p1 = n by omega)]
            rfl
        · rw [rI_wI, if_neg (by omega), rI_wI, if_pos ⟨rfl, rfl⟩]
        · rw [rI_wI, if_pos ⟨rfl, rfl⟩]
        · rw [hc, hv]
          dsimp only
          by_cases z1 : cnt (nmv g) = true
          · by_cases z2 : x1 = 0
            · have zz : cnt (nmv g) = true ∧ x1 = 0 := ⟨z1, z2⟩
              rw [if_pos zz, if_pos z2, if_pos z1]
              rfl
            · have zz : ¬ (cnt (nmv g) = true ∧ x1 = 0) := fun w => z2 w.2
              rw [if_neg zz, if_neg z2]
          · have zz : ¬ (cnt (nmv g) = true ∧ x1 = 0) := fun w => z1 w.1
            rw [if_neg zz, if_neg z1]
            split <;> rfl
      · intro f len M fu frm a g k cdh h2 h3
        have w := O1 f len M (fu + 1) frm a g k cdh (by omega) h3
        show ∃ g', m_X4_work_6 (fu + (code1 a).length + 1) f (nI 0) (nI frm) (nI a) g = some ((if cnt M = true then some (val M) else none).getD 0, g') ∧ _
        rw [show fu + (code1 a).length + 1 = fu + 1 + (code1 a).length by omega]
        by_cases z1 : cnt M = true
        · rw [if_pos z1] at w
          obtain ⟨g1, e1, e2⟩ := w
          exact ⟨g1, by rw [e1, if_pos z1]; rfl, e2⟩
        · rw [if_neg z1] at w
          obtain ⟨g1, e1, e2⟩ := w
          refine ⟨g1, ?_, e2⟩
          rw [e1, h2, wk_end (k.ko e2), if_neg z1]
          rfl
theorem text_ok {t : Nat → Nat} {n : Nat} (ht : tb_ t n) : ∀ (q p : Nat), n - p ≤ q → p ≤ n → TT t n p := by
  intro q
  induction q with
  | zero => intro p h1 h2; exact text_step ht h2 (fun p1 h3 h4 => by omega)
  | succ q ih => intro p h1 h2; exact text_step ht h2 (fun p1 h3 h4 => ih p1 (by omega) h4)
/-! law -/
theorem copy_m {n : Nat} (hn : n ≤ 120) : ∀ (fu i : Nat) (g : Mm), n < i + fu → i ≤ n → ∃ g', m_X10_law_37 fu (nI n) (nI i) g = some (1, wrI (wrI g' 40 17 (nI n)) 40 18 1) ∧ (∀ c k, rdI g' c k = if c = 50 ∧ i ≤ k ∧ k < n then rdI g 49 k else rdI g c k) ∧ g'.2 = g.2 := by
  intro fu
  induction fu with
  | zero => intro i g h1 h2; omega
  | succ fu ih =>
    intro i g h1 h2
    rw [m_X10_law_37]
    by_cases q : i = n
    · subst q
      exact ⟨g, by rw [if_pos (by rw [nI_leI (by omega) (by omega)]; omega)], fun c k => by rw [if_neg (by omega)], rfl⟩
    · obtain ⟨g', e1, e2, e3⟩ := ih (i + 1) (wrI g 50 i (rdI g 49 i)) (by omega) (by omega)
      refine ⟨g', ?_, fun c k => ?_, e3⟩
      · rw [if_neg (by rw [nI_leI (by omega) (by omega)]; omega), ix_nI (by omega) (by omega), gdd_true, gdd_true, nI_clamp (by omega), nI_1]
        exact e1
      · rw [e2, rI_wI, rI_wI, if_neg (show ¬ (49 = 50 ∧ k = i) by omega)]
        by_cases z : c = 50 ∧ i ≤ k ∧ k < n
        · rw [if_pos z]
          by_cases z2 : k = i
          · rw [if_neg (by omega), if_pos ⟨z.1, z2⟩, z2]
          · rw [if_pos (by omega)]
        · rw [if_neg z, if_neg (by omega), if_neg (by omega)]
/-- places that reading a law leaves -/
def lwp (d : Int32) (c i : Nat) : Prop := ¬ (c = 11 ∧ 1 ≤ i ∧ i ≤ 4) ∧ ¬ (c = pgm d ∧ i = 4) ∧ c ≠ pgm d + 1 ∧ c ≠ pgm d + 2 ∧ ¬ (c = 40 ∧ 15 ≤ i ∧ i ≤ 22) ∧ c ≠ 50
theorem lwp_dj (d : Int32) {c i : Nat} (h : pl_t c i = true ∨ pl_x c i = true ∨ pl_c c i = true ∨ pl_e c i = true ∨ pl_a c i = true ∨ pl_s c i = true) : lwp d c i := by
  have := pgm_01 d
  unfold lwp
  simp only [pl_t, pl_x, pl_c, pl_e, pl_a, pl_s, Bool.or_eq_true, Bool.and_eq_true, beq_iff_eq] at h
  omega
/-- the law's run, out of what was read -/
theorem run_of {t : Nat → Nat} {n p' : Nat} {code : Nat → List (Int32 × Int32)} {res : (Nat → Int32) → Option Int32} {d : Int32} {gF : Mm} (ht : tb_ t n) (hl : (code 0).length ≤ 121)
    (hM : ∀ g x1 x2 fu, wg t n 0 0 g → n - 0 + 3 ≤ fu → ∃ g' v, m_X10_walks_21 fu x1 x2 1 g = some (v, g') ∧ wf_ g g' ∧ rdI g' 40 20 = nI p' ∧ rdI g' 40 21 = bz false ∧ (v = if x1 = 0 then (res (nmv g)).getD x2 else x2))
    (hO : ∀ f len M fu frm a g, kg f len M g → cd f g a (code a) → a + (code a).length = len → frm ≤ a → ∃ g', m_X4_work_6 (fu + (code a).length + 1) f (nI 0) (nI frm) (nI a) g = some ((res M).getD 0, g') ∧ ko f 0 g g')
    (e4 : rdI gF (pgm d) 4 = nI (code 0).length) (ec : cd d gF 0 (code 0)) (e17 : rdI gF 40 17 = nI n) (e50 : ∀ k, k < n → rdI gF 50 k = nI (t k)) : lw_run d gF := by
  have hn := ht.1
  have hd := pgm_01 d
  have hF := fu_big
  have key : ∀ g' : Mm, (∀ c i, pl_l d c i = true → rdI g' c i = rdI gF c i) → ∀ M, (∀ j, j < 6 → rdI g' (pgm d + 4) j = M j) → ∃ ga, m_X4_work d g' = some ((res M).getD 0, ga) ∧ ko d 0 g' ga := by
    intro g' hag M hM2
    have p1 : rdI g' (pgm d) 4 = nI (code 0).length := by rw [hag _ _ (by simp [pl_l])]; exact e4
    have p2 : cd d g' 0 (code 0) := cd_cong _ _ ec (fun c i h1 _ _ => hag c i (by rcases h1 with rfl | rfl <;> simp [pl_l]))
    obtain ⟨fu, efu⟩ : ∃ fu, fuL = fu + (code 0).length + 1 := ⟨fuL - (code 0).length - 1, by omega⟩
    obtain ⟨ga, w1, w2⟩ := hO d (code 0).length M fu 0 0 g' ⟨hl, p1, hM2⟩ p2 (Nat.zero_add _) (Nat.le_refl _)
    exact ⟨ga, by rw [m_X4_work, efu]; exact w1, w2⟩
  -- what is given rests on the six names alone
  have same : ∀ M, (res M).getD 0 = (res (tr6 M)).getD 0 := by
    intro M
    have hw : ∀ j, j < 6 → rdI (wrI (wrI (wrI (wrI (wrI (wrI gF (pgm d + 4) 0 (M 0)) (pgm d + 4) 1 (M 1)) (pgm d + 4) 2 (M 2)) (pgm d + 4) 3 (M 3)) (pgm d + 4) 4 (M 4)) (pgm d + 4) 5 (M 5)) (pgm d + 4) j = M j := by
      intro j hj
      rcases (by omega : j = 0 ∨ j = 1 ∨ j = 2 ∨ j = 3 ∨ j = 4 ∨ j = 5) with rfl | rfl | rfl | rfl | rfl | rfl <;> simp [rI_wI]
    have hag : ∀ c i, pl_l d c i = true → rdI (wrI (wrI (wrI (wrI (wrI (wrI gF (pgm d + 4) 0 (M 0)) (pgm d + 4) 1 (M 1)) (pgm d + 4) 2 (M 2)) (pgm d + 4) 3 (M 3)) (pgm d + 4) 4 (M 4)) (pgm d + 4) 5 (M 5)) c i = rdI gF c i := by
      intro c i h
      simp only [pl_l, Bool.or_eq_true, Bool.and_eq_true, beq_iff_eq] at h
      have : c ≠ pgm d + 4 := by omega
      rw [rI_wI, if_neg (fun w => this w.1), rI_wI, if_neg (fun w => this w.1), rI_wI, if_neg (fun w => this w.1), rI_wI, if_neg (fun w => this w.1), rI_wI, if_neg (fun w => this w.1), rI_wI, if_neg (fun w => this w.1)]
    obtain ⟨ga, w1, -⟩ := key _ hag M hw
    obtain ⟨gb, w2, -⟩ := key _ hag (tr6 M) (fun j hj => by rw [hw j hj, tr6, if_pos hj])
    rw [w1] at w2
    exact (Prod.mk.inj (Option.some.inj w2)).1
  refine ⟨fun M => (res M).getD 0, fun g' hag => ?_, fun g' hag h19 => ?_⟩
  · obtain ⟨ga, w1, w2⟩ := key g' hag (tr6 (fun j => rdI g' (pgm d + 4) j)) (fun j hj => by rw [tr6, if_pos hj])
    exact ⟨ga, w1, fun c i q => w2.1 c i (fun w => q w.1), w2.2⟩
  · have p3 : rdI g' 40 17 = nI n := by rw [hag _ _ (by simp [pl_l])]; exact e17
    have p4 : ∀ k, k < n → rdI g' 50 k = nI (t k) := fun k hk => by rw [hag _ _ (by simp [pl_l])]; exact e50 k hk
    have wf3 : wf_ g' (wrI (wrI (wrI g' 40 20 0) 40 21 0) 40 22 0) := ((wf_.rf.w _ (by omega) (by omega)).w _ (by omega) (by omega)).w _ (by omega) (by omega)
    have hw : wg t n 0 0 (wrI (wrI (wrI g' 40 20 0) 40 21 0) 40 22 0) := by
      refine ⟨tx.wf (Or.inr ⟨h19, p3, p4⟩) wf3, ?_, ?_, ?_⟩
      · rw [rI_wI, if_neg (by omega), rI_wI, if_neg (by omega), rI_wI, if_pos ⟨rfl, rfl⟩]; rfl
      · rw [rI_wI, if_neg (by omega), rI_wI, if_pos ⟨rfl, rfl⟩]
      · rw [rI_wI, if_pos ⟨rfl, rfl⟩]; rfl
    obtain ⟨gb, v, m1, m2, m3, m4, m5⟩ := hM _ 0 0 fuL hw (by omega)
    rw [nmv_wf wf3, if_pos rfl, same] at m5
    refine ⟨gb, ?_, (wf3.tr m2).1, (wf3.tr m2).2⟩
    rw [m_X10_walks, m1, m5]
    rfl
set_option maxHeartbeats 1000000 in
theorem op_law {g : Mm} (hg : gv_ g) : al_ m_X9_law m_X10_law g := by
  have hg0 := hg
  obtain ⟨nb, nh, hd, cq, ck, tl, rt, nn, na, ra, f, hT, hX, hC, hP, hL, hE, hA, hS⟩ := hg
  obtain ⟨htl, ⟨p1, p2⟩, p3⟩ := id hP
  obtain ⟨l1, l2⟩ := id hL
  have hF := fu_big
  -- the draft
  obtain ⟨d, hd4, hd3, hdf, hdl⟩ : ∃ d : Int32, rdI g 11 4 = d ∧ rdI g 11 3 = f ∧ pgm d ≠ pgm f ∧ ((d = 0 ∧ f = 1) ∨ (d = 1 ∧ f = 0)) := by
    rcases l1 with ⟨h1, h2, h3⟩ | ⟨h1, h2, h3⟩
    · exact ⟨1, h3, by rw [h2, h1], by rw [h1]; decide, Or.inr ⟨rfl, h1⟩⟩
    · exact ⟨0, h3, by rw [h2, h1], by rw [h1]; decide, Or.inl ⟨rfl, h1⟩⟩
  have hd1 := pgm_01 d
  have hf1 := pgm_01 f
  have htb : tb_ (fun i => (rdI g 12 i).toNatClampNeg) tl := ⟨htl, fun i hi => by
    obtain ⟨-, v, hv, e⟩ := p3 i hi
    show (rdI g 12 i).toNatClampNeg < 256
    rw [e, nI_clamp (by omega)]
    omega⟩
  have ht12 : ∀ i, i < tl → rdI g 12 i = nI (rdI g 12 i).toNatClampNeg := fun i hi => by
    obtain ⟨-, v, hv, e⟩ := p3 i hi
    rw [e, nI_clamp (by omega)]
  obtain ⟨ok, p', code, res, a1, a2, a3, C1, M1, O1⟩ := text_ok htb tl 0 (by omega) (Nat.zero_le _)
  have x4 : rdI (wrI g 11 2 0) 11 4 = d := by rw [rI_wI, if_neg (by omega)]; exact hd4
  have rf0 : rf_ d 0 g (wrI (wrI g 11 2 0) (pgm d) 4 0) := ⟨fun c i q1 q2 q3 => by rw [rI_wI, if_neg q2, rI_wI, if_neg q1], rfl⟩
  have hr0 : rg (fun i => (rdI g 12 i).toNatClampNeg) tl d 0 0 (wrI (wrI g 11 2 0) (pgm d) 4 0) := by
    refine ⟨?_, ?_, ?_, ?_, fun i hi => ?_⟩
    · rw [rf0.1 11 1 (by omega) (by omega) (by omega)]; exact p1
    · rw [rI_wI, if_neg (by omega), rI_wI, if_pos ⟨rfl, rfl⟩]; rfl
    · rw [rf0.1 11 4 (by omega) (by omega) (by omega)]; exact hd4
    · rw [rI_wI, if_pos ⟨rfl, rfl⟩]; rfl
    · rw [rf0.1 12 i (by omega) (by omega) (by omega)]; exact ht12 i hi
  obtain ⟨g1, c1, c2, c3⟩ := C1 d 0 _ fuL (Nat.le_refl _) hr0 (by omega)
  have rf1 := rf0.tr c2 (Nat.le_refl _)
  have cl : m_X9_law g = bdd (m_X3_readAll_88 (if ok = true then -1 else nI p') g1) (fun ra1 ga2 => (if (0 : Int32) ≤ ra1 then some (((-100 : Int32) - ra1), ga2) else some ((1 : Int32), ga2))) := by
    rw [m_X9_law, m_X3_readAll, x4, c1]
  -- the reference, over what the class left
  have ml : ∀ gA : Mm, (∀ c i, ¬ (c = 11 ∧ 1 ≤ i ∧ i ≤ 4) → ¬ (c = pgm d ∧ i = 4) → c ≠ pgm d + 1 → c ≠ pgm d + 2 → rdI gA c i = rdI g c i) → ∃ g4 v, m_X10_walks (wrI gA 40 19 1) = some (v, g4) ∧ (∀ c i, ¬ (c = 40 ∧ 19 ≤ i ∧ i ≤ 22) → rdI g4 c i = rdI gA c i) ∧ g4.2 = gA.2 ∧ rdI g4 40 20 = nI p' ∧ rdI g4 40 21 = bz (!ok) := by
    intro gA hA
    have wf3 : wf_ (wrI gA 40 19 1) (wrI (wrI (wrI (wrI gA 40 19 1) 40 20 0) 40 21 0) 40 22 0) := ((wf_.rf.w _ (by omega) (by omega)).w _ (by omega) (by omega)).w _ (by omega) (by omega)
    have hw : wg (fun i => (rdI g 12 i).toNatClampNeg) tl 0 0 (wrI (wrI (wrI (wrI gA 40 19 1) 40 20 0) 40 21 0) 40 22 0) := by
      refine ⟨tx.wf (Or.inl ⟨?_, ?_, fun i hi => ?_⟩) wf3, ?_, ?_, ?_⟩
      · rw [rI_wI, if_pos ⟨rfl, rfl⟩]
      · rw [rI_wI, if_neg (by omega), hA 40 15 (by omega) (by omega) (by omega) (by omega)]; exact p2
      · rw [rI_wI, if_neg (by omega), hA 49 i (by omega) (by omega) (by omega) (by omega), (p3 i hi).1]; exact ht12 i hi
      · rw [rI_wI, if_neg (by omega), rI_wI, if_neg (by omega), rI_wI, if_pos ⟨rfl, rfl⟩]; rfl
      · rw [rI_wI, if_neg (by omega), rI_wI, if_pos ⟨rfl, rfl⟩]
      · rw [rI_wI, if_pos ⟨rfl, rfl⟩]; rfl
    obtain ⟨g4, v, m1, m2, m3, m4, -⟩ := M1 _ 0 0 fuL hw (by omega)
    refine ⟨g4, v, by rw [m_X10_walks]; exact m1, fun c i q => ?_, m2.2.trans wf3.2, m3, m4⟩
    rw [m2.1 c i (by omega), wf3.1 c i (by omega), rI_wI, if_neg (by omega)]
  have kf : ∀ c i, ¬ (c = 11 ∧ 1 ≤ i ∧ i ≤ 4) → ¬ (c = pgm d ∧ i = 4) → c ≠ pgm d + 1 → c ≠ pgm d + 2 → rdI g1 c i = rdI g c i := fun c i q1 q2 q3 q4 => rf1.1 c i (by omega) q2 (by omega)
  cases ok with
  | false =>
    have kA : ∀ c i, ¬ (c = 11 ∧ 1 ≤ i ∧ i ≤ 4) → ¬ (c = pgm d ∧ i = 4) → c ≠ pgm d + 1 → c ≠ pgm d + 2 → rdI (wrI g1 11 1 0) c i = rdI g c i := fun c i q1 q2 q3 q4 => by rw [rI_wI, if_neg (by omega)]; exact kf c i q1 q2 q3 q4
    obtain ⟨g4, v, m1, m2, m3, m4, m5⟩ := ml (wrI g1 11 1 0) kA
    have kF : ∀ c i, lwp d c i → rdI (wrI g4 40 15 0) c i = rdI g c i := fun c i q => by
      obtain ⟨q1, q2, q3, q4, q5, q6⟩ := q
      rw [rI_wI, if_neg (by omega), m2 c i (by omega), kA c i q1 q2 q3 q4]
    refine ⟨-100 - nI p', wrI g1 11 1 0, wrI g4 40 15 0, ?_, ?_, nb, nh, hd, cq, ck, 0, rt, nn, na, ra, f, hT.cong (fun c i h => kF c i (lwp_dj d (Or.inl h))), hX.cong (fun c i h => kF c i (lwp_dj d (Or.inr (Or.inl h)))), hC.cong (fun c i h => kF c i (lwp_dj d (Or.inr (Or.inr (Or.inl h))))), ⟨Nat.zero_le _, ⟨?_, ?_⟩, fun k hk => absurd hk (Nat.not_lt_zero _)⟩, hL.cong (fun c i h => ?_), hE.cong (fun c i h => kF c i (lwp_dj d (Or.inr (Or.inr (Or.inr (Or.inl h)))))), hA.cong (fun c i h => kF c i (lwp_dj d (Or.inr (Or.inr (Or.inr (Or.inr (Or.inl h))))))), hS.cong (fun c i h => kF c i (lwp_dj d (Or.inr (Or.inr (Or.inr (Or.inr (Or.inr h))))))) (fun i => ?_)⟩
    · rw [cl, if_neg (by decide), m_X3_readAll_88, if_pos (nI_pos' (by omega)), bdd_some, if_pos (nI_pos' (by omega))]
    · have y21 : rdI (wrI g4 40 15 0) 40 21 = 1 := by rw [rI_wI, if_neg (by omega), m5]; rfl
      have y20 : rdI (wrI g4 40 15 0) 40 20 = nI p' := by rw [rI_wI, if_neg (by omega), m4]
      rw [m_X10_law, m1, bdd_some, y21, if_neg (by decide), y20]
    · rw [rI_wI, if_neg (by omega), m2 11 1 (by omega), rI_wI, if_pos ⟨rfl, rfl⟩]; rfl
    · rw [rI_wI, if_pos ⟨rfl, rfl⟩]; rfl
    · have h' := h
      simp only [pl_l, Bool.or_eq_true, Bool.and_eq_true, beq_iff_eq] at h'
      rw [rI_wI, if_neg (by omega), m2 c i (by omega), rI_wI, if_neg (by omega), rf1.1 c i (by omega) (by omega) (by omega)]
    · unfold rdL
      rw [show (wrI g4 40 15 0).2 = g4.2 from rfl, m3, show (wrI g1 11 1 0).2 = g1.2 from rfl, rf1.2]
      exact ⟨rfl, rfl⟩
  | true =>
    obtain ⟨rfl, a4⟩ := a3 rfl
    obtain ⟨c4, c5⟩ := c3 rfl
    rw [Nat.zero_add] at c4
    have O1 := O1 rfl
    have y3 : rdI g1 11 3 = f := by rw [rf1.1 11 3 (by omega) (by omega) (by omega)]; exact hd3
    have y4 : rdI g1 11 4 = d := by rw [rf1.1 11 4 (by omega) (by omega) (by omega)]; exact hd4
    have kA : ∀ c i, ¬ (c = 11 ∧ 1 ≤ i ∧ i ≤ 4) → rdI (wrI (wrI (wrI g1 11 3 d) 11 4 f) 11 1 0) c i = rdI g1 c i := fun c i q1 => by rw [rI_wI, if_neg (by omega), rI_wI, if_neg (by omega), rI_wI, if_neg (by omega)]
    obtain ⟨g4, v, m1, m2, m3, m4, m5⟩ := ml (wrI (wrI (wrI g1 11 3 d) 11 4 f) 11 1 0) (fun c i q1 q2 q3 q4 => (kA c i q1).trans (kf c i q1 q2 q3 q4))
    have y15 : rdI g4 40 15 = nI p' := by
      rw [m2 40 15 (by omega), kA 40 15 (by omega), kf 40 15 (by omega) (by omega) (by omega) (by omega)]
      exact p2
    obtain ⟨g5, s1, s2, s3⟩ := copy_m htl fuL 0 (wrI g4 40 15 0) (by omega) (Nat.zero_le _)
    have k5 : ∀ c i, ¬ (c = 40 ∧ 15 ≤ i ∧ i ≤ 22) → c ≠ 50 → rdI (wrI (wrI g5 40 17 (nI p')) 40 18 1) c i = rdI (wrI (wrI (wrI g1 11 3 d) 11 4 f) 11 1 0) c i := fun c i q5 q6 => by
      rw [rI_wI, if_neg (by omega), rI_wI, if_neg (by omega), s2, if_neg (by omega), rI_wI, if_neg (by omega), m2 c i (by omega)]
    have kF : ∀ c i, lwp d c i → rdI (wrI (wrI g5 40 17 (nI p')) 40 18 1) c i = rdI g c i := fun c i q => by
      obtain ⟨q1, q2, q3, q4, q5, q6⟩ := q
      rw [k5 c i q5 q6, kA c i q1, kf c i q1 q2 q3 q4]
    have f4 : rdI (wrI (wrI g5 40 17 (nI p')) 40 18 1) (pgm d) 4 = nI (code 0).length := by
      rw [k5 _ _ (by omega) (by omega), kA _ _ (by omega)]; exact c4
    have f17 : rdI (wrI (wrI g5 40 17 (nI p')) 40 18 1) 40 17 = nI p' := by rw [rI_wI, if_neg (by omega), rI_wI, if_pos ⟨rfl, rfl⟩]
    have fcd : cd d (wrI (wrI g5 40 17 (nI p')) 40 18 1) 0 (code 0) := cd_cong _ _ c5 (fun c i h1 _ _ => by rw [k5 c i (by omega) (by omega), kA c i (by omega)])
    have f50 : ∀ k, k < p' → rdI (wrI (wrI g5 40 17 (nI p')) 40 18 1) 50 k = nI (rdI g 12 k).toNatClampNeg := fun k hk => by
      rw [rI_wI, if_neg (by omega), rI_wI, if_neg (by omega), s2, if_pos ⟨rfl, Nat.zero_le _, hk⟩, rI_wI, if_neg (by omega), m2 49 k (by omega), kA 49 k (by omega), kf 49 k (by omega) (by omega) (by omega) (by omega), (p3 k hk).1]
      exact ht12 k hk
    have hlen := a4 0
    refine ⟨1, wrI (wrI (wrI g1 11 3 d) 11 4 f) 11 1 0, wrI (wrI g5 40 17 (nI p')) 40 18 1, ?_, ?_, nb, nh, hd, cq, ck, 0, rt, nn, na, ra, d, hT.cong (fun c i h => kF c i (lwp_dj d (Or.inl h))), hX.cong (fun c i h => kF c i (lwp_dj d (Or.inr (Or.inl h)))), hC.cong (fun c i h => kF c i (lwp_dj d (Or.inr (Or.inr (Or.inl h))))), ⟨Nat.zero_le _, ⟨?_, ?_⟩, fun k hk => absurd hk (Nat.not_lt_zero _)⟩, ⟨?_, Or.inr ⟨?_, ⟨(code 0).length, hlen.1, by omega, f4⟩, ?_⟩⟩, hE.cong (fun c i h => kF c i (lwp_dj d (Or.inr (Or.inr (Or.inr (Or.inl h)))))), hA.cong (fun c i h => kF c i (lwp_dj d (Or.inr (Or.inr (Or.inr (Or.inr (Or.inl h))))))), hS.cong (fun c i h => kF c i (lwp_dj d (Or.inr (Or.inr (Or.inr (Or.inr (Or.inr h))))))) (fun i => ?_)⟩
    · rw [cl, if_pos rfl, m_X3_readAll_88, if_neg (by decide), bdd_some, if_neg (by decide), y3, y4]
    · have y21 : rdI (wrI g4 40 15 0) 40 21 = 0 := by rw [rI_wI, if_neg (by omega), m5]; rfl
      rw [m_X10_law, m1, bdd_some, y21, if_pos rfl, y15]
      exact s1
    · rw [k5 11 1 (by omega) (by omega), rI_wI, if_pos ⟨rfl, rfl⟩]; rfl
    · rw [rI_wI, if_neg (by omega), rI_wI, if_neg (by omega), s2, if_neg (by omega), rI_wI, if_pos ⟨rfl, rfl⟩]; rfl
    · have z3 : rdI (wrI (wrI g5 40 17 (nI p')) 40 18 1) 11 3 = d := by rw [k5 11 3 (by omega) (by omega), rI_wI, if_neg (by omega), rI_wI, if_neg (by omega), rI_wI, if_pos ⟨rfl, rfl⟩]
      have z4 : rdI (wrI (wrI g5 40 17 (nI p')) 40 18 1) 11 4 = f := by rw [k5 11 4 (by omega) (by omega), rI_wI, if_neg (by omega), rI_wI, if_pos ⟨rfl, rfl⟩]
      rw [z3, z4]
      rcases hdl with ⟨e1, e2⟩ | ⟨e1, e2⟩
      · exact Or.inl ⟨e1, e1, e2⟩
      · exact Or.inr ⟨e1, e1, e2⟩
    · rw [rI_wI, if_pos ⟨rfl, rfl⟩]
    · exact run_of htb (by omega) (fun g x1 x2 fu hw hf => by
        obtain ⟨g', v, n1, n2, n3, n4, n5⟩ := M1 g x1 x2 fu hw hf
        exact ⟨g', v, n1, n2, n3, n4, n5 rfl⟩) O1 f4 fcd f17 f50
    · unfold rdL
      rw [show (wrI (wrI g5 40 17 (nI p')) 40 18 1).2 = g5.2 from rfl, s3, show (wrI g4 40 15 0).2 = g4.2 from rfl, m3, show (wrI (wrI (wrI g1 11 3 d) 11 4 f) 11 1 0).2 = g1.2 from rfl, rf1.2]
      exact ⟨rfl, rfl⟩
