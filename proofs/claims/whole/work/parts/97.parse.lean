/-! the program's run, step by step -/
def kg (f : Int32) (len : Nat) (N : Nat → Int32) (g : Mm) : Prop := len ≤ 121 ∧ rdI g (pgm f) 4 = nI len ∧ ∀ j, j < 6 → rdI g (pgm f + 4) j = N j
def ko (f : Int32) (h : Nat) (g g' : Mm) : Prop := (∀ c i, ¬ (c = pgm f + 3 ∧ h ≤ i) → rdI g' c i = rdI g c i) ∧ g'.2 = g.2
theorem ko.rf {f : Int32} {h : Nat} {g : Mm} : ko f h g g := ⟨fun _ _ _ => rfl, rfl⟩
theorem ko.tr {f : Int32} {h h' : Nat} {g g' g2 : Mm} (e : ko f h g g') (e2 : ko f h' g' g2) (hh : h ≤ h') : ko f h g g2 := ⟨fun c i q => (e2.1 c i (by omega)).trans (e.1 c i q), e2.2.trans e.2⟩
theorem ko.w {f : Int32} {h : Nat} (g : Mm) (v : Int32) : ko f h g (wrI g (pgm f + 3) h v) := by
  refine ⟨fun d j z => ?_, rfl⟩
  rw [rI_wI, if_neg (by omega)]
theorem kg.ko {f : Int32} {len h : Nat} {N : Nat → Int32} {g g' : Mm} (k : kg f len N g) (e : ko f h g g') : kg f len N g' := by
  obtain ⟨h1, h2, h3⟩ := k
  refine ⟨h1, ?_, fun j hj => ?_⟩
  · rw [e.1 _ 4 (by omega)]; exact h2
  · rw [e.1 _ j (by omega)]; exact h3 j hj
theorem cd_ko {f : Int32} {h a : Nat} {g g' : Mm} {K : List (Int32 × Int32)} (k : cd f g a K) (e : ko f h g g') : cd f g' a K := cd_cong K a k (fun c i h1 _ _ => e.1 c i (by omega))
theorem wk_end {f : Int32} {len fu : Nat} {N : Nat → Int32} {g : Mm} (k : kg f len N g) (x1 x2 : Int32) : m_X4_work_6 (fu + 1) f x1 x2 (nI len) g = some (0, g) := by
  obtain ⟨h1, h2, h3⟩ := k
  rw [m_X4_work_6, h2, if_pos (by rw [nI_leI (by omega) (by omega)]; omega)]
theorem wk_pass {f : Int32} {len fu a frm : Nat} {N : Nat → Int32} {g : Mm} (k : kg f len N g) (ha : a < len) (hf : a < frm) (hf2 : frm ≤ 121) (x1 : Int32) : m_X4_work_6 (fu + 1) f x1 (nI frm) (nI a) g = m_X4_work_6 fu f x1 (nI frm) (nI (a + 1)) g := by
  obtain ⟨h1, h2, h3⟩ := k
  rw [m_X4_work_6, h2, if_neg (by rw [nI_leI (by omega) (by omega)]; omega), ix_nI (by omega) (by omega), gdd_true, if_neg (by rw [nI_leI (by omega) (by omega)]; omega), nI_1]
theorem wk_num {f : Int32} {len fu a h frm : Nat} {N : Nat → Int32} {g : Mm} {v : Int32} (k : kg f len N g) (ha : a < len) (hf : frm ≤ a) (hh : h ≤ a) (s1 : rdI g (pgm f + 1) a = 1) (s2 : rdI g (pgm f + 2) a = v) :
    m_X4_work_6 (fu + 1) f (nI h) (nI frm) (nI a) g = m_X4_work_6 fu f (nI (h + 1)) (nI frm) (nI (a + 1)) (wrI g (pgm f + 3) h v) := by
  obtain ⟨h1, h2, h3⟩ := k
  rw [m_X4_work_6, h2, if_neg (by rw [nI_leI (by omega) (by omega)]; omega), ix_nI (by omega) (by omega), gdd_true, if_pos (by rw [nI_leI (by omega) (by omega)]; omega), nI_clamp (n := a) (by omega), s1, if_pos rfl, m_X4_work_42, if_pos rfl, ix_nI (by omega) (by omega), gdd_true, ix_nI (by omega) (by omega), gdd_true, nI_clamp (n := a) (by omega), nI_clamp (n := h) (by omega), s2, nI_1, nI_1]
theorem wk_name {f : Int32} {len fu a h frm j : Nat} {N : Nat → Int32} {g : Mm} (k : kg f len N g) (ha : a < len) (hf : frm ≤ a) (hh : h ≤ a) (hj : j < 6) (s1 : rdI g (pgm f + 1) a = 2) (s2 : rdI g (pgm f + 2) a = nI j) :
    m_X4_work_6 (fu + 1) f (nI h) (nI frm) (nI a) g = m_X4_work_6 fu f (nI (h + 1)) (nI frm) (nI (a + 1)) (wrI g (pgm f + 3) h (N j)) := by
  obtain ⟨h1, h2, h3⟩ := k
  rw [m_X4_work_6, h2, if_neg (by rw [nI_leI (by omega) (by omega)]; omega), ix_nI (by omega) (by omega), gdd_true, if_pos (by rw [nI_leI (by omega) (by omega)]; omega), nI_clamp (n := a) (by omega), s1, if_neg (by decide), if_pos rfl, m_X4_work_42, if_neg (by decide), ix_nI (by omega) (by omega), gdd_true, nI_clamp (n := a) (by omega), s2, ix_nI hj (by omega), gdd_true, ix_nI (by omega) (by omega), gdd_true, nI_clamp (n := h) (by omega), nI_clamp (n := j) (by omega), h3 j hj, nI_1, nI_1]
theorem wk_neg {f : Int32} {len fu a h frm : Nat} {N : Nat → Int32} {g : Mm} (k : kg f len N g) (ha : a < len) (hf : frm ≤ a) (hh : h + 1 ≤ a) (s1 : rdI g (pgm f + 1) a = 3) :
    m_X4_work_6 (fu + 1) f (nI (h + 1)) (nI frm) (nI a) g = m_X4_work_6 fu f (nI (h + 1)) (nI frm) (nI (a + 1)) (wrI g (pgm f + 3) h (-(rdI g (pgm f + 3) h))) := by
  obtain ⟨h1, h2, h3⟩ := k
  rw [m_X4_work_6, h2, if_neg (by rw [nI_leI (by omega) (by omega)]; omega), ix_nI (by omega) (by omega), gdd_true, if_pos (by rw [nI_leI (by omega) (by omega)]; omega), nI_clamp (n := a) (by omega), s1, if_neg (by decide), if_neg (by decide), if_pos (show (1 : Int32) ≤ nI (h + 1) from (nI_leI (a := 1) (by omega) (by omega)).mpr (by omega)), if_neg (by decide), if_neg (by decide), if_pos rfl, m_X4_work_147, if_pos rfl, nI_pred, ix_nI (by omega) (by omega), gdd_true, gdd_true, nI_clamp (n := h) (by omega), nI_1]
theorem wk_deny {f : Int32} {len fu a h frm : Nat} {N : Nat → Int32} {g : Mm} (k : kg f len N g) (ha : a < len) (hf : frm ≤ a) (hh : h + 1 ≤ a) (s1 : rdI g (pgm f + 1) a = 4) :
    m_X4_work_6 (fu + 1) f (nI (h + 1)) (nI frm) (nI a) g = m_X4_work_6 fu f (nI (h + 1)) (nI frm) (nI (a + 1)) (wrI g (pgm f + 3) h (if rdI g (pgm f + 3) h = 0 then 1 else 0)) := by
  obtain ⟨h1, h2, h3⟩ := k
  rw [m_X4_work_6, h2, if_neg (by rw [nI_leI (by omega) (by omega)]; omega), ix_nI (by omega) (by omega), gdd_true, if_pos (by rw [nI_leI (by omega) (by omega)]; omega), nI_clamp (n := a) (by omega), s1, if_neg (by decide), if_neg (by decide), if_pos (show (1 : Int32) ≤ nI (h + 1) from (nI_leI (a := 1) (by omega) (by omega)).mpr (by omega)), if_neg (by decide), if_neg (by decide), if_neg (by decide), if_pos rfl, m_X4_work_147, if_neg (by decide), nI_pred, ix_nI (by omega) (by omega), gdd_true, nI_clamp (n := h) (by omega)]
  by_cases z : rdI g (pgm f + 3) h = 0
  · rw [if_pos z, if_pos z, m_X4_work_188, m_X4_truth, if_neg (by decide), bdd_some, ix_nI (by omega) (by omega), gdd_true, nI_clamp (n := h) (by omega), nI_1]
  · rw [if_neg z, if_neg z, m_X4_work_188, m_X4_truth, if_pos rfl, bdd_some, ix_nI (by omega) (by omega), gdd_true, nI_clamp (n := h) (by omega), nI_1]
theorem wk_join {f : Int32} {len fu a h frm c l : Nat} {N : Nat → Int32} {g : Mm} (k : kg f len N g) (ha : a < len) (hf : frm ≤ a) (hh : h + 2 ≤ a) (hc : lvl c = l) (hl : l < 5) (s1 : rdI g (pgm f + 1) a = nI c) :
    m_X4_work_6 (fu + 1) f (nI (h + 2)) (nI frm) (nI a) g = m_X4_work_6 fu f (nI (h + 1)) (nI frm) (nI (a + 1)) (wrI g (pgm f + 3) h (jv c (rdI g (pgm f + 3) h) (rdI g (pgm f + 3) (h + 1)))) := by
  obtain ⟨h1, h2, h3⟩ := k
  obtain ⟨c1, c2⟩ := lvl_lt hc hl
  have ne : ∀ q, q < 37 → ¬ nI c = nI q := fun q hq w => by
    rw [nI_eq (by omega) (by omega)] at w
    omega
  rw [m_X4_work_6, h2, if_neg (by rw [nI_leI (by omega) (by omega)]; omega), ix_nI (by omega) (by omega), gdd_true, if_pos (by rw [nI_leI (by omega) (by omega)]; omega), nI_clamp (n := a) (by omega), s1, if_neg (show ¬ nI c = (1 : Int32) from ne 1 (by omega)), if_neg (show ¬ nI c = (2 : Int32) from ne 2 (by omega)), if_pos (show (1 : Int32) ≤ nI (h + 2) from (nI_leI (a := 1) (by omega) (by omega)).mpr (by omega)), if_neg (show ¬ nI c = (6 : Int32) from ne 6 (by omega)), if_neg (show ¬ nI c = (5 : Int32) from ne 5 (by omega)), if_neg (show ¬ nI c = (3 : Int32) from ne 3 (by omega)), if_neg (show ¬ nI c = (4 : Int32) from ne 4 (by omega)), if_pos (show (2 : Int32) ≤ nI (h + 2) from (nI_leI (a := 2) (by omega) (by omega)).mpr (by omega)), show nI (h + 2) + (-1 : Int32) = nI (h + 1) from pk_m1 (h + 1), nI_pred, ix_nI (by omega) (by omega), gdd_true, ix_nI (by omega) (by omega), gdd_true, nI_clamp (n := h) (by omega), nI_clamp (n := h + 1) (by omega), join_c hc hl, bdd_some, gdd_true, nI_1]
theorem wk_ans {f : Int32} {len fu a h frm : Nat} {N : Nat → Int32} {g : Mm} (k : kg f len N g) (ha : a < len) (hf : frm ≤ a) (hh : h + 1 ≤ a) (s1 : rdI g (pgm f + 1) a = 6) :
    m_X4_work_6 (fu + 1) f (nI (h + 1)) (nI frm) (nI a) g = some (rdI g (pgm f + 3) h, g) := by
  obtain ⟨h1, h2, h3⟩ := k
  rw [m_X4_work_6, h2, if_neg (by rw [nI_leI (by omega) (by omega)]; omega), ix_nI (by omega) (by omega), gdd_true, if_pos (by rw [nI_leI (by omega) (by omega)]; omega), nI_clamp (n := a) (by omega), s1, if_neg (by decide), if_neg (by decide), if_pos (show (1 : Int32) ≤ nI (h + 1) from (nI_leI (a := 1) (by omega) (by omega)).mpr (by omega)), if_pos rfl, nI_pred, ix_nI (by omega) (by omega), gdd_true, nI_clamp (n := h) (by omega)]
theorem wk_skip {f : Int32} {len fu a h frm : Nat} {N : Nat → Int32} {g : Mm} {v : Int32} (k : kg f len N g) (ha : a < len) (hf : frm ≤ a) (hh : h + 1 ≤ a) (s1 : rdI g (pgm f + 1) a = 5) (s2 : rdI g (pgm f + 2) a = v) :
    m_X4_work_6 (fu + 1) f (nI (h + 1)) (nI frm) (nI a) g = if rdI g (pgm f + 3) h = 0 then m_X4_work_6 fu f (nI h) v (nI (a + 1)) g else m_X4_work_6 fu f (nI h) (nI frm) (nI (a + 1)) g := by
  obtain ⟨h1, h2, h3⟩ := k
  rw [m_X4_work_6, h2, if_neg (by rw [nI_leI (by omega) (by omega)]; omega), ix_nI (by omega) (by omega), gdd_true, if_pos (by rw [nI_leI (by omega) (by omega)]; omega), nI_clamp (n := a) (by omega), s1, if_neg (by decide), if_neg (by decide), if_pos (show (1 : Int32) ≤ nI (h + 1) from (nI_leI (a := 1) (by omega) (by omega)).mpr (by omega)), if_neg (by decide), if_pos rfl, pk_m1, ix_nI (by omega) (by omega), gdd_true, nI_clamp (n := h) (by omega), gdd_true, s2, nI_1]
/-! what a piece of text is, to all three -/
def Wo (code : List (Int32 × Int32)) (val : (Nat → Int32) → Int32) : Prop := 1 ≤ code.length ∧ ∀ (f : Int32) (len : Nat) (N : Nat → Int32) (fu frm h a : Nat) (g : Mm), kg f len N g → cd f g a code → h ≤ a → a + code.length ≤ len → frm ≤ a →
  ∃ g', m_X4_work_6 (fu + code.length) f (nI h) (nI frm) (nI a) g = m_X4_work_6 fu f (nI (h + 1)) (nI frm) (nI (a + code.length)) g' ∧ rdI g' (pgm f + 3) h = val N ∧ ko f h g g'
def WoL (code : List (Int32 × Int32)) (F : (Nat → Int32) → Int32 → Int32) : Prop := ∀ (f : Int32) (len : Nat) (N : Nat → Int32) (fu frm h a : Nat) (g : Mm), kg f len N g → cd f g a code → h + 1 ≤ a → a + code.length ≤ len → frm ≤ a →
  ∃ g', m_X4_work_6 (fu + code.length) f (nI (h + 1)) (nI frm) (nI a) g = m_X4_work_6 fu f (nI (h + 1)) (nI frm) (nI (a + code.length)) g' ∧ rdI g' (pgm f + 3) h = F N (rdI g (pgm f + 3) h) ∧ ko f h g g'
def Rd (t : Nat → Nat) (n : Nat) (fn : Mm → Option (Int32 × Mm)) (p : Nat) (ok : Bool) (p' : Nat) (code : List (Int32 × Int32)) : Prop :=
  ∀ (d : Int32) (s : Nat) (g : Mm), s ≤ p → rg t n d s p g → ∃ g', fn g = some (bz ok, g') ∧ rf_ d s g g' ∧ rdI g' 11 2 = nI p' ∧ (ok = true → rdI g' (pgm d) 4 = nI (s + code.length) ∧ cd d g' s code)
def nmv (g : Mm) (j : Nat) : Int32 := rdI g 40 (23 + j)
def Wk (t : Nat → Nat) (n : Nat) (fn : Mm → Option (Int32 × Mm)) (o p : Nat) (ok : Bool) (p' : Nat) (val : (Nat → Int32) → Int32) : Prop :=
  ∀ g, wg t n o p g → ∃ v g', fn g = some (v, g') ∧ wf_ g g' ∧ rdI g' 40 20 = nI p' ∧ (ok = true → rdI g' 40 21 = 0 ∧ rdI g' 40 22 = nI o ∧ v = val (nmv g)) ∧ (ok = false → rdI g' 40 21 = 1)
theorem nmv_wf {g g' : Mm} (h : wf_ g g') : nmv g' = nmv g := funext fun j => h.1 40 (23 + j) (by omega)
def fnc (k o N : Nat) (g : Mm) : Option (Int32 × Mm) := if k < 5 then gl_ N 1 (nI k) (nI o) 0 0 g else gl_ N 2 (nI o) 0 0 0 g
def cC (k o : Nat) : Nat := 14 * (6 - o) + 2 + 2 * (5 - k)
def cM (k o : Nat) : Nat := 8 * (6 - o) + 1 + (5 - k)
def XX (t : Nat → Nat) (n k o p : Nat) : Prop := ∃ (ok : Bool) (p' : Nat) (code : List (Int32 × Int32)) (val : (Nat → Int32) → Int32), p ≤ p' ∧ p' ≤ n ∧ (ok = true → code.length ≤ p' - p) ∧
  (∀ N, cC k o ≤ N → Rd t n (fnc k o N) p ok p' code) ∧ (∀ N, cM k o ≤ N → Wk t n (gm_ N (5 - k) 0 0 0 0) o p ok p' val) ∧ (ok = true → Wo code val)
/-! a number -/
theorem num_ok {t : Nat → Nat} {n : Nat} (ht : tb_ t n) : ∀ (q k p : Nat) (x : Int32), k + q = 4 → p ≤ n → ∃ p' w, p ≤ p' ∧ p' ≤ n ∧ (dg (cc t n p) = true → k < 4 → p < p') ∧
    (∀ d s g m, rg t n d s p g → 5 < m + k → ∃ g', m_X3_readNumber_4 m x (nI k) g = some (w, g') ∧ rdI g' 11 2 = nI p' ∧ (∀ c i, ¬ (c = 11 ∧ i = 2) → rdI g' c i = rdI g c i) ∧ g'.2 = g.2) ∧
    (∀ o g m, wg t n o p g → 5 < m + k → ∃ g', m_X10_number_4 m x (nI k) g = some (w, g') ∧ wg t n o p' g' ∧ wf_ g g') := by
  have hn := ht.1
  intro q
  induction q with
  | zero =>
    intro k p x hk hp
    have : k = 4 := by omega
    subst this
    refine ⟨p, x, Nat.le_refl _, hp, fun _ h => by omega, fun d s g m hr hm => ?_, fun o g m hw hm => ?_⟩
    · obtain ⟨m, rfl⟩ : ∃ m', m = m' + 1 := ⟨m - 1, by omega⟩
      exact ⟨g, by rw [m_X3_readNumber_4, if_pos (by decide)], hr.2.1, fun _ _ _ => rfl, rfl⟩
    · obtain ⟨m, rfl⟩ : ∃ m', m = m' + 1 := ⟨m - 1, by omega⟩
      exact ⟨g, by rw [m_X10_number_4, if_pos (by decide)], hw, wf_.rf⟩
  | succ q ih =>
    intro k p x hk hp
    have k4 : ¬ (4 : Int32) ≤ nI k := fun w => by have := (nI_leI (a := 4) (by omega) (by omega)).mp w; omega
    cases hd : dg (cc t n p) with
    | true =>
      have hc : cc t n p < 256 := by
        simp only [dg, Bool.and_eq_true, decide_eq_true_eq] at hd
        omega
      obtain ⟨hpn, ec⟩ := cc_lt ht hc
      have ht256 := ht.2 p hpn
      obtain ⟨p', w, h1, h2, h3, h4, h5⟩ := ih (k + 1) (p + 1) (x * 10 + nI (t p) - 48) (by omega) (by omega)
      refine ⟨p', w, by omega, h2, fun _ _ => by omega, fun d s g m hr hm => ?_, fun o g m hw hm => ?_⟩
      · obtain ⟨m, rfl⟩ : ∃ m', m = m' + 1 := ⟨m - 1, by omega⟩
        obtain ⟨g', e1, e2, e3, e4⟩ := h4 d s (wrI g 11 2 (nI (p + 1))) m (hr.go (p + 1)) (by omega)
        refine ⟨g', ?_, e2, fun c i z => ?_, e4⟩
        · obtain ⟨r1, r2, r3, r4, r5⟩ := hr
          rw [m_X3_readNumber_4, if_neg k4, r1, r2, if_neg (by rw [nI_leI (by omega) (by omega)]; omega), ix_nI (by omega) (by omega), gdd_true, nI_clamp (by omega), r5 p hpn, digit_c ht256, ← ec, hd, bdd_some, if_neg (show ¬ bz true = 0 by decide), r2, ix_nI (by omega) (by omega), gdd_true, nI_clamp (by omega), r5 p hpn, nI_1, nI_1]
          exact e1
        · rw [e3 c i z, rI_wI, if_neg z]
      · obtain ⟨m, rfl⟩ : ∃ m', m = m' + 1 := ⟨m - 1, by omega⟩
        obtain ⟨g', e1, e2, e3⟩ := h5 o (wrI g 40 20 (nI (p + 1))) m (hw.go (p + 1)) (by omega)
        refine ⟨g', ?_, e2, (wf_.rf.w _ (by omega) (by omega)).tr e3⟩
        rw [m_X10_number_4, if_neg k4, hw.at ht hp, bdd_some, in_dg ht, hd, bdd_some, if_neg (show ¬ bz true = 0 by decide), hw.at ht hp, bdd_some, hw.2.1, nI_1, nI_1, ac, if_pos hpn, Int32.mul_comm 10 x]
        exact e1
    | false =>
      refine ⟨p, x, Nat.le_refl _, hp, fun h => absurd h (by decide), fun d s g m hr hm => ?_, fun o g m hw hm => ?_⟩
      · obtain ⟨m, rfl⟩ : ∃ m', m = m' + 1 := ⟨m - 1, by omega⟩
        refine ⟨g, ?_, hr.2.1, fun _ _ _ => rfl, rfl⟩
        obtain ⟨r1, r2, r3, r4, r5⟩ := hr
        rw [m_X3_readNumber_4, if_neg k4, r1, r2]
        by_cases z : p < n
        · rw [cc_in z] at hd
          rw [if_neg (by rw [nI_leI (by omega) (by omega)]; omega), ix_nI (by omega) (by omega), gdd_true, nI_clamp (by omega), r5 p z, digit_c (ht.2 p z), hd, bdd_some, if_pos (show bz false = 0 from rfl)]
        · rw [if_pos (by rw [nI_leI (by omega) (by omega)]; omega)]
      · obtain ⟨m, rfl⟩ : ∃ m', m = m' + 1 := ⟨m - 1, by omega⟩
        exact ⟨g, by rw [m_X10_number_4, if_neg k4, hw.at ht hp, bdd_some, in_dg ht, hd, bdd_some, if_pos (show bz false = 0 from rfl)], hw, wf_.rf⟩
/-! an operand -/
theorem gl_op (N : Nat) (a : Int32) (g : Mm) : gl_ (N + 1) 2 a 0 0 0 g = m_X3_readOperand (gl_ N) a g := by rw [gl_, if_neg (by decide), if_neg (by decide), if_pos rfl]
theorem gl_sg (N : Nat) (a b : Int32) (g : Mm) : gl_ (N + 1) 3 a b 0 0 g = m_X3_readSigned (gl_ N) a b g := by rw [gl_, if_neg (by decide), if_neg (by decide), if_neg (by decide), if_pos rfl]
theorem gl_br (N : Nat) (a : Int32) (g : Mm) : gl_ (N + 1) 4 a 0 0 0 g = m_X3_readBraced (gl_ N) a g := by rw [gl_, if_neg (by decide), if_neg (by decide), if_neg (by decide), if_neg (by decide), if_pos rfl]
theorem gl_jn (N : Nat) (a b : Int32) (g : Mm) : gl_ (N + 1) 1 a b 0 0 g = m_X3_readJoined (gl_ N) a b g := by rw [gl_, if_neg (by decide), if_pos rfl]
theorem gl_pt (N : Nat) (a b : Int32) (g : Mm) : gl_ (N + 1) 0 a b 0 0 g = m_X3_readPart (gl_ N) a b g := by rw [gl_, if_pos rfl]
theorem gm_at (N : Nat) (g : Mm) : gm_ (N + 1) (5 - 5) 0 0 0 0 g = m_X10_atom (gm_ N) g := by
  show gm_ (N + 1) 0 0 0 0 0 g = _
  rw [gm_, if_pos rfl]
/-- the class at a place, its first questions answered -/
theorem op_head {t : Nat → Nat} {n s p : Nat} {d : Int32} {g : Mm} (ht : tb_ t n) (hr : rg t n d s p g) (C : Nat → Int32 → Int32 → Int32 → Int32 → Mm → Option (Int32 × Mm)) (a : Int32) (hd : dg (cc t n p) = false) (hm : nmx (cc t n p) = 9) (hp : p < n) :
    m_X3_readOperand C a g = if a < (6 : Int32) then (if t p = 40 then bdd (C 4 (a + 1) 0 0 0 (wrI g 11 2 (nI (p + 1)))) (fun ra15 ga16 => gdd (zbI ra15) (some (ra15, ga16))) else if t p = 33 then m_X3_readOperand_141 C a 4 (wrI g 11 2 (nI (p + 1))) else if t p = 45 then m_X3_readOperand_141 C a 3 (wrI g 11 2 (nI (p + 1))) else some (0, g)) else some (0, g) := by
  have hn := ht.1
  obtain ⟨r1, r2, r3, r4, r5⟩ := hr
  have h256 := ht.2 p hp
  rw [cc_in hp] at hd hm
  have q : ∀ k, k < 256 → (nI (t p) = nI k ↔ t p = k) := fun k hk => nI_eq (by omega) (by omega)
  rw [m_X3_readOperand, r1, r2, if_pos (by rw [nI_ltI (by omega) (by omega)]; exact hp), ix_nI (by omega) (by omega), gdd_true, nI_clamp (by omega), r5 p hp, digit_c h256, hd, bdd_some, if_pos (show bz false = 0 from rfl), nameOf_c, bdd_some, if_pos ((nm_neg _ h256).mpr hm), r2, nI_1]
  by_cases ha : a < (6 : Int32)
  · rw [if_pos ha, if_pos ha]
    by_cases c1 : t p = 40
    · rw [if_pos (show nI (t p) = (40 : Int32) from (q 40 (by omega)).mpr c1), if_pos c1]
    · rw [if_neg (show ¬ nI (t p) = (40 : Int32) from fun w => c1 ((q 40 (by omega)).mp w)), if_neg c1]
      by_cases c2 : t p = 33
      · rw [if_pos (show nI (t p) = (33 : Int32) from (q 33 (by omega)).mpr c2), if_pos c2, m_X3_readOperand_119, if_pos (show nI (t p) = (33 : Int32) from (q 33 (by omega)).mpr c2), r2, nI_1]
      · rw [if_neg (show ¬ nI (t p) = (33 : Int32) from fun w => c2 ((q 33 (by omega)).mp w)), if_neg c2]
        by_cases c3 : t p = 45
        · rw [if_pos (show nI (t p) = (45 : Int32) from (q 45 (by omega)).mpr c3), if_pos c3, m_X3_readOperand_119, if_neg (show ¬ nI (t p) = (33 : Int32) from fun w => c2 ((q 33 (by omega)).mp w)), r2, nI_1]
        · rw [if_neg (show ¬ nI (t p) = (45 : Int32) from fun w => c3 ((q 45 (by omega)).mp w)), if_neg c3]
  · rw [if_neg ha, if_neg ha]
/-- the reference at a place -/
theorem at_head {t : Nat → Nat} {n o p : Nat} {g : Mm} (ht : tb_ t n) (hw : wg t n o p g) (hp : p ≤ n) (C : Nat → Int32 → Int32 → Int32 → Int32 → Mm → Option (Int32 × Mm)) :
    m_X10_atom C g = if cc t n p = 33 ∨ cc t n p = 45 ∨ cc t n p = 40 then m_X10_atom_32 C (ac t n p) g else if dg (cc t n p) = true then bdd (m_X10_number g) (fun r g2 => some (r, g2)) else bdd (m_X10_isName (ac t n p) g) (fun ra12 ga13 => (if ra12 = (0 : Int32) then some ((0 : Int32), (wrI ga13 40 21 (1 : Int32))) else bdd (m_X10_named (ac t n p) (wrI ga13 40 20 ((rdI ga13 40 20) + (1 : Int32)))) (fun ra16 ga17 => some (ra16, ga17)))) := by
  rw [m_X10_atom, hw.2.2.1, if_pos rfl, hw.at ht hp, bdd_some]
  by_cases c1 : cc t n p = 33
  · rw [if_pos (show ac t n p = (33 : Int32) from (ac_iff (k := 33) ht (by omega)).mpr c1), if_pos (Or.inl c1)]
  · rw [if_neg (show ¬ ac t n p = (33 : Int32) from fun w => c1 ((ac_iff (k := 33) ht (by omega)).mp w))]
    by_cases c2 : cc t n p = 45
    · rw [if_pos (show ac t n p = (45 : Int32) from (ac_iff (k := 45) ht (by omega)).mpr c2), if_pos (Or.inr (Or.inl c2))]
    · rw [if_neg (show ¬ ac t n p = (45 : Int32) from fun w => c2 ((ac_iff (k := 45) ht (by omega)).mp w))]
      by_cases c3 : cc t n p = 40
      · rw [if_pos (show ac t n p = (40 : Int32) from (ac_iff (k := 40) ht (by omega)).mpr c3), if_pos (Or.inr (Or.inr c3))]
      · rw [if_neg (show ¬ ac t n p = (40 : Int32) from fun w => c3 ((ac_iff (k := 40) ht (by omega)).mp w)), if_neg (show ¬ (cc t n p = 33 ∨ cc t n p = 45 ∨ cc t n p = 40) by omega), in_dg ht, bdd_some]
        cases dg (cc t n p)
        · rw [if_pos (show bz false = 0 from rfl), if_neg (by decide)]
        · rw [if_neg (show ¬ bz true = 0 by decide), if_pos rfl]
theorem isName_m {t : Nat → Nat} {n p : Nat} (ht : tb_ t n) (g : Mm) : m_X10_isName (ac t n p) g = some (bz (decide (nmx (cc t n p) ≠ 9)), g) := by
  have q : ∀ k, k < 256 → (ac t n p = nI k ↔ cc t n p = k) := fun k hk => ac_iff ht hk
  have st : ∀ (k : Nat) (hk : k < 256) (h : nmx k ≠ 9), ac t n p = nI k → decide (nmx (cc t n p) ≠ 9) = true := fun k hk h w => decide_eq_true (by rw [(q k hk).mp w]; exact h)
  rw [m_X10_isName]
  by_cases c1 : ac t n p = (104 : Int32)
  · rw [if_pos c1, st 104 (by omega) (by decide) c1]; rfl
  rw [if_neg c1]
  by_cases c2 : ac t n p = (98 : Int32)
  · rw [if_pos c2, st 98 (by omega) (by decide) c2]; rfl
  rw [if_neg c2]
  by_cases c3 : ac t n p = (109 : Int32)
  · rw [if_pos c3, st 109 (by omega) (by decide) c3]; rfl
  rw [if_neg c3]
  by_cases c4 : ac t n p = (110 : Int32)
  · rw [if_pos c4, st 110 (by omega) (by decide) c4]; rfl
  rw [if_neg c4]
  by_cases c5 : ac t n p = (112 : Int32)
  · rw [if_pos c5, st 112 (by omega) (by decide) c5]; rfl
  rw [if_neg c5]
  by_cases c6 : ac t n p = (113 : Int32)
  · rw [if_pos c6, st 113 (by omega) (by decide) c6]; rfl
  rw [if_neg c6]
  have : nmx (cc t n p) = 9 := by
    unfold nmx
    rw [if_neg (fun w => c1 ((q 104 (by omega)).mpr w)), if_neg (fun w => c2 ((q 98 (by omega)).mpr w)), if_neg (fun w => c3 ((q 109 (by omega)).mpr w)), if_neg (fun w => c4 ((q 110 (by omega)).mpr w)), if_neg (fun w => c5 ((q 112 (by omega)).mpr w)), if_neg (fun w => c6 ((q 113 (by omega)).mpr w))]
  rw [decide_eq_false (fun w => w this)]
  rfl
theorem named_m {t : Nat → Nat} {n p : Nat} (ht : tb_ t n) (h : nmx (cc t n p) ≠ 9) (g : Mm) : m_X10_named (ac t n p) g = some (nmv g (nmx (cc t n p)), g) := by
  have q : ∀ k, k < 256 → (ac t n p = nI k ↔ cc t n p = k) := fun k hk => ac_iff ht hk
  rw [m_X10_named]
  by_cases c1 : ac t n p = (104 : Int32)
  · rw [if_pos c1, (q 104 (by omega)).mp c1]; rfl
  rw [if_neg c1]
  by_cases c2 : ac t n p = (98 : Int32)
  · rw [if_pos c2, (q 98 (by omega)).mp c2]; rfl
  rw [if_neg c2]
  by_cases c3 : ac t n p = (109 : Int32)
  · rw [if_pos c3, (q 109 (by omega)).mp c3]; rfl
  rw [if_neg c3]
  by_cases c4 : ac t n p = (110 : Int32)
  · rw [if_pos c4, (q 110 (by omega)).mp c4]; rfl
  rw [if_neg c4]
  by_cases c5 : ac t n p = (112 : Int32)
  · rw [if_pos c5, (q 112 (by omega)).mp c5]; rfl
  rw [if_neg c5]
  by_cases c6 : cc t n p = 113
  · rw [c6]; rfl
  exfalso
  apply h
  unfold nmx
  rw [if_neg (fun w => c1 ((q 104 (by omega)).mpr w)), if_neg (fun w => c2 ((q 98 (by omega)).mpr w)), if_neg (fun w => c3 ((q 109 (by omega)).mpr w)), if_neg (fun w => c4 ((q 110 (by omega)).mpr w)), if_neg (fun w => c5 ((q 112 (by omega)).mpr w)), if_neg c6]
