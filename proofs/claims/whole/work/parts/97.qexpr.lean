/-! an operand, to all three -/
theorem fnc_5 (o N : Nat) (g : Mm) : fnc 5 o N g = gl_ N 2 (nI o) 0 0 0 g := if_neg (by decide)
theorem fnc_k {k : Nat} (hk : k < 5) (o N : Nat) (g : Mm) : fnc k o N g = gl_ N 1 (nI k) (nI o) 0 0 g := if_pos hk
theorem opd_fail {t : Nat → Nat} {n o p : Nat} (hp : p ≤ n) (h : ∀ d s g C, rg t n d s p g → m_X3_readOperand C (nI o) g = some (0, g)) (h2 : ∀ g C, wg t n o p g → ∃ g', m_X10_atom C g = some (0, g') ∧ wf_ g g' ∧ rdI g' 40 20 = nI p ∧ rdI g' 40 21 = 1) : XX t n 5 o p := by
  refine ⟨false, p, [], fun _ => 0, Nat.le_refl _, hp, fun h => absurd h (by decide), fun N hN d s g hs hr => ?_, fun N hN g hw => ?_, fun h => absurd h (by decide)⟩
  · obtain ⟨N, rfl⟩ : ∃ N', N = N' + 1 := ⟨N - 1, by unfold cC at hN; omega⟩
    exact ⟨g, by rw [fnc_5, gl_op, h d s g _ hr]; rfl, rf_.rf, hr.2.1, fun h => absurd h (by decide)⟩
  · obtain ⟨N, rfl⟩ : ∃ N', N = N' + 1 := ⟨N - 1, by unfold cM at hN; omega⟩
    obtain ⟨g', e1, e2, e3, e4⟩ := h2 g (gm_ N) hw
    exact ⟨0, g', by rw [gm_at]; exact e1, e2, e3, fun h => absurd h (by decide), fun _ => e4⟩
def up_ (g : Mm) (o p : Nat) : Mm := wrI (wrI g 40 22 (nI (o + 1))) 40 20 (nI (p + 1))
theorem up_wf (g : Mm) (o p : Nat) : wf_ g (up_ g o p) := (wf_.rf.w _ (by omega) (by omega)).w _ (by omega) (by omega)
theorem up_wg {t : Nat → Nat} {n o p : Nat} {g : Mm} (hw : wg t n o p g) : wg t n (o + 1) (p + 1) (up_ g o p) := by
  refine ⟨hw.1.wf (up_wf g o p), ?_, ?_, ?_⟩
  · rw [up_, rI_wI, if_pos ⟨rfl, rfl⟩]
  · rw [up_, rI_wI, if_neg (by omega), rI_wI, if_neg (by omega)]; exact hw.2.2.1
  · rw [up_, rI_wI, if_neg (by omega), rI_wI, if_pos ⟨rfl, rfl⟩]
theorem a32_m {t : Nat → Nat} {n o p : Nat} {g : Mm} (hw : wg t n o p g) (ho : o < 6) (C : Nat → Int32 → Int32 → Int32 → Int32 → Mm → Option (Int32 × Mm)) (a : Int32) :
    m_X10_atom_32 C a g = if a = (40 : Int32) then bdd (C 5 0 0 0 0 (up_ g o p)) (fun r g7 => m_X10_atom_85 C a r g7) else bdd (C 0 0 0 0 0 (up_ g o p)) (fun r g7 => m_X10_atom_85 C a r g7) := by
  obtain ⟨-, h20, h21, h22⟩ := hw
  have x : rdI (wrI g 40 22 (nI (o + 1))) 40 20 = nI p := by rw [rI_wI, if_neg (by omega)]; exact h20
  rw [m_X10_atom_32, h22, if_neg (show ¬ nI o = (6 : Int32) from fun w => by have := (nI_eq (b := 6) (by omega) (by omega)).mp w; omega), nI_1, x, nI_1]
  rfl
theorem a32_6 {t : Nat → Nat} {n p : Nat} {g : Mm} (hw : wg t n 6 p g) (C : Nat → Int32 → Int32 → Int32 → Int32 → Mm → Option (Int32 × Mm)) (a : Int32) : m_X10_atom_32 C a g = some (0, wrI g 40 21 1) := by
  rw [m_X10_atom_32, hw.2.2.2, if_pos (show nI 6 = (6 : Int32) from rfl)]
theorem bad_m {t : Nat → Nat} {n o p : Nat} {g : Mm} (hw : wg t n o p g) : wf_ g (wrI g 40 21 1) ∧ rdI (wrI g 40 21 1) 40 20 = nI p ∧ rdI (wrI g 40 21 1) 40 21 = 1 := by
  refine ⟨wf_.rf.w _ (by omega) (by omega), ?_, ?_⟩
  · rw [rI_wI, if_neg (by omega)]; exact hw.2.1
  · rw [rI_wI, if_pos ⟨rfl, rfl⟩]
theorem at_none {t : Nat → Nat} {n o p : Nat} {g : Mm} (ht : tb_ t n) (hw : wg t n o p g) (hp : p ≤ n) (C : Nat → Int32 → Int32 → Int32 → Int32 → Mm → Option (Int32 × Mm)) (h1 : ¬ (cc t n p = 33 ∨ cc t n p = 45 ∨ cc t n p = 40)) (h2 : dg (cc t n p) = false) (h3 : nmx (cc t n p) = 9) : m_X10_atom C g = some (0, wrI g 40 21 1) := by
  rw [at_head ht hw hp, if_neg h1, h2, if_neg (by decide), isName_m ht, decide_eq_false (fun w => w h3), bdd_some, if_pos (show bz false = 0 from rfl)]
theorem wo_one {x : Int32 × Int32} {val : (Nat → Int32) → Int32} (H : ∀ (f : Int32) (len : Nat) (N : Nat → Int32) (fu frm h a : Nat) (g : Mm), kg f len N g → a < len → frm ≤ a → h ≤ a → rdI g (pgm f + 1) a = x.1 → rdI g (pgm f + 2) a = x.2 → m_X4_work_6 (fu + 1) f (nI h) (nI frm) (nI a) g = m_X4_work_6 fu f (nI (h + 1)) (nI frm) (nI (a + 1)) (wrI g (pgm f + 3) h (val N))) : Wo [x] val := by
  refine ⟨Nat.le_refl _, ?_⟩
  intro f len N fu frm h a g k c h1 h2 h3
  rw [List.length_singleton] at h2
  refine ⟨wrI g (pgm f + 3) h (val N), ?_, ?_, ko.w g _⟩
  · rw [List.length_singleton]
    exact H f len N fu frm h a g k (by omega) h3 h1 c.1 c.2.1
  · rw [rI_wI, if_pos ⟨rfl, rfl⟩]
theorem opd_num {t : Nat → Nat} {n o p : Nat} (ht : tb_ t n) (hp : p < n) (hd : dg (cc t n p) = true) : XX t n 5 o p := by
  have hn := ht.1
  obtain ⟨p', w, h1, h2, h3, h4, h5⟩ := num_ok ht 4 0 p 0 (by omega) (by omega)
  have hpp := h3 hd (by omega)
  obtain ⟨F, eF, hF⟩ := fu_get
  refine ⟨true, p', [(1, w)], fun _ => w, by omega, h2, fun _ => by rw [List.length_singleton]; omega, fun N hN d s g hs hr => ?_, fun N hN g hw => ?_, fun _ => wo_one (fun f len M fu frm h a g k a1 a2 a3 a4 a5 => wk_num k a1 a2 a3 a4 a5)⟩
  · obtain ⟨N, rfl⟩ : ∃ N', N = N' + 1 := ⟨N - 1, by unfold cC at hN; omega⟩
    obtain ⟨g1, e1, e2, e3, e4⟩ := h4 d s g F hr (by omega)
    have hd1 := pgm_01 d
    have l1 : rdI g1 (pgm d) 4 = nI s := by rw [e3 _ _ (by omega)]; exact hr.2.2.2.1
    have rf1 : rf_ d s g g1 := ⟨fun c i q1 _ _ => e3 c i q1, e4⟩
    refine ⟨_, ?_, rf1.tr (rf_add g1 1 w (nI (s + 1))) (Nat.le_refl _), ?_, fun _ => ⟨?_, cd_add g1 1 w _⟩⟩
    · obtain ⟨r1, r2, r3, r4, r5⟩ := hr
      rw [cc_in hp] at hd
      rw [fnc_5, gl_op, m_X3_readOperand, r1, r2, if_pos (by rw [nI_ltI (by omega) (by omega)]; exact hp), ix_nI (by omega) (by omega), gdd_true, nI_clamp (by omega), r5 p hp, digit_c (ht.2 p hp), hd, bdd_some, if_neg (show ¬ bz true = 0 by decide), m_X3_readNumber, eF]
      rw [show m_X3_readNumber_4 F 0 0 g = some (w, g1) from e1, bdd_some, r3, add_c l1 (by omega), bdd_some]
      rfl
    · rw [rI_wI, if_neg (by omega), rI_wI, if_neg (by omega), rI_wI, if_neg (by omega)]; exact e2
    · rw [rI_wI, if_pos ⟨rfl, rfl⟩, List.length_singleton]
  · obtain ⟨N, rfl⟩ : ∃ N', N = N' + 1 := ⟨N - 1, by unfold cM at hN; omega⟩
    obtain ⟨g1, e1, e2, e3⟩ := h5 o g F hw (by omega)
    have hs : ¬ (cc t n p = 33 ∨ cc t n p = 45 ∨ cc t n p = 40) := by
      have h256 : cc t n p < 256 := by rw [cc_in hp]; exact ht.2 p hp
      have := (ch_dj _ h256).2 hd
      omega
    refine ⟨w, g1, ?_, e3, e2.2.1, fun _ => ⟨e2.2.2.1, e2.2.2.2, rfl⟩, fun h => absurd h (by decide)⟩
    rw [gm_at, at_head ht hw (by omega), if_neg hs, hd, if_pos rfl, m_X10_number, eF]
    rw [show m_X10_number_4 F 0 0 g = some (w, g1) from e1, bdd_some]
theorem opd_name {t : Nat → Nat} {n o p : Nat} (ht : tb_ t n) (hp : p < n) (hm : nmx (cc t n p) ≠ 9) : XX t n 5 o p := by
  have hn := ht.1
  have h256 : cc t n p < 256 := by rw [cc_in hp]; exact ht.2 p hp
  obtain ⟨hd, hs1, hs2, hs3⟩ := (ch_dj _ h256).1 hm
  obtain ⟨v1, v2⟩ := nm_val _ h256 hm
  refine ⟨true, p + 1, [(2, nI (nmx (cc t n p)))], fun M => M (nmx (cc t n p)), by omega, by omega, fun _ => by rw [List.length_singleton]; omega, fun N hN d s g hs hr => ?_, fun N hN g hw => ?_, fun _ => wo_one (fun f len M fu frm h a g k a1 a2 a3 a4 a5 => wk_name k a1 a2 a3 v2 a4 a5)⟩
  · obtain ⟨N, rfl⟩ : ∃ N', N = N' + 1 := ⟨N - 1, by unfold cC at hN; omega⟩
    have hd1 := pgm_01 d
    refine ⟨_, ?_, (rf_add g 2 (nI (nmx (cc t n p))) (nI (s + 1))).go (nI (p + 1)), ?_, fun _ => ⟨?_, ?_⟩⟩
    · obtain ⟨r1, r2, r3, r4, r5⟩ := hr
      have hx : rdI (wrI (wrI (wrI g (pgm d + 1) s 2) (pgm d + 2) s (nI (nmx (cc t n p)))) (pgm d) 4 (nI (s + 1))) 11 2 = nI p := by
        rw [rI_wI, if_neg (by omega), rI_wI, if_neg (by omega), rI_wI, if_neg (by omega)]; exact r2
      have hm2 := hm
      rw [cc_in hp] at hd hm2 v1 h256
      rw [fnc_5, gl_op, m_X3_readOperand, r1, r2, if_pos (by rw [nI_ltI (by omega) (by omega)]; exact hp), ix_nI (by omega) (by omega), gdd_true, nI_clamp (by omega), r5 p hp, digit_c h256, hd, bdd_some, if_pos (show bz false = 0 from rfl), nameOf_c, bdd_some, if_neg (fun w => by exact hm2 ((nm_neg _ h256).mp w)), nameOf_c, bdd_some, r3, v1, ← cc_in (t := t) hp, add_c r4 (by omega), bdd_some, hx, nI_1]
      rfl
    · rw [rI_wI, if_pos ⟨rfl, rfl⟩]
    · rw [rI_wI, if_neg (by omega), rI_wI, if_pos ⟨rfl, rfl⟩, List.length_singleton]
    · exact cd_cong _ _ (cd_add g 2 (nI (nmx (cc t n p))) (nI (s + 1))) (fun c i h1 _ _ => by rw [rI_wI, if_neg (by omega)])
  · obtain ⟨N, rfl⟩ : ∃ N', N = N' + 1 := ⟨N - 1, by unfold cM at hN; omega⟩
    have hg := hw.go (p + 1)
    refine ⟨nmv g (nmx (cc t n p)), wrI g 40 20 (nI (p + 1)), ?_, wf_.rf.w _ (by omega) (by omega), hg.2.1, fun _ => ⟨hg.2.2.1, hg.2.2.2, rfl⟩, fun h => absurd h (by decide)⟩
    rw [gm_at, at_head ht hw (by omega), if_neg (by omega), hd, if_neg (by decide), isName_m ht, decide_eq_true hm, bdd_some, if_neg (show ¬ bz true = 0 by decide), hw.2.1, nI_1, named_m ht hm, bdd_some, nmv_wf (wf_.rf.w _ (by omega) (by omega))]
theorem o6 {o : Nat} (h : o < 6) : nI o < (6 : Int32) := (nI_ltI (b := 6) (by omega) (by omega)).mpr h
theorem opd_br {t : Nat → Nat} {n o p : Nat} (ht : tb_ t n) (hp : p < n) (ho : o < 6) (hc : cc t n p = 40) (H : XX t n 0 (o + 1) (p + 1)) : XX t n 5 o p := by
  have hn := ht.1
  have htp : t p = 40 := by rw [← cc_in (t := t) hp]; exact hc
  have hd : dg (cc t n p) = false := by rw [hc]; rfl
  have hm : nmx (cc t n p) = 9 := by rw [hc]; rfl
  have ha : ac t n p = nI 40 := (ac_iff ht (by omega)).mpr hc
  obtain ⟨ok1, p1, code1, val1, a1, a2, a3, R1, W1, O1⟩ := H
  -- the class as far as the inner text
  have cl : ∀ N, cC 5 o ≤ N → ∀ d s g, s ≤ p → rg t n d s p g → ∃ g2, rf_ d s g g2 ∧ rdI g2 11 2 = nI p1 ∧ (ok1 = true → rdI g2 (pgm d) 4 = nI (s + code1.length) ∧ cd d g2 s code1) ∧
      fnc 5 o N g = bdd (if bz ok1 = (0 : Int32) then some ((0 : Int32), g2) else bdd (m_X3_isNext 41 g2) (fun ra5 ga6 => (if ra5 = (0 : Int32) then some ((0 : Int32), ga6) else some ((1 : Int32), (wrI ga6 11 2 ((rdI ga6 11 2) + (1 : Int32))))))) (fun ra15 ga16 => gdd (zbI ra15) (some (ra15, ga16))) := by
    intro N hN d s g hs hr
    obtain ⟨N, rfl⟩ : ∃ N', N = N' + 1 + 1 := ⟨N - 2, by unfold cC at hN; omega⟩
    obtain ⟨g2, e1, e2, e3, e4⟩ := R1 N (by unfold cC at hN ⊢; omega) d s _ (by omega) (hr.go (p + 1))
    rw [fnc_k (by decide)] at e1
    refine ⟨g2, (rf_.rf.go _).tr e2 (Nat.le_refl _), e3, e4, ?_⟩
    rw [fnc_5, gl_op, op_head ht hr _ _ hd hm hp, if_pos (o6 ho), if_pos htp, gl_br, m_X3_readBraced, nI_1]
    rw [show gl_ N 1 0 (nI (o + 1)) 0 0 (wrI g 11 2 (nI (p + 1))) = some (bz ok1, g2) from e1, bdd_some]
  have ml : ∀ N, cM 5 o ≤ N → ∀ g, wg t n o p g → ∃ v g2 N', wf_ g g2 ∧ tx t n g2 ∧ rdI g2 40 20 = nI p1 ∧ (ok1 = true → rdI g2 40 21 = 0 ∧ rdI g2 40 22 = nI (o + 1) ∧ v = val1 (nmv g)) ∧ (ok1 = false → rdI g2 40 21 = 1) ∧ gm_ N (5 - 5) 0 0 0 0 g = m_X10_atom_85 (gm_ N') (nI 40) v g2 := by
    intro N hN g hw
    obtain ⟨N, rfl⟩ : ∃ N', N = N' + 1 := ⟨N - 1, by unfold cM at hN; omega⟩
    obtain ⟨v, g2, e1, e2, e3, e4, e5⟩ := W1 N (by unfold cM at hN ⊢; omega) _ (up_wg hw)
    have wf1 := (up_wf g o p).tr e2
    rw [nmv_wf (up_wf g o p)] at e4
    refine ⟨v, g2, N, wf1, hw.1.wf wf1, e3, e4, e5, ?_⟩
    rw [gm_at, at_head ht hw (by omega), if_pos (Or.inr (Or.inr hc)), ha, a32_m hw ho, if_pos (show nI 40 = (40 : Int32) from rfl)]
    rw [show gm_ N 5 0 0 0 0 (up_ g o p) = some (v, g2) from e1, bdd_some]
  have r138 : ∀ (C : Nat → Int32 → Int32 → Int32 → Int32 → Mm → Option (Int32 × Mm)) (v : Int32) (g : Mm), m_X10_atom_138 C (nI 40) v g = some (v, wrI g 40 22 (rdI g 40 22 - 1)) := fun C v g => by rw [m_X10_atom_138, if_pos (show nI 40 = (40 : Int32) from rfl)]
  cases ok1 with
  | false =>
    refine ⟨false, p1, [], fun _ => 0, by omega, a2, fun h => absurd h (by decide), fun N hN d s g hs hr => ?_, fun N hN g hw => ?_, fun h => absurd h (by decide)⟩
    · obtain ⟨g2, e1, e2, -, e4⟩ := cl N hN d s g hs hr
      exact ⟨g2, by rw [e4]; rfl, e1, e2, fun h => absurd h (by decide)⟩
    · obtain ⟨v, g2, N', e1, e2, e3, -, e5, e6⟩ := ml N hN g hw
      have h21 := e5 rfl
      refine ⟨v, wrI g2 40 22 (rdI g2 40 22 - 1), ?_, e1.w _ (by omega) (by omega), ?_, fun h => absurd h (by decide), fun _ => ?_⟩
      · rw [e6, m_X10_atom_85, if_pos (show nI 40 = (40 : Int32) from rfl), h21, if_neg (by decide), r138]
      · rw [rI_wI, if_neg (by omega)]; exact e3
      · rw [rI_wI, if_neg (by omega)]; exact h21
  | true =>
    by_cases hq : cc t n p1 = 41
    · have hp1 : p1 < n := (cc_lt ht (by omega)).1
      refine ⟨true, p1 + 1, code1, val1, by omega, by omega, fun _ => by have := a3 rfl; omega, fun N hN d s g hs hr => ?_, fun N hN g hw => ?_, O1⟩
      · obtain ⟨g2, e1, e2, e3, e4⟩ := cl N hN d s g hs hr
        obtain ⟨e5, e6⟩ := e3 rfl
        have hd1 := pgm_01 d
        have hr2 := hr.nx e1 e2 e5
        refine ⟨wrI g2 11 2 (nI (p1 + 1)), ?_, e1.go _, by rw [rI_wI, if_pos ⟨rfl, rfl⟩], fun _ => ⟨by rw [rI_wI, if_neg (by omega)]; exact e5, cd_cong _ _ e6 (fun c i h1 _ _ => by rw [rI_wI, if_neg (by omega)])⟩⟩
        rw [e4, if_neg (show ¬ bz true = 0 by decide)]
        rw [show m_X3_isNext 41 g2 = some (bz (decide (cc t n p1 = 41)), g2) from next_c (k := 41) ht hr2 (by omega) (by omega), decide_eq_true hq, bdd_some, if_neg (show ¬ bz true = 0 by decide), e2, nI_1]
        rfl
      · obtain ⟨v, g2, N', e1, e2, e3, e4, -, e6⟩ := ml N hN g hw
        obtain ⟨h21, h22, hv⟩ := e4 rfl
        refine ⟨v, wrI (wrI (wrI g2 40 21 0) 40 20 (nI (p1 + 1))) 40 22 (nI o), ?_, ((e1.w _ (by omega) (by omega)).w _ (by omega) (by omega)).w _ (by omega) (by omega), ?_, fun _ => ⟨?_, ?_, hv⟩, fun h => absurd h (by decide)⟩
        · rw [e6, m_X10_atom_85, if_pos (show nI 40 = (40 : Int32) from rfl), h21, if_pos rfl, at_m ht e2 e3 a2, bdd_some, if_pos (show ac t n p1 = (41 : Int32) from (ac_iff (k := 41) ht (by omega)).mpr hq), m_X10_atom_114, show zbI 0 = true from rfl, gdd_true, if_pos (by rw [rI_wI, if_pos ⟨rfl, rfl⟩]), r138]
          have x1 : rdI (wrI g2 40 21 0) 40 20 = nI p1 := by rw [rI_wI, if_neg (by omega)]; exact e3
          rw [x1, nI_1]
          have x2 : rdI (wrI (wrI g2 40 21 0) 40 20 (nI (p1 + 1))) 40 22 = nI (o + 1) := by rw [rI_wI, if_neg (by omega), rI_wI, if_neg (by omega)]; exact h22
          rw [x2, nI_pred]
        · rw [rI_wI, if_neg (by omega), rI_wI, if_pos ⟨rfl, rfl⟩]
        · rw [rI_wI, if_neg (by omega), rI_wI, if_neg (by omega), rI_wI, if_pos ⟨rfl, rfl⟩]
        · rw [rI_wI, if_pos ⟨rfl, rfl⟩]
    · refine ⟨false, p1, [], fun _ => 0, by omega, a2, fun h => absurd h (by decide), fun N hN d s g hs hr => ?_, fun N hN g hw => ?_, fun h => absurd h (by decide)⟩
      · obtain ⟨g2, e1, e2, e3, e4⟩ := cl N hN d s g hs hr
        obtain ⟨e5, e6⟩ := e3 rfl
        have hr2 := hr.nx e1 e2 e5
        refine ⟨g2, ?_, e1, e2, fun h => absurd h (by decide)⟩
        rw [e4, if_neg (show ¬ bz true = 0 by decide)]
        rw [show m_X3_isNext 41 g2 = some (bz (decide (cc t n p1 = 41)), g2) from next_c (k := 41) ht hr2 (by omega) (by omega), decide_eq_false hq, bdd_some, if_pos (show bz false = 0 from rfl)]
        rfl
      · obtain ⟨v, g2, N', e1, e2, e3, e4, -, e6⟩ := ml N hN g hw
        obtain ⟨h21, h22, hv⟩ := e4 rfl
        refine ⟨v, wrI (wrI (wrI g2 40 21 1) 40 20 (nI p1)) 40 22 (nI o), ?_, ((e1.w _ (by omega) (by omega)).w _ (by omega) (by omega)).w _ (by omega) (by omega), ?_, fun h => absurd h (by decide), fun _ => ?_⟩
        · rw [e6, m_X10_atom_85, if_pos (show nI 40 = (40 : Int32) from rfl), h21, if_pos rfl, at_m ht e2 e3 a2, bdd_some, if_neg (show ¬ ac t n p1 = (41 : Int32) from fun w => hq ((ac_iff (k := 41) ht (by omega)).mp w)), m_X10_atom_114, show zbI 1 = true from rfl, gdd_true, if_neg (by rw [rI_wI, if_pos ⟨rfl, rfl⟩]; decide), r138]
          have x1 : rdI (wrI g2 40 21 1) 40 20 = nI p1 := by rw [rI_wI, if_neg (by omega)]; exact e3
          rw [x1, show nI p1 + (0 : Int32) = nI p1 from nI_add p1 0]
          have x2 : rdI (wrI (wrI g2 40 21 1) 40 20 (nI p1)) 40 22 = nI (o + 1) := by rw [rI_wI, if_neg (by omega), rI_wI, if_neg (by omega)]; exact h22
          rw [x2, nI_pred]
        · rw [rI_wI, if_neg (by omega), rI_wI, if_pos ⟨rfl, rfl⟩]
        · rw [rI_wI, if_neg (by omega), rI_wI, if_neg (by omega), rI_wI, if_pos ⟨rfl, rfl⟩]
def sgv (c : Nat) (v : Int32) : Int32 := if c = 33 then (if v = 0 then 1 else 0) else -v
def sgs (c : Nat) : Int32 := if c = 33 then 4 else 3
theorem opd_sg {t : Nat → Nat} {n o p : Nat} (ht : tb_ t n) (hp : p < n) (ho : o < 6) (hc : cc t n p = 33 ∨ cc t n p = 45) (H : XX t n 5 (o + 1) (p + 1)) : XX t n 5 o p := by
  have hn := ht.1
  have htp : t p = 33 ∨ t p = 45 := by rw [← cc_in (t := t) hp]; exact hc
  have hd : dg (cc t n p) = false := by rcases hc with hc | hc <;> rw [hc] <;> rfl
  have hm : nmx (cc t n p) = 9 := by rcases hc with hc | hc <;> rw [hc] <;> rfl
  obtain ⟨ok1, p1, code1, val1, a1, a2, a3, R1, W1, O1⟩ := H
  have cl : ∀ N, cC 5 o ≤ N → ∀ d s g, s ≤ p → rg t n d s p g → ∃ g2, rf_ d s g g2 ∧ rdI g2 11 2 = nI p1 ∧ (ok1 = true → rdI g2 (pgm d) 4 = nI (s + code1.length) ∧ cd d g2 s code1) ∧
      fnc 5 o N g = bdd (if bz ok1 = (0 : Int32) then some ((0 : Int32), g2) else bdd (m_X4_add (rdI g2 11 4) (sgs (cc t n p)) 0 g2) (fun _ ga6 => some ((1 : Int32), ga6))) (fun ra15 ga16 => gdd (zbI ra15) (some (ra15, ga16))) := by
    intro N hN d s g hs hr
    obtain ⟨N, rfl⟩ : ∃ N', N = N' + 1 + 1 := ⟨N - 2, by unfold cC at hN; omega⟩
    obtain ⟨g2, e1, e2, e3, e4⟩ := R1 N (by unfold cC at hN ⊢; omega) d s _ (by omega) (hr.go (p + 1))
    rw [fnc_5] at e1
    refine ⟨g2, (rf_.rf.go _).tr e2 (Nat.le_refl _), e3, e4, ?_⟩
    rw [fnc_5, gl_op, op_head ht hr _ _ hd hm hp, if_pos (o6 ho), cc_in hp]
    rcases htp with htp | htp
    · rw [htp, if_neg (by decide), if_pos rfl, show sgs 33 = 4 from rfl, m_X3_readOperand_141, gl_sg, m_X3_readSigned, nI_1, e1, bdd_some]
    · rw [htp, if_neg (by decide), if_neg (by decide), if_pos rfl, show sgs 45 = 3 from rfl, m_X3_readOperand_141, gl_sg, m_X3_readSigned, nI_1, e1, bdd_some]
  have ml : ∀ N, cM 5 o ≤ N → ∀ g, wg t n o p g → ∃ v g2, wf_ g g2 ∧ rdI g2 40 20 = nI p1 ∧ (ok1 = true → rdI g2 40 21 = 0 ∧ rdI g2 40 22 = nI (o + 1) ∧ v = val1 (nmv g)) ∧ (ok1 = false → rdI g2 40 21 = 1) ∧ gm_ N (5 - 5) 0 0 0 0 g = some (sgv (cc t n p) v, wrI g2 40 22 (rdI g2 40 22 - 1)) := by
    intro N hN g hw
    obtain ⟨N, rfl⟩ : ∃ N', N = N' + 1 := ⟨N - 1, by unfold cM at hN; omega⟩
    obtain ⟨v, g2, e1, e2, e3, e4, e5⟩ := W1 N (by unfold cM at hN ⊢; omega) _ (up_wg hw)
    have wf1 := (up_wf g o p).tr e2
    rw [nmv_wf (up_wf g o p)] at e4
    refine ⟨v, g2, wf1, e3, e4, e5, ?_⟩
    have e1' : gm_ N 0 0 0 0 0 (up_ g o p) = some (v, g2) := e1
    rw [gm_at, at_head ht hw (by omega), if_pos (by omega), sgv]
    rcases hc with hc | hc
    · have ha : ac t n p = nI 33 := (ac_iff ht (by omega)).mpr hc
      rw [ha, a32_m hw ho, if_neg (by decide), e1', bdd_some, m_X10_atom_85, if_neg (by decide), m_X10_atom_138, if_neg (by decide), if_neg (by decide), hc, if_pos rfl]
      split <;> rfl
    · have ha : ac t n p = nI 45 := (ac_iff ht (by omega)).mpr hc
      rw [ha, a32_m hw ho, if_neg (by decide), e1', bdd_some, m_X10_atom_85, if_neg (by decide), m_X10_atom_138, if_neg (by decide), if_pos (show nI 45 = (45 : Int32) from rfl), hc, if_neg (by decide)]
  cases ok1 with
  | false =>
    refine ⟨false, p1, [], fun _ => 0, by omega, a2, fun h => absurd h (by decide), fun N hN d s g hs hr => ?_, fun N hN g hw => ?_, fun h => absurd h (by decide)⟩
    · obtain ⟨g2, e1, e2, -, e4⟩ := cl N hN d s g hs hr
      exact ⟨g2, by rw [e4]; rfl, e1, e2, fun h => absurd h (by decide)⟩
    · obtain ⟨v, g2, e1, e3, -, e5, e6⟩ := ml N hN g hw
      refine ⟨_, _, e6, e1.w _ (by omega) (by omega), ?_, fun h => absurd h (by decide), fun _ => ?_⟩
      · rw [rI_wI, if_neg (by omega)]; exact e3
      · rw [rI_wI, if_neg (by omega)]; exact e5 rfl
  | true =>
    have hl := a3 rfl
    refine ⟨true, p1, code1 ++ [(sgs (cc t n p), 0)], fun M => sgv (cc t n p) (val1 M), by omega, a2, fun _ => by rw [List.length_append, List.length_singleton]; omega, fun N hN d s g hs hr => ?_, fun N hN g hw => ?_, fun _ => ?_⟩
    · obtain ⟨g2, e1, e2, e3, e4⟩ := cl N hN d s g hs hr
      obtain ⟨e5, e6⟩ := e3 rfl
      have hd1 := pgm_01 d
      have hr2 := hr.nx e1 e2 e5
      have rf2 := rf_add (d := d) (s := s + code1.length) g2 (sgs (cc t n p)) 0 (nI (s + code1.length + 1))
      refine ⟨_, ?_, e1.tr rf2 (by omega), ?_, fun _ => ⟨?_, ?_⟩⟩
      · rw [e4, if_neg (show ¬ bz true = 0 by decide), hr2.2.2.1, add_c e5 (by omega), bdd_some, bdd_some]
        rfl
      · rw [rI_wI, if_neg (by omega), rI_wI, if_neg (by omega), rI_wI, if_neg (by omega)]; exact e2
      · rw [rI_wI, if_pos ⟨rfl, rfl⟩, List.length_append, List.length_singleton, ← Nat.add_assoc]
      · exact (cd_app _ _ _).mpr ⟨cd_rf e6 rf2 (Nat.le_refl _), cd_add g2 _ _ _⟩
    · obtain ⟨v, g2, e1, e3, e4, -, e6⟩ := ml N hN g hw
      obtain ⟨h21, h22, hv⟩ := e4 rfl
      refine ⟨_, _, e6, e1.w _ (by omega) (by omega), ?_, fun _ => ⟨?_, ?_, ?_⟩, fun h => absurd h (by decide)⟩
      · rw [rI_wI, if_neg (by omega)]; exact e3
      · rw [rI_wI, if_neg (by omega)]; exact h21
      · rw [rI_wI, if_pos ⟨rfl, rfl⟩, h22, nI_pred]
      · rw [hv]
    · obtain ⟨O2, O3⟩ := O1 rfl
      refine ⟨by rw [List.length_append]; omega, ?_⟩
      intro f len M fu frm h a g k c h1 h2 h3
      rw [List.length_append, List.length_singleton] at h2 ⊢
      obtain ⟨c1, c2⟩ := (cd_app _ _ _).mp c
      obtain ⟨g1, e1, e2, e3⟩ := O3 f len M (fu + 1) frm h a g k c1 h1 (by omega) h3
      have c3 := cd_ko c2 e3
      have k1 := k.ko e3
      refine ⟨wrI g1 (pgm f + 3) h (sgv (cc t n p) (val1 M)), ?_, by rw [rI_wI, if_pos ⟨rfl, rfl⟩], e3.tr (ko.w g1 _) (Nat.le_refl _)⟩
      rw [show fu + (code1.length + 1) = fu + 1 + code1.length by omega, e1]
      rcases hc with hc | hc
      · rw [wk_deny k1 (by omega) (by omega) (by omega) (by rw [c3.1, hc]; rfl), e2, hc]
        rfl
      · rw [wk_neg k1 (by omega) (by omega) (by omega) (by rw [c3.1, hc]; rfl), e2, hc]
        rfl
theorem opd {t : Nat → Nat} {n o p : Nat} (ht : tb_ t n) (hp : p ≤ n) (ho : o ≤ 6) (hB : o < 6 → ∀ q, q ≤ n → XX t n 0 (o + 1) q) (hS : o < 6 → ∀ q, q ≤ n → XX t n 5 (o + 1) q) : XX t n 5 o p := by
  have hn := ht.1
  by_cases hpn : p < n
  · cases hd : dg (cc t n p) with
    | true => exact opd_num ht hpn hd
    | false =>
      by_cases hm : nmx (cc t n p) = 9
      · by_cases hs : cc t n p = 33 ∨ cc t n p = 45 ∨ cc t n p = 40
        · by_cases ho6 : o < 6
          · by_cases h40 : cc t n p = 40
            · exact opd_br ht hpn ho6 h40 (hB ho6 (p + 1) (by omega))
            · exact opd_sg ht hpn ho6 (by omega) (hS ho6 (p + 1) (by omega))
          · have : o = 6 := by omega
            subst this
            refine opd_fail hp (fun d s g C hr => ?_) (fun g C hw => ?_)
            · rw [op_head ht hr _ _ hd hm hpn, if_neg (by decide)]
            · exact ⟨_, by rw [at_head ht hw hp, if_pos hs, a32_6 hw], bad_m hw⟩
        · refine opd_fail hp (fun d s g C hr => ?_) (fun g C hw => ⟨_, at_none ht hw hp C hs hd hm, bad_m hw⟩)
          rw [cc_in hpn] at hs
          rw [op_head ht hr _ _ hd hm hpn, if_neg (show ¬ t p = 40 by omega), if_neg (show ¬ t p = 33 by omega), if_neg (show ¬ t p = 45 by omega)]
          split <;> rfl
      · exact opd_name ht hpn hm
  · have h256 := cc_out (t := t) hpn
    refine opd_fail hp (fun d s g C hr => ?_) (fun g C hw => ⟨_, at_none ht hw hp C (by omega) (by rw [h256]; rfl) (by rw [h256]; rfl), bad_m hw⟩)
    obtain ⟨r1, r2, r3, r4, r5⟩ := hr
    rw [m_X3_readOperand, r1, r2, if_neg (by rw [nI_ltI (by omega) (by omega)]; exact hpn)]
