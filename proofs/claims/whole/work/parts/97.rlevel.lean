/-! a level: parts joined by its signs -/
theorem part_rd {t : Nat → Nat} {n k o N p p' : Nat} {ok : Bool} {code : List (Int32 × Int32)} (hk : k < 5) (h : Rd t n (fnc (k + 1) o N) p ok p' code) : Rd t n (gl_ (N + 1) 0 (nI (k + 1)) (nI o) 0 0) p ok p' code := by
  intro d s g hs hr
  obtain ⟨g', e1, e2⟩ := h d s g hs hr
  refine ⟨g', ?_, e2⟩
  rw [gl_pt, m_X3_readPart]
  by_cases q : k + 1 < 5
  · rw [fnc_k q] at e1
    rw [if_pos (show nI (k + 1) < (5 : Int32) from (nI_ltI (b := 5) (by omega) (by omega)).mpr q), e1, bdd_some, zb_bz, gdd_true]
  · obtain rfl : k = 4 := by omega
    rw [fnc_5] at e1
    rw [if_neg (show ¬ nI (4 + 1) < (5 : Int32) by decide), e1, bdd_some, zb_bz, gdd_true]
def LL (t : Nat → Nat) (n k o p : Nat) : Prop := ∃ (ok : Bool) (p' : Nat) (code : List (Int32 × Int32)) (F : (Nat → Int32) → Int32 → Int32), p ≤ p' ∧ p' ≤ n ∧ (ok = true → code.length ≤ p' - p) ∧
  (∀ N m, cC (k + 1) o + 1 ≤ N → n - p + 2 ≤ m → Rd t n (m_X3_readJoined_15 (gl_ N) m (nI k) (nI o) 1) p ok p' code) ∧
  (∀ N m x, cM (k + 1) o ≤ N → n - p + 2 ≤ m → Wk t n (mL k (gm_ N) m x) o p ok p' (fun M => F M x)) ∧ (ok = true → WoL code F)
def RR (t : Nat → Nat) (n k o p : Nat) : Prop := ∃ (ok : Bool) (p' : Nat) (code : List (Int32 × Int32)) (F : (Nat → Int32) → Int32 → Int32), p ≤ p' ∧ p' ≤ n ∧ (ok = true → code.length ≤ p' - p) ∧
  (∀ N m, cC (k + 1) o + 1 ≤ N → n - p + 2 ≤ m → Rd t n (fun g => if k = 2 then m_X3_readJoined_15 (gl_ N) m (nI k) (nI o) 0 g else m_X3_readJoined_15 (gl_ N) m (nI k) (nI o) 1 g) p ok p' code) ∧
  (∀ N m x, cM (k + 1) o ≤ N → n - p + 2 ≤ m → Wk t n (fun g => if k = 2 then some (x, g) else mL k (gm_ N) m x g) o p ok p' (fun M => F M x)) ∧ (ok = true → WoL code F)
theorem wol_nil : WoL [] (fun _ x => x) := fun _ _ _ _ _ _ _ g _ _ _ _ _ => ⟨g, rfl, rfl, ko.rf⟩
theorem rr_of {t : Nat → Nat} {n k o p : Nat} (hp : p ≤ n) (h : k ≠ 2 → LL t n k o p) : RR t n k o p := by
  by_cases h2 : k = 2
  · refine ⟨true, p, [], fun _ x => x, Nat.le_refl _, hp, fun _ => Nat.zero_le _, fun N m hN hm d s g hs hr => ?_, fun N m x hN hm g hw => ?_, fun _ => wol_nil⟩
    · obtain ⟨m, rfl⟩ : ∃ m', m = m' + 1 := ⟨m - 1, by omega⟩
      exact ⟨g, by show (if k = 2 then _ else _) = _; rw [if_pos h2, rj_flag]; rfl, rf_.rf, hr.2.1, fun _ => ⟨hr.2.2.2.1, trivial⟩⟩
    · exact ⟨x, g, by show (if k = 2 then _ else _) = _; rw [if_pos h2], wf_.rf, hw.2.1, fun _ => ⟨hw.2.2.1, hw.2.2.2, rfl⟩, fun h => absurd h (by decide)⟩
  · obtain ⟨ok, p', code, F, h1, h3, h4, h5, h6, h7⟩ := h h2
    refine ⟨ok, p', code, F, h1, h3, h4, fun N m hN hm d s g hs hr => ?_, fun N m x hN hm g hw => ?_, h7⟩
    · obtain ⟨g', e1, e2⟩ := h5 N m hN hm d s g hs hr
      exact ⟨g', by show (if k = 2 then _ else _) = _; rw [if_neg h2]; exact e1, e2⟩
    · obtain ⟨v, g', e1, e2⟩ := h6 N m x hN hm g hw
      exact ⟨v, g', by show (if k = 2 then _ else _) = _; rw [if_neg h2]; exact e1, e2⟩
theorem wol_step {c l : Nat} {code1 code2 : List (Int32 × Int32)} {val1 : (Nat → Int32) → Int32} {F2 : (Nat → Int32) → Int32 → Int32} (hc : lvl c = l) (hl : l < 5) (O1 : Wo code1 val1) (O2 : WoL code2 F2) : WoL (code1 ++ ([(nI c, 0)] ++ code2)) (fun M x => F2 M (jv c x (val1 M))) := by
  obtain ⟨o1, O1⟩ := O1
  intro f len M fu frm h a g k cdh h1 h2 h3
  rw [List.length_append, List.length_append, List.length_singleton] at h2 ⊢
  obtain ⟨c1, c2⟩ := (cd_app _ _ _).mp cdh
  obtain ⟨c2, c3⟩ := (cd_app _ _ _).mp c2
  rw [List.length_singleton] at c3
  obtain ⟨g1, e1, e2, e3⟩ := O1 f len M (fu + code2.length + 1) frm (h + 1) a g k c1 h1 (by omega) h3
  have k1 := k.ko e3
  have c21 := cd_ko c2 e3
  have x0 : rdI g1 (pgm f + 3) h = rdI g (pgm f + 3) h := e3.1 _ h (by omega)
  have w := wk_join (fu := fu + code2.length) k1 (show a + code1.length < len by omega) (show frm ≤ a + code1.length by omega) (show h + 2 ≤ a + code1.length by omega) hc hl c21.1
  rw [e2, x0] at w
  have e4 := ko.w (f := f) (h := h) g1 (jv c (rdI g (pgm f + 3) h) (val1 M))
  obtain ⟨g2, f1, f2, f3⟩ := O2 f len M fu frm h (a + code1.length + 1) _ (k1.ko e4) (cd_ko (cd_ko c3 e3) e4) (by omega) (by omega) (by omega)
  rw [rI_wI, if_pos ⟨rfl, rfl⟩] at f2
  refine ⟨g2, ?_, f2, ?_⟩
  · rw [show fu + (code1.length + (1 + code2.length)) = fu + code2.length + 1 + code1.length by omega, e1, w, f1, show a + code1.length + 1 + code2.length = a + (code1.length + (1 + code2.length)) by omega]
  · refine ⟨fun c i q => ?_, (f3.2.trans e4.2).trans e3.2⟩
    rw [f3.1 c i q, e4.1 c i q, e3.1 c i (by omega)]
theorem loop_step {t : Nat → Nat} {n k o : Nat} (ht : tb_ t n) (hk : k < 5) (H : ∀ q, q ≤ n → XX t n (k + 1) o q) {p : Nat} (hp : p ≤ n) (I : ∀ p1, p < p1 → p1 ≤ n → LL t n k o p1) : LL t n k o p := by
  have hn := ht.1
  by_cases hl : lvl (cc t n p) = k
  · obtain ⟨hc, -⟩ := lvl_lt hl hk
    obtain ⟨hpn, -⟩ := cc_lt ht hc
    obtain ⟨ok1, p1, code1, val1, a1, a2, a3, R1, W1, O1⟩ := H (p + 1) (by omega)
    have e45 : 5 - (k + 1) = 4 - k := by omega
    rw [e45] at W1
    cases ok1 with
    | false =>
      refine ⟨false, p1, [], fun _ x => x, by omega, a2, fun h => absurd h (by decide), fun N m hN hm d s g hs hr => ?_, fun N m x hN hm g hw => ?_, fun h => absurd h (by decide)⟩
      · obtain ⟨m, rfl⟩ : ∃ m', m = m' + 1 := ⟨m - 1, by omega⟩
        obtain ⟨N, rfl⟩ : ∃ N', N = N' + 1 := ⟨N - 1, by omega⟩
        obtain ⟨g2, e1, e2, e3, -⟩ := part_rd hk (R1 N (by omega)) d s _ (by omega) (hr.go (p + 1))
        refine ⟨g2, ?_, (rf_.rf.go _).tr e2 (Nat.le_refl _), e3, fun h => absurd h (by decide)⟩
        rw [rj_step hk ht hr _ hl, e1, bdd_some, if_pos (show bz false = 0 from rfl)]
        rfl
      · obtain ⟨m, rfl⟩ : ∃ m', m = m' + 1 + 1 := ⟨m - 2, by omega⟩
        obtain ⟨w, g2, e1, e2, e3, -, e5⟩ := W1 N hN _ (hw.go (p + 1))
        have wf1 := (wf_.rf.w (nI (p + 1)) (by omega) (by omega) : wf_ g (wrI g 40 20 (nI (p + 1)))).tr e2
        refine ⟨jv (cc t n p) x w, g2, ?_, wf1, e3, fun h => absurd h (by decide), fun _ => e5 rfl⟩
        rw [mL_step hk ht hw hp x hl, e1, bdd_some]
        by_cases h2 : k = 2
        · rw [if_pos h2]
        · rw [if_neg h2, mL_bad hk (e5 rfl)]
    | true =>
      have hl1 := a3 rfl
      obtain ⟨ok2, p2, code2, F2, b1, b2, b3, R2, W2, O2⟩ := rr_of a2 (fun _ => I p1 (by omega) a2)
      refine ⟨ok2, p2, code1 ++ ([(nI (cc t n p), 0)] ++ code2), fun M x => F2 M (jv (cc t n p) x (val1 M)), by omega, b2, fun h => ?_, fun N m hN hm d s g hs hr => ?_, fun N m x hN hm g hw => ?_, fun h => wol_step hl hk (O1 rfl) (O2 h)⟩
      · have := b3 h
        rw [List.length_append, List.length_append, List.length_singleton]
        omega
      · obtain ⟨m, rfl⟩ : ∃ m', m = m' + 1 := ⟨m - 1, by omega⟩
        obtain ⟨N, rfl⟩ : ∃ N', N = N' + 1 := ⟨N - 1, by omega⟩
        obtain ⟨g2, e1, e2, e3, e4⟩ := part_rd hk (R1 N (by omega)) d s _ (by omega) (hr.go (p + 1))
        obtain ⟨e5, e6⟩ := e4 rfl
        have hd1 := pgm_01 d
        have rf1 := (rf_.rf.go (nI (p + 1)) : rf_ d s g _).tr e2 (Nat.le_refl _)
        have hr2 := hr.nx rf1 e3 e5
        have rf2 := rf_add (d := d) (s := s + code1.length) g2 (nI (cc t n p)) 0 (nI (s + code1.length + 1))
        have hr3 := hr2.nx (p' := p1) (s' := s + code1.length + 1) rf2 (by rw [rI_wI, if_neg (by omega), rI_wI, if_neg (by omega), rI_wI, if_neg (by omega)]; exact e3) (by rw [rI_wI, if_pos ⟨rfl, rfl⟩])
        obtain ⟨g4, f1, f2, f3, f4⟩ := R2 (N + 1) m hN (by omega) d (s + code1.length + 1) _ (by omega) hr3
        refine ⟨g4, ?_, (rf1.tr rf2 (by omega)).tr f2 (by omega), f3, fun h => ⟨?_, ?_⟩⟩
        · rw [rj_step hk ht hr _ hl, e1, bdd_some, if_neg (show ¬ bz true = 0 by decide), hr2.2.2.1, add_c e5 (by omega), bdd_some]
          exact f1
        · rw [(f4 h).1, List.length_append, List.length_append, List.length_singleton, show s + code1.length + 1 + code2.length = s + (code1.length + (1 + code2.length)) by omega]
        · refine (cd_app _ _ _).mpr ⟨cd_rf (cd_rf e6 rf2 (Nat.le_refl _)) f2 (by omega), (cd_app _ _ _).mpr ⟨cd_rf (cd_add g2 _ _ _) f2 (by rw [List.length_singleton]; omega), ?_⟩⟩
          rw [List.length_singleton]
          exact (f4 h).2
      · obtain ⟨m, rfl⟩ : ∃ m', m = m' + 1 := ⟨m - 1, by omega⟩
        obtain ⟨w, g2, e1, e2, e3, e4, -⟩ := W1 N hN _ (hw.go (p + 1))
        obtain ⟨h21, h22, hv⟩ := e4 rfl
        have wf0 : wf_ g (wrI g 40 20 (nI (p + 1))) := wf_.rf.w (nI (p + 1)) (by omega) (by omega)
        have wf1 := wf0.tr e2
        obtain ⟨v, g4, f1, f2, f3, f4, f5⟩ := W2 N m (jv (cc t n p) x w) hN (by omega) g2 ⟨hw.1.wf wf1, e3, h21, h22⟩
        refine ⟨v, g4, ?_, wf1.tr f2, f3, fun h => ?_, f5⟩
        · rw [mL_step hk ht hw hp x hl, e1, bdd_some]
          exact f1
        · obtain ⟨x1, x2, x3⟩ := f4 h
          refine ⟨x1, x2, ?_⟩
          rw [x3, nmv_wf wf1, hv, nmv_wf wf0]
  · refine ⟨true, p, [], fun _ x => x, Nat.le_refl _, hp, fun _ => Nat.zero_le _, fun N m hN hm d s g hs hr => ?_, fun N m x hN hm g hw => ?_, fun _ => wol_nil⟩
    · obtain ⟨m, rfl⟩ : ∃ m', m = m' + 1 := ⟨m - 1, by omega⟩
      exact ⟨g, by rw [rj_stop hk ht hr hp _ hl]; rfl, rf_.rf, hr.2.1, fun _ => ⟨hr.2.2.2.1, trivial⟩⟩
    · obtain ⟨m, rfl⟩ : ∃ m', m = m' + 1 := ⟨m - 1, by omega⟩
      exact ⟨x, g, by rw [mL_stop hk ht hw hp x hl], wf_.rf, hw.2.1, fun _ => ⟨hw.2.2.1, hw.2.2.2, rfl⟩, fun h => absurd h (by decide)⟩
theorem loop_ok {t : Nat → Nat} {n k o : Nat} (ht : tb_ t n) (hk : k < 5) (H : ∀ q, q ≤ n → XX t n (k + 1) o q) : ∀ (q p : Nat), n - p ≤ q → p ≤ n → LL t n k o p := by
  intro q
  induction q with
  | zero => intro p h1 h2; exact loop_step ht hk H h2 (fun p1 h3 h4 => by omega)
  | succ q ih => intro p h1 h2; exact loop_step ht hk H h2 (fun p1 h3 h4 => ih p1 (by omega) h4)
theorem lvl_ok {t : Nat → Nat} {n k o : Nat} (ht : tb_ t n) (hk : k < 5) (H : ∀ q, q ≤ n → XX t n (k + 1) o q) (p : Nat) (hp : p ≤ n) : XX t n k o p := by
  have hn := ht.1
  obtain ⟨F, eF, hF⟩ := fu_get
  obtain ⟨ok1, p1, code1, val1, a1, a2, a3, R1, W1, O1⟩ := H p hp
  have e45 : 5 - (k + 1) = 4 - k := by omega
  rw [e45] at W1
  have hcC : cC k o = cC (k + 1) o + 2 := by unfold cC; omega
  have hcM : cM k o = cM (k + 1) o + 1 := by unfold cM; omega
  rw [← eF] at hF
  cases ok1 with
  | false =>
    refine ⟨false, p1, [], fun _ => 0, a1, a2, fun h => absurd h (by decide), fun N hN d s g hs hr => ?_, fun N hN g hw => ?_, fun h => absurd h (by decide)⟩
    · obtain ⟨N, rfl⟩ : ∃ N', N = N' + 1 + 1 := ⟨N - 2, by omega⟩
      obtain ⟨g2, e1, e2, e3, -⟩ := part_rd hk (R1 N (by omega)) d s g hs hr
      refine ⟨g2, ?_, e2, e3, fun h => absurd h (by decide)⟩
      rw [fnc_k hk, gl_jn, m_X3_readJoined, nI_1, e1, bdd_some, if_pos (show bz false = 0 from rfl)]
      rfl
    · obtain ⟨N, rfl⟩ : ∃ N', N = N' + 1 := ⟨N - 1, by omega⟩
      obtain ⟨w, g2, e1, e2, e3, -, e5⟩ := W1 N (by omega) g hw
      refine ⟨w, g2, ?_, e2, e3, fun h => absurd h (by decide), e5⟩
      obtain ⟨F2, eF2⟩ : ∃ F2, fuL = F2 + 1 := ⟨fuL - 1, by omega⟩
      rw [gm_k hk, e1, bdd_some, eF2, mL_bad hk (e5 rfl)]
  | true =>
    have hl1 := a3 rfl
    obtain ⟨ok2, p2, code2, F2, b1, b2, b3, R2, W2, O2⟩ := loop_ok ht hk H (n - p1) p1 (Nat.le_refl _) a2
    refine ⟨ok2, p2, code1 ++ code2, fun M => F2 M (val1 M), by omega, b2, fun h => ?_, fun N hN d s g hs hr => ?_, fun N hN g hw => ?_, fun h => ?_⟩
    · have := b3 h
      rw [List.length_append]
      omega
    · obtain ⟨N, rfl⟩ : ∃ N', N = N' + 1 + 1 := ⟨N - 2, by omega⟩
      obtain ⟨g2, e1, e2, e3, e4⟩ := part_rd hk (R1 N (by omega)) d s g hs hr
      obtain ⟨e5, e6⟩ := e4 rfl
      obtain ⟨g4, f1, f2, f3, f4⟩ := R2 (N + 1) fuL (by omega) (by omega) d (s + code1.length) g2 (by omega) (hr.nx e2 e3 e5)
      refine ⟨g4, ?_, e2.tr f2 (by omega), f3, fun h => ⟨?_, ?_⟩⟩
      · rw [fnc_k hk, gl_jn, m_X3_readJoined, nI_1, e1, bdd_some, if_neg (show ¬ bz true = 0 by decide)]
        exact f1
      · rw [(f4 h).1, List.length_append, Nat.add_assoc]
      · exact (cd_app _ _ _).mpr ⟨cd_rf e6 f2 (Nat.le_refl _), (f4 h).2⟩
    · obtain ⟨N, rfl⟩ : ∃ N', N = N' + 1 := ⟨N - 1, by omega⟩
      obtain ⟨w, g2, e1, e2, e3, e4, -⟩ := W1 N (by omega) g hw
      obtain ⟨h21, h22, hv⟩ := e4 rfl
      obtain ⟨v, g4, f1, f2, f3, f4, f5⟩ := W2 N fuL w (by omega) (by omega) g2 ⟨hw.1.wf e2, e3, h21, h22⟩
      refine ⟨v, g4, ?_, e2.tr f2, f3, fun h => ?_, f5⟩
      · rw [gm_k hk, e1, bdd_some]
        exact f1
      · obtain ⟨x1, x2, x3⟩ := f4 h
        exact ⟨x1, x2, by rw [x3, nmv_wf e2, hv]⟩
    · obtain ⟨o1, O1⟩ := O1 rfl
      have O2 := O2 h
      refine ⟨by rw [List.length_append]; omega, ?_⟩
      intro f len M fu frm h a g k cdh h1 h2 h3
      rw [List.length_append] at h2 ⊢
      obtain ⟨c1, c2⟩ := (cd_app _ _ _).mp cdh
      obtain ⟨g1, e1, e2, e3⟩ := O1 f len M (fu + code2.length) frm h a g k c1 h1 (by omega) h3
      obtain ⟨g2, f1, f2, f3⟩ := O2 f len M fu frm h (a + code1.length) g1 (k.ko e3) (cd_ko c2 e3) (by omega) (by omega) (by omega)
      rw [e2] at f2
      refine ⟨g2, ?_, f2, e3.tr f3 (Nat.le_refl _)⟩
      rw [show fu + (code1.length + code2.length) = fu + code2.length + code1.length by omega, e1, f1, Nat.add_assoc]
theorem down_ok {t : Nat → Nat} {n o : Nat} (ht : tb_ t n) (H : ∀ q, q ≤ n → XX t n 5 o q) : ∀ k, k ≤ 5 → ∀ p, p ≤ n → XX t n k o p := by
  have h4 := lvl_ok (k := 4) ht (by omega) H
  have h3 := lvl_ok (k := 3) ht (by omega) h4
  have h2 := lvl_ok (k := 2) ht (by omega) h3
  have h1 := lvl_ok (k := 1) ht (by omega) h2
  have h0 := lvl_ok (k := 0) ht (by omega) h1
  intro k hk
  match k, hk with
  | 0, _ => exact h0
  | 1, _ => exact h1
  | 2, _ => exact h2
  | 3, _ => exact h3
  | 4, _ => exact h4
  | 5, _ => exact H
theorem all_ok {t : Nat → Nat} {n : Nat} (ht : tb_ t n) : ∀ (q o : Nat), o + q = 6 → ∀ k, k ≤ 5 → ∀ p, p ≤ n → XX t n k o p := by
  intro q
  induction q with
  | zero => intro o ho; exact down_ok ht (fun p hp => opd ht hp (by omega) (fun h => by omega) (fun h => by omega))
  | succ q ih => intro o ho; exact down_ok ht (fun p hp => opd ht hp (by omega) (fun _ => ih (o + 1) (by omega) 0 (by omega)) (fun _ => ih (o + 1) (by omega) 5 (by omega)))
