/-! telling, over the reference's memory alone -/
def um_ (nb nh : Nat) (T : Nat → Nat → Nat) (M : Nat → Nat → Bool) (g : Mm) : Prop := (nb ≤ 6 ∧ nh ≤ 24) ∧ (rdI g 40 4 = nI nb ∧ rdI g 40 5 = nI nh) ∧ (∀ i j, i < 24 → j < 24 → m_X10_areMixed (nI i) (nI j) g = some (bz (M i j), g)) ∧ ∀ i j, i < 24 → j < 24 → m_X10_differ (nI i) (nI j) g = some (nI (Dm T nb i j), g)
theorem ub46 {nb nh : Nat} {T : Nat → Nat → Nat} {M : Nat → Nat → Bool} {g : Mm} (hs : um_ nb nh T M g) (K : Int32 → Int32 → Int32 → Int32 → Mm → Option (Int32 × Mm)) (a b : Int32) {X i : Nat} (hX : X < 64) (hi : i < nh) : ∀ (fu j : Nat), nh < j + fu → i < j → j ≤ nh →
    m_X10_tellsBy_46 K fu a b (nI X) (nI i) (nI j) g = oj ((rj nh i j).find? (flt T M nb X)) (fun p => some (0, fw X p g)) (K a b (nI X) (nI (i + 1)) g) := by
  obtain ⟨⟨b1, b3⟩, ⟨t4, t5⟩, hmm, hdm⟩ := id hs
  intro fu
  induction fu with
  | zero => intro j h1 h0 h2; omega
  | succ fu ih =>
    intro j h1 h0 h2
    rw [m_X10_tellsBy_46, t5]
    by_cases q : j = nh
    · subst q
      rw [if_pos (by rw [nI_leI (by omega) (by omega)]; omega), rj_end (Nat.le_refl _), nI_1]
      rfl
    · have e := ih (j + 1) (by omega) (by omega) (by omega)
      have hD := Dm_lt T b1 i j
      rw [if_neg (by rw [nI_leI (by omega) (by omega)]; omega), hmm _ _ (by omega) (by omega), bdd_some, rj_next (by omega), List.find?_cons, nI_1, flt]
      cases z : M i j with
      | true =>
        rw [if_neg (show ¬ bz true = 0 by decide)]
        exact e
      | false =>
        rw [if_pos (show bz false = 0 from rfl), hdm _ _ (by omega) (by omega), bdd_some, nI_and]
        have hlt := and_lt64 (b := X) hD
        by_cases y : Dm T nb i j &&& X = 0
        · rw [if_pos (show nI (Dm T nb i j &&& X) = 0 by rw [y]; rfl), decide_eq_true y]
          rfl
        · rw [if_neg (show ¬ nI (Dm T nb i j &&& X) = (0 : Int32) from fun w => y ((nI_eq (b := 0) (by omega) (by omega)).mp w)), decide_eq_false y]
          exact e
theorem ub31 {nb nh : Nat} {T : Nat → Nat → Nat} {M : Nat → Nat → Bool} {g : Mm} (hs : um_ nb nh T M g) (K : Int32 → Int32 → Int32 → Mm → Option (Int32 × Mm)) (a b : Int32) {X : Nat} (hX : X < 64) : ∀ (fu i : Nat), nh < i + fu → i ≤ nh →
    m_X10_tellsBy_31 K fu a b (nI X) (nI i) g = oj ((ri nh i).find? (flt T M nb X)) (fun p => some (0, fw X p g)) (K a b (nI (X + 1)) g) := by
  obtain ⟨⟨b1, b3⟩, ⟨t4, t5⟩, hmm, hdm⟩ := id hs
  intro fu
  induction fu with
  | zero => intro i h1 h2; omega
  | succ fu ih =>
    intro i h1 h2
    rw [m_X10_tellsBy_31, t5]
    by_cases q : i = nh
    · subst q
      rw [if_pos (by rw [nI_leI (by omega) (by omega)]; omega), ri_end (Nat.le_refl _), nI_1]
      rfl
    · obtain ⟨F, eF, hF⟩ := fu_get
      rw [if_neg (by rw [nI_leI (by omega) (by omega)]; omega), nI_1, ri_next (n := nh) (i := i) (by omega), List.find?_append, eF, ub46 hs _ a b hX (show i < nh by omega) F (i + 1) (by omega) (by omega) (by omega), ih (i + 1) (by omega) (by omega)]
      cases (rj nh i (i + 1)).find? (flt T M nb X) <;> rfl
theorem ub2 {nb nh : Nat} {T : Nat → Nat → Nat} {M : Nat → Nat → Bool} {g : Mm} (hs : um_ nb nh T M g) {S k : Nat} (hS : S < 64) (hk : k < 100) : ∀ (fu X : Nat), 2 ^ nb < X + fu → X ≤ 2 ^ nb →
    m_X10_tellsBy_2 fu (nI S) (nI k) (nI X) g = of3 (fs (ff T M nb nh S k) (2 ^ nb - X) X) (fun p => some (0, fw p.1 p.2 g)) (some (1, g)) := by
  obtain ⟨⟨b1, b3⟩, ⟨t4, t5⟩, hmm, hdm⟩ := id hs
  have h64 := pow6 b1
  intro fu
  induction fu with
  | zero => intro X h1 h2; omega
  | succ fu ih =>
    intro X h1 h2
    rw [m_X10_tellsBy_2, t4, shl_1 (by omega)]
    by_cases q : X = 2 ^ nb
    · rw [if_pos (by rw [nI_leI (by omega) (by omega)]; omega), show 2 ^ nb - X = 0 by omega]
      rfl
    · have e := ih (X + 1) (by omega) (by omega)
      have hX : X < 64 := by omega
      have e1 : nI X &&& (nI S ^^^ (-1 : Int32)) = nI (nsub X S) := by rw [show (-1 : Int32) = nI (2 ^ 32 - 1) by decide, nI_xor, nI_and]; rfl
      have hlt := nsub_lt X hX S hS
      have hpc := pc24_le (n := X) (by omega)
      rw [if_neg (by rw [nI_leI (by omega) (by omega)]; omega), e1, show 2 ^ nb - X = (2 ^ nb - (X + 1)) + 1 by omega, fs, nI_1]
      by_cases z1 : nsub X S = 0
      · rw [if_pos (show nI (nsub X S) = 0 by rw [z1]; rfl), bitsOf_nI (by omega), bdd_some]
        by_cases z2 : pc24 X = k
        · obtain ⟨F, eF, hF⟩ := fu_get
          rw [if_pos (by rw [z2]), eF, show (0 : Int32) = nI 0 from rfl, ub31 hs _ _ _ hX F 0 (by omega) (by omega), e, ff, if_pos ⟨z1, z2⟩]
          cases (ri nh 0).find? (flt T M nb X) <;> rfl
        · rw [if_neg (fun w => z2 ((nI_eq (by omega) (by omega)).mp w)), e, ff, if_neg (fun w => z2 w.2)]
      · rw [if_neg (show ¬ nI (nsub X S) = (0 : Int32) from fun w => z1 ((nI_eq (b := 0) (by omega) (by omega)).mp w)), e, ff, if_neg (fun w => z1 w.1)]
theorem ub_ok {nb nh : Nat} {T : Nat → Nat → Nat} {M : Nat → Nat → Bool} {g : Mm} (hs : um_ nb nh T M g) {S k : Nat} (hS : S < 2 ^ nb) (hk : k ≤ pc24 S) : ∃ g', m_X10_tellsBy (nI S) (nI k) g = some (bz (dw T M nb nh S (pc24 S - k + 1)), g') ∧ (∀ c i, ¬ (c = 40 ∧ 29 ≤ i ∧ i ≤ 31) → rdI g' c i = rdI g c i) ∧ g'.2 = g.2 := by
  have b1 := hs.1.1
  have h64 := pow6 b1
  have h6 := (pc_le6 S (by omega)).1
  obtain ⟨F, eF, hF⟩ := fu_get
  have e := ub2 hs (S := S) (k := k) (by omega) (by omega) F 0 (by omega) (Nat.zero_le _)
  rw [Nat.sub_zero] at e
  rw [m_X10_tellsBy, eF, show (0 : Int32) = nI 0 from rfl, e]
  have hd := fs_dw (T := T) (M := M) (nh := nh) b1 hS hk
  cases q : fs (ff T M nb nh S k) (2 ^ nb) 0 with
  | none =>
    rw [hd.mp q]
    exact ⟨g, rfl, fun _ _ _ => rfl, rfl⟩
  | some p =>
    have : dw T M nb nh S (pc24 S - k + 1) = false := by
      cases z : dw T M nb nh S (pc24 S - k + 1) with
      | false => rfl
      | true => rw [hd.mpr z] at q; cases q
    rw [this]
    refine ⟨fw p.1 p.2 g, rfl, fun c i w => ?_, rfl⟩
    rw [fw, rI_wI, if_neg (by omega), rI_wI, if_neg (by omega), rI_wI, if_neg (by omega)]
/-! the least so far -/
def lb_ (Q : Nat → Bool) (tot : Nat → Nat) (n : Nat) (r : Option Nat) : Prop := match r with
  | none => ∀ Y, Y < n → Q Y = false
  | some X => X < n ∧ Q X = true ∧ ∀ Y, Y < n → Q Y = true → tot X < tot Y ∨ (tot X = tot Y ∧ X ≤ Y)
theorem lb_uniq {Q : Nat → Bool} {tot : Nat → Nat} {n : Nat} {r r' : Option Nat} (h : lb_ Q tot n r) (h' : lb_ Q tot n r') : r = r' := by
  cases r with
  | none =>
    cases r' with
    | none => rfl
    | some X => have := h X h'.1; rw [h'.2.1] at this; cases this
  | some X =>
    cases r' with
    | none => have := h' X h.1; rw [h.2.1] at this; cases this
    | some X' =>
      have h1 := h.2.2 X' h'.1 h'.2.1
      have h2 := h'.2.2 X h.1 h.2.1
      have : X = X' := by omega
      rw [this]
theorem lb_skip {Q : Nat → Bool} {tot : Nat → Nat} {n m : Nat} {r : Option Nat} (h : lb_ Q tot n r) (hm : n ≤ m) (hs : ∀ Y, n ≤ Y → Y < m → Q Y = true → ∃ X, r = some X ∧ tot X ≤ tot Y) : lb_ Q tot m r := by
  cases r with
  | none =>
    intro Y hY
    by_cases q : Y < n
    · exact h Y q
    · cases w : Q Y with
      | false => rfl
      | true =>
        obtain ⟨X, e, -⟩ := hs Y (by omega) hY w
        cases e
  | some X =>
    refine ⟨Nat.lt_of_lt_of_le h.1 hm, h.2.1, fun Y hY w => ?_⟩
    by_cases q : Y < n
    · exact h.2.2 Y q w
    · obtain ⟨X', e, l⟩ := hs Y (by omega) hY w
      cases e
      have := h.1
      omega
theorem lb_new {Q : Nat → Bool} {tot : Nat → Nat} {n : Nat} {r : Option Nat} (h : lb_ Q tot n r) (hq : Q n = true) (hp : ∀ X, r = some X → tot n < tot X) : lb_ Q tot (n + 1) (some n) := by
  refine ⟨Nat.lt_succ_self _, hq, fun Y hY hQ => ?_⟩
  by_cases e : Y = n
  · subst e
    omega
  · cases r with
    | none => have := h Y (by omega); rw [hQ] at this; cases this
    | some X =>
      have h1 := h.2.2 Y (by omega) hQ
      have h2 := hp X rfl
      omega
/-! tables by their numbers -/
def cdg (rows : Nat) : Nat → Nat → Nat → Nat
  | 0, _, _ => 0
  | n + 1, N, h => if h = n then N % rows else cdg rows n (N / rows) h
theorem cdg_lt {rows : Nat} (hr : 0 < rows) : ∀ n N h, cdg rows n N h < rows := by
  intro n
  induction n with
  | zero => intro N h; exact hr
  | succ n ih =>
    intro N h
    rw [cdg]
    split
    · exact Nat.mod_lt _ hr
    · exact ih _ _
theorem cdg_out {rows : Nat} : ∀ n N h, n ≤ h → cdg rows n N h = 0 := by
  intro n
  induction n with
  | zero => intro N h _; rfl
  | succ n ih =>
    intro N h hh
    rw [cdg, if_neg (by omega)]
    exact ih _ _ (by omega)
theorem cdg_0 {rows : Nat} : ∀ n h, cdg rows n 0 h = 0 := by
  intro n
  induction n with
  | zero => intro h; rfl
  | succ n ih =>
    intro h
    rw [cdg, Nat.zero_mod, Nat.zero_div, ih]
    split <;> rfl
theorem cdg_blk {rows n a : Nat} (ha : a < n) : ∀ k Y, cdg rows (n + k) Y a = cdg rows n (Y / rows ^ k) a := by
  intro k
  induction k with
  | zero => intro Y; rw [Nat.pow_zero, Nat.div_one]; rfl
  | succ k ih =>
    intro Y
    rw [← Nat.add_assoc, cdg, if_neg (by omega), ih, Nat.div_div_eq_div_mul, Nat.pow_succ, Nat.mul_comm rows]
theorem rdig_out {mo : Nat → Nat} : ∀ k c j, k ≤ j → rdig mo k c j = 0 := by
  intro k
  induction k with
  | zero => intro c j _; rfl
  | succ k ih =>
    intro c j h
    rw [rdig, if_neg (by omega)]
    exact ih _ _ (by omega)
theorem rdig_0 {mo : Nat → Nat} : ∀ k j, rdig mo k 0 j = 0 := by
  intro k
  induction k with
  | zero => intro j; rfl
  | succ k ih =>
    intro j
    rw [rdig, Nat.zero_mod, Nat.zero_div, ih]
    split <;> rfl
def TN (nb nh : Nat) (mo : Nat → Nat) (N h b : Nat) : Nat := rdig mo nb (cdg (pw_ mo nb) nh N h) b
theorem TN_le {nb nh : Nat} {mo : Nat → Nat} (hm : ∀ b, b < nb → mo b ≤ 15) (N h b : Nat) : TN nb nh mo N h b ≤ 15 := by
  unfold TN
  by_cases q : b < nb
  · exact Nat.le_trans (rdig_le nb _ b q) (hm b q)
  · rw [rdig_out _ _ _ (by omega)]
    omega
theorem TN_h {nb nh : Nat} {mo : Nat → Nat} {N h b : Nat} (hh : nh ≤ h) : TN nb nh mo N h b = 0 := by rw [TN, cdg_out _ _ _ hh, rdig_0]
theorem TN_b {nb nh : Nat} {mo : Nat → Nat} {N h b : Nat} (hb : nb ≤ b) : TN nb nh mo N h b = 0 := rdig_out _ _ _ hb
/-- all strokes of the table -/
def tot_ (nb nh : Nat) (mo : Nat → Nat) (N : Nat) : Nat := sm (fun h => sm (fun b => TN nb nh mo N h b) nb) nh
theorem sm_mono (f : Nat → Nat) {n m : Nat} (h : n ≤ m) : sm f n ≤ sm f m := by
  induction m with
  | zero => rw [show n = 0 by omega]; exact Nat.le_refl _
  | succ m ih =>
    by_cases q : n = m + 1
    · rw [q]; exact Nat.le_refl _
    · have := ih (by omega)
      rw [sm]
      omega
theorem tot_le {nb nh : Nat} {mo : Nat → Nat} (hnb : nb ≤ 3) (hm : ∀ b, b < nb → mo b ≤ 15) (N : Nat) : tot_ nb nh mo N ≤ nh * 45 := sm_le (fun h _ => by
  have := sm_le (f := fun b => TN nb nh mo N h b) (n := nb) (M := 15) (fun b _ => TN_le hm N h b)
  omega)
/-! counting up -/
theorem ct18 {nb nh hd : Nat} {mo : Nat → Nat} {h : Nat} (hh : h < 24) (K : Int32 → Mm → Option (Int32 × Mm)) : ∀ (k fu c : Nat) (g : Mm), k ≤ nb → k < fu → c < pw_ mo k → sr_ nb nh hd mo g → (∀ j, j < k → rdI g 44 (6 * h + j) = nI (rdig mo k c j)) →
    ∃ g', fr_ (fun d i => decide (d = 44 ∧ 6 * h ≤ i ∧ i < 6 * h + k)) g g' ∧ ((c + 1 < pw_ mo k ∧ m_X10_counts_18 K fu (nI h) (ii_ k) g = some (1, g') ∧ ∀ j, j < k → rdI g' 44 (6 * h + j) = nI (rdig mo k (c + 1) j)) ∨
      (c + 1 = pw_ mo k ∧ m_X10_counts_18 K fu (nI h) (ii_ k) g = K (ii_ h) g' ∧ ∀ j, j < k → rdI g' 44 (6 * h + j) = nI 0)) := by
  intro k
  induction k with
  | zero =>
    intro fu c g h1 h2 h3 hs hr
    obtain ⟨fu, rfl⟩ : ∃ f, fu = f + 1 := ⟨fu - 1, by omega⟩
    refine ⟨g, fr_.rf, Or.inr ⟨?_, ?_, fun j hj => absurd hj (Nat.not_lt_zero _)⟩⟩
    · have h3 : c < 1 := h3
      show c + 1 = 1
      omega
    · rw [m_X10_counts_18, if_pos (show ii_ 0 < (0 : Int32) by decide), show nI h + (-1 : Int32) = ii_ h from ii_p h]
  | succ k ih =>
    intro fu c g h1 h2 h3 hs hr
    obtain ⟨fu, rfl⟩ : ∃ f, fu = f + 1 := ⟨fu - 1, by omega⟩
    have hk := hs.1.2.1
    obtain ⟨m1, m2⟩ := hs.2.2 k (by omega)
    have hm := Nat.mod_lt c (show 0 < mo k + 1 by omega)
    have hdm := Nat.div_add_mod c (mo k + 1)
    have h3' : c < (mo k + 1) * pw_ mo k := by rw [Nat.mul_comm]; exact h3
    have hq : c / (mo k + 1) < pw_ mo k := Nat.div_lt_of_lt_mul h3'
    have ix : (6 : Int32) * nI h + nI k = nI (6 * h + k) := by rw [show (6 : Int32) = nI 6 from rfl, pk_mul, nI_add]
    have hrk : rdI g 44 (6 * h + k) = nI (c % (mo k + 1)) := by rw [hr k (by omega), rdig, if_pos rfl]
    have hrj : ∀ j, j < k → rdI g 44 (6 * h + j) = nI (rdig mo k (c / (mo k + 1)) j) := fun j hj => by rw [hr j (by omega), rdig, if_neg (by omega)]
    have hun : m_X10_counts_18 K (fu + 1) (nI h) (ii_ (k + 1)) g = if nI (mo k) ≤ nI (c % (mo k + 1)) then m_X10_counts_18 K fu (nI h) (ii_ k) (wrI g 44 (6 * h + k) 0) else some (1, wrI g 44 (6 * h + k) (nI (c % (mo k + 1) + 1))) := by
      rw [m_X10_counts_18, if_neg (show ¬ ii_ (k + 1) < (0 : Int32) from fun w => by have := (ii_0 (by omega)).mp w; omega), ii_p, show ii_ (k + 1) = nI k from rfl, ix, ix_nI (n := 144) (by omega) (by omega), gdd_true, ix_nI (n := 6) (by omega) (by omega), gdd_true, nI_clamp (n := k) (by omega), nI_clamp (n := 6 * h + k) (by omega), m1, hrk, gdd_true, gdd_true, gdd_true, nI_1]
    rw [hun]
    by_cases z : mo k ≤ c % (mo k + 1)
    · have hz : c % (mo k + 1) = mo k := by omega
      have f1 : fr_ (fun d i => decide (d = 44 ∧ 6 * h ≤ i ∧ i < 6 * h + (k + 1))) g (wrI g 44 (6 * h + k) 0) := fr_.rf.w _ (decide_eq_true ⟨rfl, by omega, by omega⟩)
      obtain ⟨g', e1, e2⟩ := ih fu (c / (mo k + 1)) (wrI g 44 (6 * h + k) 0) (by omega) (by omega) hq (hs.fr f1 (decide_eq_false (by omega)) (decide_eq_false (by omega)) (decide_eq_false (by omega)) (fun _ => decide_eq_false (by omega))) (fun j hj => by rw [rI_wI, if_neg (by omega)]; exact hrj j hj)
      have hk0 : rdI g' 44 (6 * h + k) = nI 0 := by
        rw [e1.1 44 _ (decide_eq_false (by omega)), rI_wI, if_pos ⟨rfl, rfl⟩]
        rfl
      have hc1 : c + 1 = (mo k + 1) * (c / (mo k + 1) + 1) := by
        rw [Nat.mul_add, Nat.mul_one]
        omega
      refine ⟨g', f1.tr (e1.le (fun d i w => by
        rw [decide_eq_true_eq] at w
        exact decide_eq_true (by omega))), ?_⟩
      rw [if_pos ((nI_leI (by omega) (by omega)).mpr z)]
      rcases e2 with ⟨k1, k2, k3⟩ | ⟨k1, k2, k3⟩
      · refine Or.inl ⟨?_, k2, fun j hj => ?_⟩
        · rw [hc1, pw_, Nat.mul_comm (pw_ mo k)]
          exact Nat.mul_lt_mul_of_pos_left k1 (by omega)
        · rw [rdig]
          by_cases w : j = k
          · rw [if_pos w, w, hk0, hc1, Nat.mul_mod_right]
          · rw [if_neg w, k3 j (by omega), hc1, Nat.mul_div_cancel_left _ (by omega)]
      · refine Or.inr ⟨?_, k2, fun j hj => ?_⟩
        · rw [hc1, k1, pw_, Nat.mul_comm]
        · by_cases w : j = k
          · rw [w]; exact hk0
          · exact k3 j (by omega)
    · refine ⟨wrI g 44 (6 * h + k) (nI (c % (mo k + 1) + 1)), fr_.rf.w _ (decide_eq_true ⟨rfl, by omega, by omega⟩), Or.inl ⟨?_, ?_, fun j hj => ?_⟩⟩
      · rw [pw_, Nat.mul_comm]
        have : (mo k + 1) * (c / (mo k + 1) + 1) ≤ (mo k + 1) * pw_ mo k := Nat.mul_le_mul_left _ hq
        rw [Nat.mul_add, Nat.mul_one] at this
        omega
      · rw [if_neg (fun w => z ((nI_leI (by omega) (by omega)).mp w))]
      · obtain ⟨d1, d2⟩ := div_pk (m := mo k + 1) (q := c / (mo k + 1)) (z := c % (mo k + 1) + 1) (by omega)
        rw [show (mo k + 1) * (c / (mo k + 1)) + (c % (mo k + 1) + 1) = c + 1 by omega] at d1 d2
        rw [rdig, d1, d2]
        by_cases w : j = k
        · rw [if_pos w, w, rI_wI, if_pos ⟨rfl, rfl⟩]
        · rw [if_neg w, rI_wI, if_neg (by omega)]
          exact hrj j (by omega)
theorem ct7 {nb nh hd : Nat} {mo : Nat → Nat} : ∀ (k fu N : Nat) (g : Mm), k ≤ 24 → k < fu → N < pw_ mo nb ^ k → sr_ nb nh hd mo g → (∀ a b, a < k → b < nb → rdI g 44 (6 * a + b) = nI (rdig mo nb (cdg (pw_ mo nb) k N a) b)) →
    ∃ g', fr_ (fun d i => decide (d = 44 ∧ i / 6 < k ∧ i % 6 < nb)) g g' ∧ ((N + 1 < pw_ mo nb ^ k ∧ m_X10_counts_7 fu (ii_ k) g = some (1, g') ∧ ∀ a b, a < k → b < nb → rdI g' 44 (6 * a + b) = nI (rdig mo nb (cdg (pw_ mo nb) k (N + 1) a) b)) ∨
      (N + 1 = pw_ mo nb ^ k ∧ m_X10_counts_7 fu (ii_ k) g = some (0, g'))) := by
  intro k
  induction k with
  | zero =>
    intro fu N g h1 h2 h3 hs hr
    obtain ⟨fu, rfl⟩ : ∃ f, fu = f + 1 := ⟨fu - 1, by omega⟩
    refine ⟨g, fr_.rf, Or.inr ⟨?_, ?_⟩⟩
    · rw [Nat.pow_zero] at h3 ⊢
      omega
    · rw [m_X10_counts_7, if_pos (show ii_ 0 < (0 : Int32) by decide)]
  | succ k ih =>
    intro fu N g h1 h2 h3 hs hr
    obtain ⟨fu, rfl⟩ : ∃ f, fu = f + 1 := ⟨fu - 1, by omega⟩
    obtain ⟨F, eF, hF⟩ := fu_get
    have hpos := pw_pos mo nb
    have a1 := hs.1.1
    have a2 := hs.1.2.1
    have hm := Nat.mod_lt N hpos
    have hdm := Nat.div_add_mod N (pw_ mo nb)
    have hq : N / pw_ mo nb < pw_ mo nb ^ k := Nat.div_lt_of_lt_mul (by rw [Nat.mul_comm]; exact h3)
    obtain ⟨g1, f1, k0⟩ := ct18 (nb := nb) (nh := nh) (hd := hd) (mo := mo) (h := k) (by omega) (m_X10_counts_7 fu) nb F (N % pw_ mo nb) g (Nat.le_refl _) (by omega) hm hs (fun j hj => by rw [hr k j (by omega) hj, cdg, if_pos rfl])
    have f1' : fr_ (fun d i => decide (d = 44 ∧ i / 6 < k + 1 ∧ i % 6 < nb)) g g1 := f1.le (fun d i w => by
      rw [decide_eq_true_eq] at w
      exact decide_eq_true (by omega))
    have hun : m_X10_counts_7 (fu + 1) (ii_ (k + 1)) g = m_X10_counts_18 (m_X10_counts_7 fu) F (nI k) (ii_ nb) g := by
      rw [m_X10_counts_7, if_neg (show ¬ ii_ (k + 1) < (0 : Int32) from fun w => by have := (ii_0 (by omega)).mp w; omega), hs.2.1.1, ii_last a1, eF]
      rfl
    have hrow : ∀ a b, a < k → b < nb → rdI g1 44 (6 * a + b) = nI (rdig mo nb (cdg (pw_ mo nb) k (N / pw_ mo nb) a) b) := fun a b ha hb => by
      rw [f1.1 44 _ (decide_eq_false (by omega)), hr a b (by omega) hb, cdg, if_neg (by omega)]
    rw [hun]
    rcases k0 with ⟨k1, k2, k3⟩ | ⟨k1, k2, k3⟩
    · obtain ⟨d1, d2⟩ := div_pk (m := pw_ mo nb) (q := N / pw_ mo nb) (z := N % pw_ mo nb + 1) k1
      rw [show pw_ mo nb * (N / pw_ mo nb) + (N % pw_ mo nb + 1) = N + 1 by omega] at d1 d2
      refine ⟨g1, f1', Or.inl ⟨?_, k2, fun a b ha hb => ?_⟩⟩
      · rw [Nat.pow_succ, Nat.mul_comm]
        have : pw_ mo nb * (N / pw_ mo nb + 1) ≤ pw_ mo nb * pw_ mo nb ^ k := Nat.mul_le_mul_left _ hq
        rw [Nat.mul_add, Nat.mul_one] at this
        omega
      · rw [cdg, d1, d2]
        by_cases w : a = k
        · rw [if_pos w, w]
          exact k3 b hb
        · rw [if_neg w]
          exact hrow a b (by omega) hb
    · have hc1 : N + 1 = pw_ mo nb * (N / pw_ mo nb + 1) := by
        rw [Nat.mul_add, Nat.mul_one]
        omega
      have hs1 := hs.fr f1 (decide_eq_false (by omega)) (decide_eq_false (by omega)) (decide_eq_false (by omega)) (fun _ => decide_eq_false (by omega))
      obtain ⟨g', f2, k4⟩ := ih fu (N / pw_ mo nb) g1 (by omega) (by omega) hq hs1 hrow
      refine ⟨g', f1'.tr (f2.le (fun d i w => by
        rw [decide_eq_true_eq] at w
        exact decide_eq_true (by omega))), ?_⟩
      rw [k2]
      rcases k4 with ⟨l1, l2, l3⟩ | ⟨l1, l2⟩
      · refine Or.inl ⟨?_, l2, fun a b ha hb => ?_⟩
        · rw [hc1, Nat.pow_succ, Nat.mul_comm (pw_ mo nb ^ k)]
          exact Nat.mul_lt_mul_of_pos_left l1 hpos
        · rw [cdg, hc1, Nat.mul_mod_right, Nat.mul_div_cancel_left _ hpos]
          by_cases w : a = k
          · rw [if_pos w, w, f2.1 44 _ (decide_eq_false (by omega)), k3 b hb, rdig_0]
          · rw [if_neg w]
            exact l3 a b (by omega) hb
      · exact Or.inr ⟨by rw [hc1, l1, Nat.pow_succ, Nat.mul_comm], l2⟩
