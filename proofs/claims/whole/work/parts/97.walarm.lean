/-! rows by their numbers -/
def rdig (mo : Nat → Nat) : Nat → Nat → Nat → Nat
  | 0, _, _ => 0
  | k + 1, c, j => if j = k then c % (mo k + 1) else rdig mo k (c / (mo k + 1)) j
def pw_ (mo : Nat → Nat) : Nat → Nat
  | 0 => 1
  | k + 1 => pw_ mo k * (mo k + 1)
theorem pw_pos (mo : Nat → Nat) (n : Nat) : 0 < pw_ mo n := by
  induction n with
  | zero => exact Nat.one_pos
  | succ n ih => exact Nat.mul_pos ih (Nat.succ_pos _)
theorem pw_le {mo : Nat → Nat} {M : Nat} : ∀ n, (∀ b, b < n → mo b ≤ M) → pw_ mo n ≤ (M + 1) ^ n := by
  intro n
  induction n with
  | zero => intro _; exact Nat.le_refl _
  | succ n ih =>
    intro h
    rw [pw_, Nat.pow_succ]
    exact Nat.mul_le_mul (ih (fun b hb => h b (by omega))) (Nat.succ_le_succ (h n (by omega)))
theorem rdig_le {mo : Nat → Nat} : ∀ k c j, j < k → rdig mo k c j ≤ mo j := by
  intro k
  induction k with
  | zero => intro c j h; omega
  | succ k ih =>
    intro c j h
    rw [rdig]
    by_cases q : j = k
    · rw [if_pos q, q]
      have := Nat.mod_lt c (show 0 < mo k + 1 by omega)
      omega
    · rw [if_neg q]
      exact ih _ j (by omega)
theorem rdig_sum (mo : Nat → Nat) (k c : Nat) : sm (rdig mo (k + 1) c) (k + 1) = c % (mo k + 1) + sm (rdig mo k (c / (mo k + 1))) k := by
  rw [sm, Nat.add_comm]
  congr 1
  · rw [rdig, if_pos rfl]
  · exact sm_congr (fun i hi => by rw [rdig, if_neg (by omega)])
def xd (nb : Nat) (mo : Nat → Nat) (c b : Nat) : Nat := if b < nb then rdig mo nb c b else 0
theorem xd_le (nb : Nat) (mo : Nat → Nat) (c b : Nat) : xd nb mo c b ≤ ga3 nb mo b := by
  unfold xd ga3
  by_cases q : b < nb
  · rw [if_pos q, if_pos q]
    exact rdig_le nb c b q
  · rw [if_neg q, if_neg q]
    exact Nat.le_refl _
theorem xd_sum {nb : Nat} {mo : Nat → Nat} (h1 : 1 ≤ nb) (h3 : nb ≤ 3) (c : Nat) : sm (rdig mo nb c) nb = xd nb mo c 0 + xd nb mo c 1 + xd nb mo c 2 := by
  unfold xd
  rcases (by omega : nb = 1 ∨ nb = 2 ∨ nb = 3) with rfl | rfl | rfl
  · simp [sm]
  · simp [sm]
  · simp [sm]
theorem div_pk {m q z : Nat} (hz : z < m) : (m * q + z) / m = q ∧ (m * q + z) % m = z := by
  refine ⟨?_, ?_⟩
  · rw [Nat.mul_add_div (by omega), Nat.div_eq_of_lt hz, Nat.add_zero]
  · rw [Nat.mul_add_mod, Nat.mod_eq_of_lt hz]
theorem code_ok {nb : Nat} (mo : Nat → Nat) (h1 : 1 ≤ nb) (h3 : nb ≤ 3) : ∃ enc : Nat → Nat → Nat → Nat,
    (∀ x y z, x ≤ ga3 nb mo 0 → y ≤ ga3 nb mo 1 → z ≤ ga3 nb mo 2 → enc x y z < pw_ mo nb ∧ xd nb mo (enc x y z) 0 = x ∧ xd nb mo (enc x y z) 1 = y ∧ xd nb mo (enc x y z) 2 = z) ∧
    ∀ c x y z, c < pw_ mo nb → x ≤ ga3 nb mo 0 → y ≤ ga3 nb mo 1 → z ≤ ga3 nb mo 2 → c ≤ enc x y z → xd nb mo c 0 < x ∨ (xd nb mo c 0 = x ∧ xd nb mo c 1 ≤ y) := by
  rcases (by omega : nb = 1 ∨ nb = 2 ∨ nb = 3) with rfl | rfl | rfl
  · refine ⟨fun x _ _ => x, fun x y z a b c => ?_, fun c x y z hc a b _ hle => ?_⟩
    · have a : x ≤ mo 0 := a
      have b : y ≤ 0 := b
      have c : z ≤ 0 := c
      show x < 1 * (mo 0 + 1) ∧ x % (mo 0 + 1) = x ∧ 0 = y ∧ 0 = z
      rw [Nat.mod_eq_of_lt (by omega)]
      omega
    · have hc : c < 1 * (mo 0 + 1) := hc
      have hle : c ≤ x := hle
      show c % (mo 0 + 1) < x ∨ (c % (mo 0 + 1) = x ∧ 0 ≤ y)
      rw [Nat.mod_eq_of_lt (by omega)]
      omega
  · refine ⟨fun x y _ => (mo 1 + 1) * x + y, fun x y z a b c => ?_, fun c x y z hc a b _ hle => ?_⟩
    · have a : x ≤ mo 0 := a
      have b : y ≤ mo 1 := b
      have c : z ≤ 0 := c
      show (mo 1 + 1) * x + y < 1 * (mo 0 + 1) * (mo 1 + 1) ∧ ((mo 1 + 1) * x + y) / (mo 1 + 1) % (mo 0 + 1) = x ∧ ((mo 1 + 1) * x + y) % (mo 1 + 1) = y ∧ 0 = z
      obtain ⟨d1, d2⟩ := div_pk (m := mo 1 + 1) (q := x) (z := y) (by omega)
      rw [d1, d2, Nat.mod_eq_of_lt (show x < mo 0 + 1 by omega), Nat.one_mul]
      refine ⟨?_, rfl, rfl, by omega⟩
      have : (mo 1 + 1) * x ≤ (mo 1 + 1) * mo 0 := Nat.mul_le_mul_left _ a
      rw [Nat.mul_comm (mo 0 + 1), Nat.mul_add (mo 1 + 1) (mo 0) 1]
      omega
    · have hc : c < 1 * (mo 0 + 1) * (mo 1 + 1) := hc
      have b : y ≤ mo 1 := b
      have hle : c ≤ (mo 1 + 1) * x + y := hle
      show c / (mo 1 + 1) % (mo 0 + 1) < x ∨ (c / (mo 1 + 1) % (mo 0 + 1) = x ∧ c % (mo 1 + 1) ≤ y)
      rw [Nat.one_mul] at hc
      have hq : c / (mo 1 + 1) < mo 0 + 1 := Nat.div_lt_of_lt_mul (by rw [Nat.mul_comm]; exact hc)
      rw [Nat.mod_eq_of_lt hq]
      have h2 := Nat.div_le_div_right (c := mo 1 + 1) hle
      rw [(div_pk (m := mo 1 + 1) (q := x) (z := y) (by omega)).1] at h2
      have h4 := Nat.div_add_mod c (mo 1 + 1)
      by_cases e : c / (mo 1 + 1) = x
      · rw [e] at h4
        omega
      · omega
  · refine ⟨fun x y z => (mo 2 + 1) * ((mo 1 + 1) * x + y) + z, fun x y z a b c => ?_, fun c x y z hc a b d hle => ?_⟩
    · have a : x ≤ mo 0 := a
      have b : y ≤ mo 1 := b
      have c : z ≤ mo 2 := c
      show (mo 2 + 1) * ((mo 1 + 1) * x + y) + z < 1 * (mo 0 + 1) * (mo 1 + 1) * (mo 2 + 1) ∧ ((mo 2 + 1) * ((mo 1 + 1) * x + y) + z) / (mo 2 + 1) / (mo 1 + 1) % (mo 0 + 1) = x ∧ ((mo 2 + 1) * ((mo 1 + 1) * x + y) + z) / (mo 2 + 1) % (mo 1 + 1) = y ∧ ((mo 2 + 1) * ((mo 1 + 1) * x + y) + z) % (mo 2 + 1) = z
      obtain ⟨d1, d2⟩ := div_pk (m := mo 2 + 1) (q := (mo 1 + 1) * x + y) (z := z) (by omega)
      obtain ⟨d3, d4⟩ := div_pk (m := mo 1 + 1) (q := x) (z := y) (by omega)
      rw [d1, d2, d3, d4, Nat.mod_eq_of_lt (show x < mo 0 + 1 by omega), Nat.one_mul]
      refine ⟨?_, rfl, rfl, rfl⟩
      have e1 : (mo 1 + 1) * x ≤ (mo 1 + 1) * mo 0 := Nat.mul_le_mul_left _ a
      have e2 : (mo 1 + 1) * x + y + 1 ≤ (mo 0 + 1) * (mo 1 + 1) := by
        rw [Nat.mul_comm (mo 0 + 1), Nat.mul_add (mo 1 + 1) (mo 0) 1]
        omega
      have e3 : (mo 2 + 1) * ((mo 1 + 1) * x + y + 1) ≤ (mo 2 + 1) * ((mo 0 + 1) * (mo 1 + 1)) := Nat.mul_le_mul_left _ e2
      rw [Nat.mul_add (mo 2 + 1) ((mo 1 + 1) * x + y) 1] at e3
      rw [Nat.mul_comm ((mo 0 + 1) * (mo 1 + 1))]
      omega
    · have hc : c < 1 * (mo 0 + 1) * (mo 1 + 1) * (mo 2 + 1) := hc
      have b : y ≤ mo 1 := b
      have d : z ≤ mo 2 := d
      have hle : c ≤ (mo 2 + 1) * ((mo 1 + 1) * x + y) + z := hle
      show c / (mo 2 + 1) / (mo 1 + 1) % (mo 0 + 1) < x ∨ (c / (mo 2 + 1) / (mo 1 + 1) % (mo 0 + 1) = x ∧ c / (mo 2 + 1) % (mo 1 + 1) ≤ y)
      rw [Nat.one_mul] at hc
      have hq : c / (mo 2 + 1) / (mo 1 + 1) < mo 0 + 1 := by
        refine Nat.div_lt_of_lt_mul ?_
        refine Nat.div_lt_of_lt_mul ?_
        rw [Nat.mul_comm (mo 1 + 1), Nat.mul_comm (mo 2 + 1)]
        exact hc
      rw [Nat.mod_eq_of_lt hq]
      have h2 := Nat.div_le_div_right (c := mo 2 + 1) hle
      rw [(div_pk (m := mo 2 + 1) (q := (mo 1 + 1) * x + y) (z := z) (by omega)).1] at h2
      have h5 := Nat.div_le_div_right (c := mo 1 + 1) h2
      rw [(div_pk (m := mo 1 + 1) (q := x) (z := y) (by omega)).1] at h5
      have h4 := Nat.div_add_mod (c / (mo 2 + 1)) (mo 1 + 1)
      by_cases e : c / (mo 2 + 1) / (mo 1 + 1) = x
      · rw [e] at h4
        omega
      · omega
/-- all that P holds of come at (n, code) or behind -/
def mv_ (nb : Nat) (mo : Nat → Nat) (enc : Nat → Nat → Nat → Nat) (P : Nat → Nat → Nat → Bool) (n c : Nat) : Prop := ∀ x y z, x ≤ ga3 nb mo 0 → y ≤ ga3 nb mo 1 → z ≤ ga3 nb mo 2 → P x y z = true → n < x + y + z ∨ (n = x + y + z ∧ c ≤ enc x y z)
/-! the reference's memory, as searching sees it -/
def sr_ (nb nh hd : Nat) (mo : Nat → Nat) (g : Mm) : Prop := (1 ≤ nb ∧ nb ≤ 3 ∧ nh ≤ 24 ∧ 1 ≤ hd ∧ hd ≤ 6) ∧ (rdI g 40 4 = nI nb ∧ rdI g 40 5 = nI nh ∧ rdI g 40 6 = nI hd) ∧ ∀ b, b < nb → rdI g 41 b = nI (mo b) ∧ mo b ≤ 15
theorem sr_.fr {nb nh hd : Nat} {mo : Nat → Nat} {P : Nat → Nat → Bool} {g g' : Mm} (h : sr_ nb nh hd mo g) (f : fr_ P g g') (h1 : P 40 4 = false) (h2 : P 40 5 = false) (h3 : P 40 6 = false) (h4 : ∀ i, P 41 i = false) : sr_ nb nh hd mo g' := by
  obtain ⟨a, ⟨t1, t2, t3⟩, b⟩ := h
  refine ⟨a, ⟨?_, ?_, ?_⟩, fun c hc => ?_⟩
  · rw [f.1 40 4 h1]; exact t1
  · rw [f.1 40 5 h2]; exact t2
  · rw [f.1 40 6 h3]; exact t3
  · rw [f.1 41 c (h4 c)]; exact b c hc
def c54 (c i : Nat) : Bool := decide (c = 54)
theorem ii_p (k : Nat) : ii_ (k + 1) + (-1 : Int32) = ii_ k := by
  cases k with
  | zero => decide
  | succ k => exact pk_m1 k
theorem ii_last {nb : Nat} (h : 1 ≤ nb) : nI nb - (1 : Int32) = ii_ nb := by
  obtain ⟨k, rfl⟩ : ∃ k, nb = k + 1 := ⟨nb - 1, by omega⟩
  exact nI_pred k
theorem sr_sum {nb nh hd : Nat} {mo : Nat → Nat} {g : Mm} (hs : sr_ nb nh hd mo g) : sm mo nb = ga3 nb mo 0 + ga3 nb mo 1 + ga3 nb mo 2 ∧ sm mo nb ≤ 45 := by
  obtain ⟨⟨a1, a2, -⟩, -, t⟩ := hs
  have h2 : sm mo nb ≤ nb * 15 := sm_le (fun b hb => (t b hb).2)
  refine ⟨?_, by omega⟩
  unfold ga3
  rcases (by omega : nb = 1 ∨ nb = 2 ∨ nb = 3) with rfl | rfl | rfl
  · simp [sm]
  · simp [sm]
  · simp [sm]
theorem most_m {nb nh hd : Nat} {mo : Nat → Nat} {g : Mm} (hs : sr_ nb nh hd mo g) : m_X10_mostStrokes g = some (nI (sm mo nb), g) := by
  obtain ⟨⟨a1, a2, a3, a4, a5⟩, ⟨t1, t2, t3⟩, t4⟩ := hs
  have key : ∀ (fu i : Nat), nb < i + fu → i ≤ nb → m_X10_mostStrokes_4 fu (nI (sm mo i)) (nI i) g = some (nI (sm mo nb), g) := by
    intro fu
    induction fu with
    | zero => intro i h1 h2; omega
    | succ fu ih =>
      intro i h1 h2
      rw [m_X10_mostStrokes_4, t1]
      by_cases q : i = nb
      · subst q
        rw [if_pos (by rw [nI_leI (by omega) (by omega)]; omega)]
      · have e := ih (i + 1) (by omega) (by omega)
        rw [sm] at e
        rw [if_neg (by rw [nI_leI (by omega) (by omega)]; omega), ix_nI (by omega) (by omega), gdd_true, nI_clamp (by omega), (t4 i (by omega)).1, nI_add, nI_1]
        exact e
  obtain ⟨F, eF, hF⟩ := fu_get
  rw [m_X10_mostStrokes, eF]
  exact key F 0 (by omega) (by omega)
theorem pw_sr {nb nh hd : Nat} {mo : Nat → Nat} {g : Mm} (hs : sr_ nb nh hd mo g) {i : Nat} (hi : i ≤ nb) : pw_ mo i ≤ 4096 := by
  have h1 := pw_le (mo := mo) (M := 15) i (fun b hb => (hs.2.2 b (by omega)).2)
  have h2 : (15 + 1) ^ i ≤ (15 + 1) ^ 3 := Nat.pow_le_pow_right (by decide) (by have := hs.1.2.1; omega)
  omega
/-! alarm -/
def alE (K : Int32 → Int32 → Int32 → Int32 → Mm → Option (Int32 × Mm)) (x1 x2 x3 x4 : Int32) (s : Nat) (g : Mm) : Option (Int32 × Mm) := if nI s = x3 then bdd (m_X10_isAlarm g) (fun ra3 ga4 => (if ra3 = (0 : Int32) then K x1 x2 x3 (x4 + (1 : Int32)) ga4 else gdd (ixo x1 6) (some ((rdI ga4 54 x1.toNatClampNeg), ga4)))) else K x1 x2 x3 (x4 + (1 : Int32)) g
theorem al84 {nb nh hd : Nat} {mo : Nat → Nat} (K : Int32 → Int32 → Int32 → Int32 → Mm → Option (Int32 × Mm)) (x1 x2 x3 x4 : Int32) : ∀ (k fu left s : Nat) (g : Mm), k ≤ nb → k < fu → left < 2 ^ 31 → sr_ nb nh hd mo g →
    ∃ g', fr_ c54 g g' ∧ (∀ j, j < k → rdI g' 54 j = nI (rdig mo k left j)) ∧ (∀ j, k ≤ j → rdI g' 54 j = rdI g 54 j) ∧ m_X10_alarm_84 K fu x1 x2 x3 x4 (nI left) (nI s) (ii_ k) g = alE K x1 x2 x3 x4 (s + sm (rdig mo k left) k) g' := by
  intro k
  induction k with
  | zero =>
    intro fu left s g h1 h2 h3 hs
    obtain ⟨fu, rfl⟩ : ∃ f, fu = f + 1 := ⟨fu - 1, by omega⟩
    refine ⟨g, fr_.rf, fun j hj => absurd hj (Nat.not_lt_zero _), fun j _ => rfl, ?_⟩
    rw [m_X10_alarm_84, if_pos (show ii_ 0 < (0 : Int32) by decide)]
    rfl
  | succ k ih =>
    intro fu left s g h1 h2 h3 hs
    obtain ⟨fu, rfl⟩ : ∃ f, fu = f + 1 := ⟨fu - 1, by omega⟩
    have hk := hs.1.2.1
    obtain ⟨m1, m2⟩ := hs.2.2 k (by omega)
    have hm := Nat.mod_lt left (show 0 < mo k + 1 by omega)
    have hdv := Nat.div_le_self left (mo k + 1)
    have f1 : fr_ c54 g (wrI g 54 k (nI (left % (mo k + 1)))) := fr_.rf.w _ rfl
    obtain ⟨g', e1, e2, e3, e4⟩ := ih fu (left / (mo k + 1)) (s + left % (mo k + 1)) _ (by omega) (by omega) (by omega) (hs.fr f1 rfl rfl rfl (fun _ => rfl))
    refine ⟨g', f1.tr e1, fun j hj => ?_, fun j hj => ?_, ?_⟩
    · rw [rdig]
      by_cases q : j = k
      · rw [if_pos q, e3 j (by omega), rI_wI, if_pos ⟨rfl, q⟩]
      · rw [if_neg q, e2 j (by omega)]
    · rw [e3 j (by omega), rI_wI, if_neg (by omega)]
    · have d0 : decide (¬ nI (mo k + 1) = (0 : Int32)) = true := decide_eq_true (fun w => by have := (nI_eq (b := 0) (by omega) (by omega)).mp w; omega)
      have r41 : rdI (wrI g 54 k (nI (left % (mo k + 1)))) 41 k = nI (mo k) := by rw [rI_wI, if_neg (by omega)]; exact m1
      have r54 : rdI (wrI g 54 k (nI (left % (mo k + 1)))) 54 k = nI (left % (mo k + 1)) := by rw [rI_wI, if_pos ⟨rfl, rfl⟩]
      rw [rdig_sum, ← Nat.add_assoc, ← e4, m_X10_alarm_84, if_neg (show ¬ ii_ (k + 1) < (0 : Int32) from fun w => by have := (ii_0 (by omega)).mp w; omega), ii_p, show ii_ (k + 1) = nI k from rfl, ix_nI (by omega) (by omega), gdd_true, nI_clamp (by omega), m1, nI_1, d0, gdd_true, gdd_true, gdd_true, rm_nI h3 (by omega) (by omega), r54]
      dsimp only [lti]
      rw [r41, nI_1, d0, gdd_true, gdd_true, pk_div h3 (by omega) (by omega), nI_add]
theorem isAlarm_m {nb nh hd : Nat} {mo : Nat → Nat} {g : Mm} (hs : sr_ nb nh hd mo g) {T : Nat → Nat → Nat} {e : Nat → Nat} (hT : ∀ h b, h < nh → b < nb → rdI g 44 (6 * h + b) = nI (T h b) ∧ T h b < 1000) (he : ∀ b, b < nb → rdI g 54 b = nI (e b) ∧ e b < 1000) :
    m_X10_isAlarm g = some (bz (alN (fun h => decide (nb - min hd nb + 1 ≤ cnt_ (fun b => decide (¬ e b = T h b)) nb)) nh), g) := by
  obtain ⟨⟨a1, a2, a3, a4, a5⟩, ⟨t1, t2, t3⟩, t4⟩ := id hs
  have inner : ∀ (K : Int32 → Int32 → Mm → Option (Int32 × Mm)) (h : Nat), h < nh → ∀ (fu i : Nat), nb < i + fu → i ≤ nb → m_X10_isAlarm_27 K fu (nI (nb - min hd nb + 1)) (nI h) (nI (cnt_ (fun b => decide (¬ e b = T h b)) i)) (nI i) g = if nb - min hd nb + 1 ≤ cnt_ (fun b => decide (¬ e b = T h b)) nb then K (nI (nb - min hd nb + 1)) (nI (h + 1)) g else some (0, g) := by
    intro K h hh fu
    induction fu with
    | zero => intro i h1 h2; omega
    | succ fu ih =>
      intro i h1 h2
      rw [m_X10_isAlarm_27, t1]
      by_cases q : i = nb
      · subst q
        have hc := cnt_le (fun b => decide (¬ e b = T h b)) i
        rw [if_pos (by rw [nI_leI (by omega) (by omega)]; omega), nI_1]
        by_cases y : i - min hd i + 1 ≤ cnt_ (fun b => decide (¬ e b = T h b)) i
        · rw [if_pos (by rw [nI_leI (by omega) (by omega)]; exact y), if_pos y]
        · rw [if_neg (by rw [nI_leI (by omega) (by omega)]; exact y), if_neg y]
      · have e9 := ih (i + 1) (by omega) (by omega)
        obtain ⟨u1, u2⟩ := he i (by omega)
        obtain ⟨r1, r2⟩ := hT h i hh (by omega)
        have ix : (6 : Int32) * nI h + nI i = nI (6 * h + i) := by rw [show (6 : Int32) = nI 6 from rfl, pk_mul, nI_add]
        rw [if_neg (by rw [nI_leI (by omega) (by omega)]; omega), ix_nI (by omega) (by omega), gdd_true, ix, ix_nI (by omega) (by omega), gdd_true, nI_clamp (n := i) (by omega), nI_clamp (by omega), u1, r1, nI_1, nI_1]
        by_cases z : e i = T h i
        · rw [if_pos (by rw [z]), show nI (cnt_ (fun b => decide (¬ e b = T h b)) i) + (0 : Int32) = nI (cnt_ (fun b => decide (¬ e b = T h b)) i) from nI_add _ 0]
          rw [cnt_, sm, if_neg (show ¬ decide (¬ e i = T h i) = true by rw [decide_eq_false (fun w => w z)]; decide)] at e9
          exact e9
        · rw [if_neg (fun w => by exact z ((nI_eq (by omega) (by omega)).mp w))]
          rw [cnt_, sm, if_pos (decide_eq_true z)] at e9
          exact e9
  have outer : ∀ (fu i : Nat), nh < i + fu → i ≤ nh → alN (fun h => decide (nb - min hd nb + 1 ≤ cnt_ (fun b => decide (¬ e b = T h b)) nb)) i = true → m_X10_isAlarm_14 fu (nI (nb - min hd nb + 1)) (nI i) g = some (bz (alN (fun h => decide (nb - min hd nb + 1 ≤ cnt_ (fun b => decide (¬ e b = T h b)) nb)) nh), g) := by
    intro fu
    induction fu with
    | zero => intro i h1 h2; omega
    | succ fu ih =>
      intro i h1 h2 h3
      rw [m_X10_isAlarm_14, t2]
      by_cases q : i = nh
      · subst q
        rw [if_pos (by rw [nI_leI (by omega) (by omega)]; omega), h3]
        rfl
      · obtain ⟨F, eF, hF⟩ := fu_get
        have e9 := ih (i + 1) (by omega) (by omega)
        rw [alN, h3, Bool.true_and] at e9
        rw [if_neg (by rw [nI_leI (by omega) (by omega)]; omega), eF]
        rw [show m_X10_isAlarm_27 (m_X10_isAlarm_14 fu) F (nI (nb - min hd nb + 1)) (nI i) 0 0 g = _ from inner (m_X10_isAlarm_14 fu) i (by omega) F 0 (by omega) (by omega)]
        by_cases y : nb - min hd nb + 1 ≤ cnt_ (fun b => decide (¬ e b = T i b)) nb
        · rw [if_pos y]
          exact e9 (decide_eq_true y)
        · rw [if_neg y, alN_no (p := fun h => decide (nb - min hd nb + 1 ≤ cnt_ (fun b => decide (¬ e b = T h b)) nb)) (i := i) (by omega) (decide_eq_false y)]
          rfl
  obtain ⟨F, eF, hF⟩ := fu_get
  rw [m_X10_isAlarm, heard_m t1 t3 (by omega) a5, bdd_some, t1, pk_sub (Nat.min_le_right _ _), nI_1, eF]
  exact outer F 0 (by omega) (by omega) rfl
theorem told_all {nb nh w : Nat} {R : Nat → Nat → Nat} {r : Nat → Nat} : told_ nb nh w R r (2 ^ nh - 1) = alN (fun h => decide (w ≤ cnt_ (fun b => decide (¬ r b = R h b)) nb)) nh := by
  refine alN_congr (fun h hh => ?_)
  rw [Nat.testBit_two_pow_sub_one, decide_eq_true hh]
  have : cnt_ (fun b => decide (¬ R h b = r b)) nb = cnt_ (fun b => decide (¬ r b = R h b)) nb := cnt_congr (fun b _ => by
    rw [Bool.eq_iff_iff, decide_eq_true_eq, decide_eq_true_eq]
    exact ⟨fun w z => w z.symm, fun w z => w z.symm⟩)
  rw [this]
  rfl
theorem told_row {nb nh w X : Nat} {R : Nat → Nat → Nat} {r r' : Nat → Nat} (h : ∀ b, b < nb → r b = r' b) : told_ nb nh w R r X = told_ nb nh w R r' X := alN_congr (fun h' _ => by rw [cnt_congr (fun b hb => by rw [h b hb])])
theorem T3_xd {nb : Nat} (mo : Nat → Nat) (h3 : nb ≤ 3) (c b : Nat) (hb : b < nb) : T3 (xd nb mo c 0) (xd nb mo c 1) (xd nb mo c 2) b = rdig mo nb c b := by
  have : xd nb mo c b = rdig mo nb c b := if_pos hb
  rw [← this]
  rcases (by omega : b = 0 ∨ b = 1 ∨ b = 2) with rfl | rfl | rfl <;> rfl
/-- the reference's search for an alarm -/
theorem al63 {nb nh hd : Nat} {mo : Nat → Nat} {T : Nat → Nat → Nat} {enc : Nat → Nat → Nat → Nat} {bell n : Nat} (hbell : bell < nb) (hn : n < 100)
    (hE : (∀ x y z, x ≤ ga3 nb mo 0 → y ≤ ga3 nb mo 1 → z ≤ ga3 nb mo 2 → enc x y z < pw_ mo nb ∧ xd nb mo (enc x y z) 0 = x ∧ xd nb mo (enc x y z) 1 = y ∧ xd nb mo (enc x y z) 2 = z) ∧ ∀ c x y z, c < pw_ mo nb → x ≤ ga3 nb mo 0 → y ≤ ga3 nb mo 1 → z ≤ ga3 nb mo 2 → c ≤ enc x y z → xd nb mo c 0 < x ∨ (xd nb mo c 0 = x ∧ xd nb mo c 1 ≤ y))
    (K : Int32 → Int32 → Int32 → Mm → Option (Int32 × Mm)) : ∀ (fu c : Nat) (g : Mm), pw_ mo nb < c + fu → c ≤ pw_ mo nb → sr_ nb nh hd mo g → (∀ h b, h < nh → b < nb → rdI g 44 (6 * h + b) = nI (T h b) ∧ T h b < 1000) →
    mv_ nb mo enc (fun x y z => told_ nb nh (nb - min hd nb + 1) T (T3 x y z) (2 ^ nh - 1)) n c →
    ∃ g', fr_ c54 g g' ∧ ((∃ x y z, m_X10_alarm_63 K fu (nI bell) (nI (pw_ mo nb)) (nI n) (nI c) g = some (nI (T3 x y z bell), g') ∧ ft_ (ga3 nb mo) (fun x y z => told_ nb nh (nb - min hd nb + 1) T (T3 x y z) (2 ^ nh - 1)) (some (x, y, z))) ∨
      (m_X10_alarm_63 K fu (nI bell) (nI (pw_ mo nb)) (nI n) (nI c) g = K (nI bell) (nI (pw_ mo nb)) (nI (n + 1)) g' ∧ mv_ nb mo enc (fun x y z => told_ nb nh (nb - min hd nb + 1) T (T3 x y z) (2 ^ nh - 1)) (n + 1) 0)) := by
  intro fu
  induction fu with
  | zero => intro c g h1 h2; omega
  | succ fu ih =>
    intro c g h1 h2 hs hT hv
    have hpw := pw_sr hs (Nat.le_refl nb)
    have a1 := hs.1.1
    have a2 := hs.1.2.1
    rw [m_X10_alarm_63]
    by_cases q : c = pw_ mo nb
    · refine ⟨g, fr_.rf, Or.inr ⟨by rw [if_pos (by rw [nI_leI (by omega) (by omega)]; omega), nI_1], fun x y z k1 k2 k3 k4 => ?_⟩⟩
      have h5 := hv x y z k1 k2 k3 k4
      have h6 := (hE.1 x y z k1 k2 k3).1
      omega
    · obtain ⟨F, eF, hF⟩ := fu_get
      obtain ⟨g1, f1, e2, e3, e4⟩ := al84 (m_X10_alarm_63 K fu) (nI bell) (nI (pw_ mo nb)) (nI n) (nI c) nb F c 0 g (Nat.le_refl _) (by omega) (by omega) hs
      have hs1 := hs.fr f1 rfl rfl rfl (fun _ => rfl)
      have hT1 : ∀ h b, h < nh → b < nb → rdI g1 44 (6 * h + b) = nI (T h b) ∧ T h b < 1000 := fun h b k1 k2 => by rw [f1.1 44 _ rfl]; exact hT h b k1 k2
      have he1 : ∀ b, b < nb → rdI g1 54 b = nI (rdig mo nb c b) ∧ rdig mo nb c b < 1000 := fun b hb => ⟨e2 b hb, by have := rdig_le (mo := mo) nb c b hb; have := (hs.2.2 b hb).2; omega⟩
      rw [if_neg (by rw [nI_leI (by omega) (by omega)]; omega), hs.2.1.1, ii_last a1, eF]
      rw [show m_X10_alarm_84 (m_X10_alarm_63 K fu) F (nI bell) (nI (pw_ mo nb)) (nI n) (nI c) (nI c) 0 (ii_ nb) g = _ from e4, alE, isAlarm_m hs1 hT1 he1, Nat.zero_add, xd_sum a1 a2, nI_1]
      have l0 := xd_le nb mo c 0
      have l1 := xd_le nb mo c 1
      have l2 := xd_le nb mo c 2
      have g15 : ∀ b, ga3 nb mo b ≤ 15 := fun b => by
        unfold ga3
        split
        · rename_i hb; exact (hs.2.2 b hb).2
        · omega
      have g0 := g15 0
      have g1' := g15 1
      have g2' := g15 2
      -- the row of this number: what P says of it
      have hP : told_ nb nh (nb - min hd nb + 1) T (T3 (xd nb mo c 0) (xd nb mo c 1) (xd nb mo c 2)) (2 ^ nh - 1) = alN (fun h => decide (nb - min hd nb + 1 ≤ cnt_ (fun b => decide (¬ rdig mo nb c b = T h b)) nb)) nh := by
        rw [told_row (fun b hb => T3_xd mo a2 c b hb), told_all]
      have go : ¬ (xd nb mo c 0 + xd nb mo c 1 + xd nb mo c 2 = n ∧ told_ nb nh (nb - min hd nb + 1) T (T3 (xd nb mo c 0) (xd nb mo c 1) (xd nb mo c 2)) (2 ^ nh - 1) = true) → ∃ g', fr_ c54 g g' ∧ ((∃ x y z, m_X10_alarm_63 K fu (nI bell) (nI (pw_ mo nb)) (nI n) (nI (c + 1)) g1 = some (nI (T3 x y z bell), g') ∧ ft_ (ga3 nb mo) (fun x y z => told_ nb nh (nb - min hd nb + 1) T (T3 x y z) (2 ^ nh - 1)) (some (x, y, z))) ∨
          (m_X10_alarm_63 K fu (nI bell) (nI (pw_ mo nb)) (nI n) (nI (c + 1)) g1 = K (nI bell) (nI (pw_ mo nb)) (nI (n + 1)) g' ∧ mv_ nb mo enc (fun x y z => told_ nb nh (nb - min hd nb + 1) T (T3 x y z) (2 ^ nh - 1)) (n + 1) 0)) := by
        intro hno
        obtain ⟨g', y1, y2⟩ := ih (c + 1) g1 (by omega) (by omega) hs1 hT1 (fun x y z k1 k2 k3 k4 => by
          rcases hv x y z k1 k2 k3 k4 with h5 | ⟨h5, h6⟩
          · exact Or.inl h5
          · refine Or.inr ⟨h5, ?_⟩
            rcases Nat.lt_or_eq_of_le h6 with h7 | h7
            · exact h7
            · exfalso
              obtain ⟨-, e5, e6, e7⟩ := hE.1 x y z k1 k2 k3
              rw [← h7] at e5 e6 e7
              refine hno ⟨by omega, ?_⟩
              rw [e5, e6, e7]
              exact k4)
        exact ⟨g', f1.tr y1, y2⟩
      by_cases z1 : xd nb mo c 0 + xd nb mo c 1 + xd nb mo c 2 = n
      · rw [if_pos (by rw [z1]), bdd_some, ← hP]
        cases z2 : told_ nb nh (nb - min hd nb + 1) T (T3 (xd nb mo c 0) (xd nb mo c 1) (xd nb mo c 2)) (2 ^ nh - 1) with
        | false =>
          rw [if_pos (show bz false = 0 from rfl)]
          exact go (fun w => by rw [z2] at w; cases w.2)
        | true =>
          refine ⟨g1, f1, Or.inl ⟨_, _, _, ?_, ⟨⟨l0, l1, l2, z2⟩, fun x y z k1 k2 k3 k4 => ?_⟩⟩⟩
          · rw [if_neg (show ¬ bz true = 0 by decide), ix_nI (by omega) (by omega), gdd_true, nI_clamp (by omega), (he1 bell hbell).1, T3_xd mo a2 c bell hbell]
          · rcases hv x y z k1 k2 k3 k4 with h5 | ⟨h5, h6⟩
            · exact Or.inl (by omega)
            · exact Or.inr ⟨by omega, hE.2 c x y z (by omega) k1 k2 k3 h6⟩
      · rw [if_neg (fun w => by exact z1 ((nI_eq (by omega) (by omega)).mp w))]
        exact go (fun w => z1 w.1)
def ob_ (bell : Nat) : Option (Nat × Nat × Nat) → Int32
  | none => -2
  | some (x, y, z) => nI (T3 x y z bell)
theorem al52 {nb nh hd : Nat} {mo : Nat → Nat} {T : Nat → Nat → Nat} {enc : Nat → Nat → Nat → Nat} {bell : Nat} (hbell : bell < nb)
    (hE : (∀ x y z, x ≤ ga3 nb mo 0 → y ≤ ga3 nb mo 1 → z ≤ ga3 nb mo 2 → enc x y z < pw_ mo nb ∧ xd nb mo (enc x y z) 0 = x ∧ xd nb mo (enc x y z) 1 = y ∧ xd nb mo (enc x y z) 2 = z) ∧ ∀ c x y z, c < pw_ mo nb → x ≤ ga3 nb mo 0 → y ≤ ga3 nb mo 1 → z ≤ ga3 nb mo 2 → c ≤ enc x y z → xd nb mo c 0 < x ∨ (xd nb mo c 0 = x ∧ xd nb mo c 1 ≤ y)) : ∀ (fu n : Nat) (g : Mm), sm mo nb + 1 < n + fu → n ≤ sm mo nb + 1 → sr_ nb nh hd mo g → (∀ h b, h < nh → b < nb → rdI g 44 (6 * h + b) = nI (T h b) ∧ T h b < 1000) →
    mv_ nb mo enc (fun x y z => told_ nb nh (nb - min hd nb + 1) T (T3 x y z) (2 ^ nh - 1)) n 0 →
    ∃ o g', fr_ c54 g g' ∧ m_X10_alarm_52 fu (nI bell) (nI (pw_ mo nb)) (nI n) g = some (ob_ bell o, g') ∧ ft_ (ga3 nb mo) (fun x y z => told_ nb nh (nb - min hd nb + 1) T (T3 x y z) (2 ^ nh - 1)) o := by
  intro fu
  induction fu with
  | zero => intro n g h1 h2; omega
  | succ fu ih =>
    intro n g h1 h2 hs hT hv
    obtain ⟨s1, s2⟩ := sr_sum hs
    have hpw := pw_sr hs (Nat.le_refl nb)
    rw [m_X10_alarm_52, most_m hs, bdd_some]
    by_cases q : n = sm mo nb + 1
    · refine ⟨none, g, fr_.rf, by rw [if_pos (by rw [nI_ltI (by omega) (by omega)]; omega)]; rfl, fun x y z k1 k2 k3 => ?_⟩
      cases w : told_ nb nh (nb - min hd nb + 1) T (T3 x y z) (2 ^ nh - 1) with
      | false => exact w
      | true =>
        have := hv x y z k1 k2 k3 w
        omega
    · obtain ⟨F, eF, hF⟩ := fu_get
      rw [if_neg (by rw [nI_ltI (by omega) (by omega)]; omega), eF]
      obtain ⟨g1, f1, k⟩ := al63 (nh := nh) (hd := hd) (T := T) hbell (show n < 100 by omega) hE (m_X10_alarm_52 fu) F 0 g (by omega) (Nat.zero_le _) hs hT hv
      rcases k with ⟨x, y, z, k1, k2⟩ | ⟨k1, k2⟩
      · exact ⟨some (x, y, z), g1, f1, k1, k2⟩
      · obtain ⟨o, g', f2, k3⟩ := ih (n + 1) g1 (by omega) (by omega) (hs.fr f1 rfl rfl rfl (fun _ => rfl)) (fun h b y1 y2 => by rw [f1.1 44 _ rfl]; exact hT h b y1 y2) k2
        refine ⟨o, g', f1.tr f2, ?_⟩
        rw [show m_X10_alarm_63 (m_X10_alarm_52 fu) F (nI bell) (nI (pw_ mo nb)) (nI n) 0 g = m_X10_alarm_52 fu (nI bell) (nI (pw_ mo nb)) (nI (n + 1)) g1 from k1]
        exact k3
theorem fr_sc {P : Nat → Nat → Bool} {g g' : Mm} (h : fr_ P g g') (hP : ∀ c i, P c i = true → scr c i = true) : sc_ g g' := ⟨(h.le hP).1, h.2⟩
theorem op_alarm (a0 : Int32) {g : Mm} (hg : gv_ g) : al_ (m_X9_alarm a0) (m_X10_alarm a0) g := by
  have hg0 := hg
  obtain ⟨nb, nh, hd, cd, ck, tl, rt, nn, na, ra, f, hT, hX, hC, hP, hL, hE, hA, hS⟩ := hg
  obtain ⟨⟨b1, b2, b3, b4, b5⟩, ⟨t1, t2, t3, t4, t5, t6⟩, t7, t8, t9, t10⟩ := id hT
  have xm : ∀ g1, rdI g1 40 4 = nI nb → m_X10_alarm a0 g1 = if lt_n a0 nb = false then some (-1, g1) else if nb ≤ 3 then m_X10_alarm_25 fuL a0 1 0 g1 else some (-5, g1) := by
    intro g1 u
    rw [m_X10_alarm, m10_isBell u (by omega), bdd_some, u]
    cases lt_n a0 nb
    · rw [if_pos (show bz false = 0 from rfl), if_pos rfl]
    · rw [if_neg (show ¬ bz true = 0 by decide), if_neg (show ¬ (true = false) by decide)]
      by_cases q : nb ≤ 3
      · rw [if_pos (show nI nb ≤ (3 : Int32) from (nI_leI (b := 3) (by omega) (by omega)).mpr q), if_pos q]
      · rw [if_neg (show ¬ nI nb ≤ (3 : Int32) from fun w => q ((nI_leI (b := 3) (by omega) (by omega)).mp w)), if_neg q]
  cases hb : lt_n a0 nb with
  | false =>
    refine al_.same (r := -1) hg0 ?_ ?_
    · rw [m_X9_alarm, m8_hasBell t1 (by omega), hb, bdd_some, if_pos (show bz false = 0 from rfl)]
    · rw [xm g t4, hb, if_pos rfl]
  | true =>
    obtain ⟨bell, hbell, rfl⟩ := lt_nI hb (by omega)
    have nb1 : 1 ≤ nb := by omega
    by_cases n3 : nb ≤ 3
    · have mo2 : ∀ b, b < nb → rdI g 2 b = nI (rdI g 2 b).toNatClampNeg ∧ rdI g 41 b = nI (rdI g 2 b).toNatClampNeg ∧ (rdI g 2 b).toNatClampNeg ≤ 15 := fun b hb => by
        obtain ⟨⟨k, k1, k2, e⟩, -⟩ := t8 b hb
        rw [(t7 b (by omega)).1, e, nI_clamp (by omega)]
        exact ⟨rfl, rfl, k2⟩
      have hsb : sb_ nb nh hd (fun b => (rdI g 2 b).toNatClampNeg) g := ⟨⟨nb1, n3, b3, b4, b5⟩, ⟨t1, t2, t3⟩, fun b hb => ⟨(mo2 b hb).1, (mo2 b hb).2.2⟩⟩
      have hR : ∀ h b, h < nh → (2 ^ nh - 1).testBit h = true → b < nb → rdI g 5 (6 * h + b) = nI (tv g h b) ∧ tv g h b < 1000 := fun h b k1 _ k3 => by
        obtain ⟨e1, -, e3⟩ := tv_get hT (show h < 24 by omega) (show b < 6 by omega)
        exact ⟨e1, by omega⟩
      have h24 : 2 ^ nh ≤ 2 ^ 24 := Nat.pow_le_pow_right (by decide) b3
      have hp := Nat.two_pow_pos nh
      obtain ⟨o, g1, f1, e1, e2, e3⟩ := first_c (X := 2 ^ nh - 1) (by omega) (show 5 ≠ 26 by decide) hsb hR
      have sc1 : sc_ g g1 := fr_sc f1 (fun c i h => by
        unfold c26 at h
        rw [decide_eq_true_eq] at h
        subst h
        rfl)
      obtain ⟨enc, hE⟩ := code_ok (fun b => (rdI g 2 b).toNatClampNeg) nb1 n3
      have hsr : sr_ nb nh hd (fun b => (rdI g 2 b).toNatClampNeg) g1 := by
        refine ⟨⟨nb1, n3, b3, b4, b5⟩, ⟨?_, ?_, ?_⟩, fun b hb => ⟨?_, (mo2 b hb).2.2⟩⟩
        · rw [f1.1 40 4 rfl]; exact t4
        · rw [f1.1 40 5 rfl]; exact t5
        · rw [f1.1 40 6 rfl]; exact t6
        · rw [f1.1 41 b rfl]; exact (mo2 b hb).2.1
      have hTm : ∀ h b, h < nh → b < nb → rdI g1 44 (6 * h + b) = nI (tv g h b) ∧ tv g h b < 1000 := fun h b k1 k3 => by
        obtain ⟨-, e1, e3⟩ := tv_get hT (show h < 24 by omega) (show b < 6 by omega)
        rw [f1.1 44 _ rfl]
        exact ⟨e1, by omega⟩
      obtain ⟨F, eF, hF⟩ := fu_get
      obtain ⟨o', g2, f2, e4, e5⟩ := al52 (nh := nh) (hd := hd) (T := tv g) hbell hE F 0 g1 (by have := (sr_sum hsr).2; omega) (Nat.zero_le _) hsr hTm (fun x y z _ _ _ _ => by omega)
      have eo := ft_uniq e2 e5
      subst eo
      have sc2 : sc_ g1 g2 := fr_sc f2 (fun c i h => by
        unfold c54 at h
        rw [decide_eq_true_eq] at h
        subst h
        rfl)
      have x25 : m_X10_alarm_25 fuL (nI bell) 1 0 g1 = m_X10_alarm_52 fuL (nI bell) (nI (pw_ (fun b => (rdI g 2 b).toNatClampNeg) nb)) 0 g1 := by
        have key : ∀ (fu i : Nat), nb < i + fu → i ≤ nb → m_X10_alarm_25 fu (nI bell) (nI (pw_ (fun b => (rdI g 2 b).toNatClampNeg) i)) (nI i) g1 = m_X10_alarm_52 fuL (nI bell) (nI (pw_ (fun b => (rdI g 2 b).toNatClampNeg) nb)) 0 g1 := by
          intro fu
          induction fu with
          | zero => intro i h1 h2; omega
          | succ fu ih =>
            intro i h1 h2
            rw [m_X10_alarm_25, hsr.2.1.1]
            by_cases q : i = nb
            · subst q
              rw [if_pos (by rw [nI_leI (by omega) (by omega)]; omega)]
            · have e := ih (i + 1) (by omega) (by omega)
              rw [pw_] at e
              rw [if_neg (by rw [nI_leI (by omega) (by omega)]; omega), ix_nI (by omega) (by omega), gdd_true, nI_clamp (by omega), (hsr.2.2 i (by omega)).1, nI_1, pk_mul, nI_1]
              exact e
        rw [eF]
        exact (key F 0 (by omega) (by omega)).trans (by rw [eF])
      refine ⟨ob_ bell o, g1, g2, ?_, ?_, (sc1.tr sc2).gv hg0⟩
      · rw [m_X9_alarm, m8_hasBell t1 (by omega), hb, bdd_some, if_neg (show ¬ bz true = 0 by decide), m_X5_mayTryAllRows, t1, if_neg (show ¬ nI nb < (1 : Int32) from fun w => by have := (nI_ltI (b := 1) (by omega) (by omega)).mp w; omega), if_neg (show ¬ (3 : Int32) < nI nb from fun w => by have := (nI_ltI (a := 3) (by omega) (by omega)).mp w; omega), bdd_some, if_neg (by decide), m_X5_firstAlarm, t2, shl_1 (by omega), show nI (2 ^ nh) - (1 : Int32) = nI (2 ^ nh - 1) from pk_sub (b := 1) hp, e1, bdd_some, zb_bz, gdd_true, bdd_some]
        clear e1 e2 e4 e5
        match o, e3 with
        | none, _ => rfl
        | some (x, y, z), ⟨k1, k2, k3⟩ =>
          rw [if_neg (show ¬ bz (some (x, y, z)).isSome = 0 from (by decide : ¬ bz true = 0)), ix_nI (by omega) (by omega), gdd_true, nI_clamp (by omega)]
          rcases (by omega : bell = 0 ∨ bell = 1 ∨ bell = 2) with rfl | rfl | rfl
          · rw [k1]; rfl
          · rw [k2]; rfl
          · rw [k3]; rfl
      · rw [xm g1 hsr.2.1.1, hb, if_neg (show ¬ (true = false) by decide), if_pos n3, x25, eF]
        exact e4
    · refine al_.same (r := -5) hg0 ?_ ?_
      · rw [m_X9_alarm, m8_hasBell t1 (by omega), hb, bdd_some, if_neg (show ¬ bz true = 0 by decide), m_X5_mayTryAllRows, t1, if_neg (show ¬ nI nb < (1 : Int32) from fun w => by have := (nI_ltI (b := 1) (by omega) (by omega)).mp w; omega), if_pos (show (3 : Int32) < nI nb from (nI_ltI (a := 3) (by omega) (by omega)).mpr (by omega)), bdd_some, if_pos rfl]
      · rw [xm g t4, hb, if_neg (show ¬ (true = false) by decide), if_neg n3]
