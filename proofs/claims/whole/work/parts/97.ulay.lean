/-! lay: the table as the law gives it -/
def cl_ (m : Nat) (r : Int32) : Nat := if r.toInt < 0 then 0 else min r.toInt.toNat m
theorem cl_le (m : Nat) (r : Int32) : cl_ m r ≤ m := by
  unfold cl_
  split
  · exact Nat.zero_le _
  · exact Nat.min_le_right _ _
theorem cl_neg {m : Nat} {r : Int32} (h : r.toInt < 0) : cl_ m r = 0 := if_pos h
theorem cl_nI {m k : Nat} (hk : k < 2 ^ 31) : cl_ m (nI k) = min k m := by
  rw [cl_, nI_toInt hk, if_neg (by omega)]
  rfl
theorem cl_c {m : Nat} (hm : m ≤ 15) (r : Int32) (g : Mm) : ∃ x, m_J9_min_7cf53 (nI m) r g = some (x, g) ∧ m_J9_max_7cf53 0 x g = some (nI (cl_ m r), g) := by
  rcases i_cases r with h | ⟨k, hk, rfl⟩
  · refine ⟨r, ?_, ?_⟩
    · rw [m_J9_min_7cf53, if_pos (neg_lt h (by omega))]
    · rw [m_J9_max_7cf53, if_neg (fun w => by
        rw [fa_lt, show (0 : Int32).toInt = 0 from rfl] at w
        omega), cl_neg h]
      rfl
  · refine ⟨nI (min m k), min_nI (by omega) hk g, ?_⟩
    rw [cl_nI hk]
    rw [show m_J9_max_7cf53 0 (nI (min m k)) g = some (nI (max 0 (min m k)), g) from max_nI (a := 0) (by omega) (by omega) g, Nat.zero_max, Nat.min_comm]
theorem cl_m {m : Nat} (hm : m ≤ 15) (r : Int32) (g : Mm) : m_X10_within r 0 (nI m) g = some (nI (cl_ m r), g) := by
  rw [m_X10_within]
  rcases i_cases r with h | ⟨k, hk, rfl⟩
  · rw [if_neg (fun w => by
      rw [fa_le, show (0 : Int32).toInt = 0 from rfl] at w
      omega), cl_neg h]
    rfl
  · rw [if_pos (nI_pos' hk), cl_nI hk]
    by_cases q : k ≤ m
    · rw [if_pos (by rw [nI_leI hk (by omega)]; exact q), Nat.min_eq_left q]
    · rw [if_neg (by rw [nI_leI hk (by omega)]; exact q), Nat.min_eq_right (by omega)]
def ut (T : Nat → Nat → Nat) (h b v : Nat) (i j : Nat) : Nat := if i = h ∧ j = b then v else T i j
def lrow (V : (Nat → Nat → Nat) → Nat → Nat → Nat) (h : Nat) : Nat → Nat → (Nat → Nat → Nat) → Nat → Nat → Nat
  | 0, _, T => T
  | n + 1, b, T => lrow V h n (b + 1) (ut T h b (V T h b))
def lall (V : (Nat → Nat → Nat) → Nat → Nat → Nat) (nb : Nat) : Nat → Nat → (Nat → Nat → Nat) → Nat → Nat → Nat
  | 0, _, T => T
  | n + 1, h, T => lall V nb n (h + 1) (lrow V h nb 0 T)
/-- a table of strokes; what lies outside the bells and hours stays -/
def tk (nb nh : Nat) (T0 T : Nat → Nat → Nat) : Prop := (∀ i j, T i j ≤ 15 ∨ T i j = T0 i j) ∧ ∀ i j, ¬ (i < nh ∧ j < nb) → T i j = T0 i j
theorem tk_ut {nb nh h b v : Nat} {T0 T : Nat → Nat → Nat} (k : tk nb nh T0 T) (hh : h < nh) (hb : b < nb) (hv : v ≤ 15) : tk nb nh T0 (ut T h b v) := by
  refine ⟨fun i j => ?_, fun i j q => ?_⟩
  · by_cases z : i = h ∧ j = b
    · rw [ut, if_pos z]
      exact Or.inl hv
    · rw [ut, if_neg z]
      exact k.1 i j
  · rw [ut, if_neg (fun w => q ⟨by omega, by omega⟩)]
    exact k.2 i j q
theorem tk.row {nb nh h : Nat} {T0 : Nat → Nat → Nat} {V : (Nat → Nat → Nat) → Nat → Nat → Nat} (hV : ∀ T b, b < nb → V T h b ≤ 15) (hh : h < nh) : ∀ (n b : Nat) (T : Nat → Nat → Nat), b + n ≤ nb → tk nb nh T0 T → tk nb nh T0 (lrow V h n b T) := by
  intro n
  induction n with
  | zero => intro b T _ k; exact k
  | succ n ih => intro b T hb k; exact ih (b + 1) _ (by omega) (tk_ut k hh (by omega) (hV T b (by omega)))
theorem tk.all {nb nh : Nat} {T0 : Nat → Nat → Nat} {V : (Nat → Nat → Nat) → Nat → Nat → Nat} (hV : ∀ T h b, b < nb → V T h b ≤ 15) : ∀ (n h : Nat) (T : Nat → Nat → Nat), h + n ≤ nh → tk nb nh T0 T → tk nb nh T0 (lall V nb n h T) := by
  intro n
  induction n with
  | zero => intro h T _ k; exact k
  | succ n ih => intro h T hh k; exact ih (h + 1) _ (by omega) (tk.row (fun T b => hV T h b) (by omega) nb 0 T (by omega) k)
def nm6 (a b c d e f : Nat) (j : Nat) : Int32 := if j = 0 then nI a else if j = 1 then nI b else if j = 2 then nI c else if j = 3 then nI d else if j = 4 then nI e else if j = 5 then nI f else 0
theorem tr6_eq {N : Nat → Int32} {a b c d e f : Nat} (h0 : N 0 = nI a) (h1 : N 1 = nI b) (h2 : N 2 = nI c) (h3 : N 3 = nI d) (h4 : N 4 = nI e) (h5 : N 5 = nI f) : tr6 N = nm6 a b c d e f := by
  funext j
  unfold tr6 nm6
  by_cases q0 : j = 0
  · rw [if_pos (by omega), if_pos q0, q0, h0]
  by_cases q1 : j = 1
  · rw [if_pos (by omega), if_neg q0, if_pos q1, q1, h1]
  by_cases q2 : j = 2
  · rw [if_pos (by omega), if_neg q0, if_neg q1, if_pos q2, q2, h2]
  by_cases q3 : j = 3
  · rw [if_pos (by omega), if_neg q0, if_neg q1, if_neg q2, if_pos q3, q3, h3]
  by_cases q4 : j = 4
  · rw [if_pos (by omega), if_neg q0, if_neg q1, if_neg q2, if_neg q3, if_pos q4, q4, h4]
  by_cases q5 : j = 5
  · rw [if_pos (by omega), if_neg q0, if_neg q1, if_neg q2, if_neg q3, if_neg q4, if_pos q5, q5, h5]
  rw [if_neg (by omega), if_neg q0, if_neg q1, if_neg q2, if_neg q3, if_neg q4, if_neg q5]
/-- what a cell gets -/
def lvv (off : Bool) (res : (Nat → Int32) → Int32) (mo : Nat → Nat) (nh : Nat) (T : Nat → Nat → Nat) (h b : Nat) : Nat := if off = true then (h + b) % (mo b + 1) else cl_ (mo b) (res (nm6 h b (mo b) nh (if b = 0 then 0 else T h (b - 1)) (if h = 0 then 0 else T (h - 1) b)))
theorem lvv_le {off : Bool} {res : (Nat → Int32) → Int32} {mo : Nat → Nat} {nh : Nat} {T : Nat → Nat → Nat} {h b : Nat} (hm : mo b ≤ 15) : lvv off res mo nh T h b ≤ mo b := by
  unfold lvv
  split
  · have := Nat.mod_lt (h + b) (show 0 < mo b + 1 by omega)
    omega
  · exact cl_le _ _
/-! the class -/
def vc (g0 : Mm) (f : Int32) (T : Nat → Nat → Nat) (g : Mm) : Prop := (∀ c i, c ≠ 5 → c ≠ pgm f + 3 → c ≠ pgm f + 4 → rdI g c i = rdI g0 c i) ∧ g.2 = g0.2 ∧ ∀ h b, h < 24 → b < 6 → rdI g 5 (6 * h + b) = nI (T h b)
/-- what holds of the memory that laying begins with -/
def sc0 (nb nh : Nat) (f : Int32) (off : Bool) (res : (Nat → Int32) → Int32) (mo : Nat → Nat) (g : Mm) : Prop :=
  (nb ≤ 6 ∧ nh ≤ 24) ∧ (rdI g 1 0 = nI nb ∧ rdI g 1 1 = nI nh ∧ rdI g 11 3 = f) ∧ (∀ b, b < nb → rdI g 2 b = nI (mo b) ∧ mo b ≤ 15) ∧
  ((off = true ∧ rdI g (pgm f) 4 = 0) ∨ (off = false ∧ (∃ n, 1 ≤ n ∧ n ≤ 121 ∧ rdI g (pgm f) 4 = nI n) ∧ ∀ g' : Mm, (∀ c i, pl_l f c i = true → rdI g' c i = rdI g c i) → ∃ ga : Mm, m_X4_work f g' = some (res (tr6 (fun j => rdI g' (pgm f + 4) j)), ga) ∧ (∀ c i, c ≠ pgm f + 3 → rdI ga c i = rdI g' c i) ∧ ga.2 = g'.2))
theorem pl_vc {f : Int32} {c i : Nat} (h : pl_l f c i = true) : c ≠ 5 ∧ c ≠ pgm f + 3 ∧ c ≠ pgm f + 4 := by
  have := pgm_01 f
  simp only [pl_l, Bool.or_eq_true, Bool.and_eq_true, beq_iff_eq] at h
  omega
theorem given_c {nb nh : Nat} {f : Int32} {off : Bool} {res : (Nat → Int32) → Int32} {mo : Nat → Nat} {g0 g : Mm} {T : Nat → Nat → Nat} (hs : sc0 nb nh f off res mo g0) (hv : vc g0 f T g) {h b : Nat} (hh : h < nh) (hb : b < nb) :
    ∃ r g', m_X9_givenByLaw (nI h) (nI b) g = some (r, g') ∧ vc g0 f T g' ∧ cl_ (mo b) r = lvv off res mo nh T h b := by
  obtain ⟨⟨b1, b3⟩, ⟨t1, t2, t3⟩, t4, t5⟩ := hs
  obtain ⟨v1, v2, v3⟩ := hv
  obtain ⟨m1, m2⟩ := t4 b hb
  have hf := pgm_01 f
  have s2 : rdI g 2 b = nI (mo b) := by rw [v1 2 b (by omega) (by omega) (by omega)]; exact m1
  have s3 : rdI g 11 3 = f := by rw [v1 11 3 (by omega) (by omega) (by omega)]; exact t3
  have s1 : rdI g 1 1 = nI nh := by rw [v1 1 1 (by omega) (by omega) (by omega)]; exact t2
  have s4 : rdI g (pgm f) 4 = rdI g0 (pgm f) 4 := v1 _ 4 (by omega) (by omega) (by omega)
  rcases t5 with ⟨e1, e2⟩ | ⟨e1, ⟨n, n1, n2, e2⟩, e3⟩
  · refine ⟨nI ((h + b) % (mo b + 1)), g, ?_, ⟨v1, v2, v3⟩, ?_⟩
    · rw [m_X9_givenByLaw, ix_nI (by omega) (by omega), gdd_true, s3, s4, e2, if_pos rfl, nI_clamp (by omega), s2, nI_1, nI_add, decide_eq_true (show ¬ nI (mo b + 1) = (0 : Int32) from fun w => by have := (nI_eq (b := 0) (by omega) (by omega)).mp w; omega), gdd_true, rm_nI (by omega) (by omega) (by omega)]
    · have := Nat.mod_lt (h + b) (show 0 < mo b + 1 by omega)
      rw [cl_nI (by omega), lvv, if_pos e1, Nat.min_eq_left (by omega)]
  · have e4 : ¬ rdI g0 (pgm f) 4 = 0 := fun w => by
      rw [e2] at w
      have := (nI_eq (b := 0) (by omega) (by omega)).mp w
      omega
    -- the names, then the work
    have fin : ∀ p q, ∃ r g', m_X9_givenByLaw_75 (nI h) (nI b) (nI (mo b)) f (nI p) (nI q) g = some (r, g') ∧ vc g0 f T g' ∧ r = res (nm6 h b (mo b) nh p q) := by
      intro p q
      have hN : m_X4_name f (nI h) (nI b) (nI (mo b)) (nI nh) (nI p) (nI q) g = some (0, wrI (wrI (wrI (wrI (wrI (wrI g (pgm f + 4) 0 (nI h)) (pgm f + 4) 1 (nI b)) (pgm f + 4) 2 (nI (mo b))) (pgm f + 4) 3 (nI nh)) (pgm f + 4) 4 (nI p)) (pgm f + 4) 5 (nI q)) := rfl
      have kN : ∀ c i, c ≠ pgm f + 4 → rdI (wrI (wrI (wrI (wrI (wrI (wrI g (pgm f + 4) 0 (nI h)) (pgm f + 4) 1 (nI b)) (pgm f + 4) 2 (nI (mo b))) (pgm f + 4) 3 (nI nh)) (pgm f + 4) 4 (nI p)) (pgm f + 4) 5 (nI q)) c i = rdI g c i := fun c i w => by
        rw [rI_wI, if_neg (fun z => w z.1), rI_wI, if_neg (fun z => w z.1), rI_wI, if_neg (fun z => w z.1), rI_wI, if_neg (fun z => w z.1), rI_wI, if_neg (fun z => w z.1), rI_wI, if_neg (fun z => w z.1)]
      have tN : tr6 (fun j => rdI (wrI (wrI (wrI (wrI (wrI (wrI g (pgm f + 4) 0 (nI h)) (pgm f + 4) 1 (nI b)) (pgm f + 4) 2 (nI (mo b))) (pgm f + 4) 3 (nI nh)) (pgm f + 4) 4 (nI p)) (pgm f + 4) 5 (nI q)) (pgm f + 4) j) = nm6 h b (mo b) nh p q := tr6_eq (by simp [rI_wI]) (by simp [rI_wI]) (by simp [rI_wI]) (by simp [rI_wI]) (by simp [rI_wI]) (by simp [rI_wI])
      have k2N : (wrI (wrI (wrI (wrI (wrI (wrI g (pgm f + 4) 0 (nI h)) (pgm f + 4) 1 (nI b)) (pgm f + 4) 2 (nI (mo b))) (pgm f + 4) 3 (nI nh)) (pgm f + 4) 4 (nI p)) (pgm f + 4) 5 (nI q)).2 = g.2 := rfl
      generalize wrI (wrI (wrI (wrI (wrI (wrI g (pgm f + 4) 0 (nI h)) (pgm f + 4) 1 (nI b)) (pgm f + 4) 2 (nI (mo b))) (pgm f + 4) 3 (nI nh)) (pgm f + 4) 4 (nI p)) (pgm f + 4) 5 (nI q) = gN at hN kN tN k2N
      obtain ⟨ga, w1, w2, w3⟩ := e3 gN (fun c i hc => by
        obtain ⟨q1, q2, q3⟩ := pl_vc hc
        rw [kN c i q3, v1 c i q1 q2 q3])
      rw [tN] at w1
      refine ⟨res (nm6 h b (mo b) nh p q), ga, ?_, ⟨fun c i q1 q2 q3 => by rw [w2 c i q2, kN c i q3, v1 c i q1 q2 q3], (w3.trans k2N).trans v2, fun i j hi hj => by rw [w2 5 _ (by omega), kN 5 _ (by omega)]; exact v3 i j hi hj⟩, rfl⟩
      rw [m_X9_givenByLaw_75, s1, hN, bdd_some, w1, bdd_some]
    have f54 : ∀ p, m_X9_givenByLaw_54 (nI h) (nI b) (nI (mo b)) f (nI p) g = m_X9_givenByLaw_75 (nI h) (nI b) (nI (mo b)) f (nI p) (nI (if h = 0 then 0 else T (h - 1) b)) g := by
      intro p
      rw [m_X9_givenByLaw_54]
      by_cases z : h = 0
      · rw [if_pos z, if_pos (show nI h ≤ (0 : Int32) by rw [z]; decide)]
        rfl
      · rw [if_neg z, if_neg (show ¬ nI h ≤ (0 : Int32) from fun w => by have := (nI_leI (b := 0) (by omega) (by omega)).mp w; omega), show nI h - (1 : Int32) = nI (h - 1) from pk_sub (b := 1) (by omega), m8_struck (by omega) (by omega), bdd_some, v3 (h - 1) b (by omega) (by omega)]
    obtain ⟨r, g', y1, y2, y3⟩ := fin (if b = 0 then 0 else T h (b - 1)) (if h = 0 then 0 else T (h - 1) b)
    refine ⟨r, g', ?_, y2, ?_⟩
    · rw [m_X9_givenByLaw, ix_nI (by omega) (by omega), gdd_true, s3, s4, if_neg e4, nI_clamp (by omega), s2]
      by_cases z : b = 0
      · rw [if_pos (show nI b ≤ (0 : Int32) by rw [z]; decide), show (0 : Int32) = nI 0 from rfl, f54]
        rw [if_pos z] at y1
        exact y1
      · rw [if_neg (show ¬ nI b ≤ (0 : Int32) from fun w => by have := (nI_leI (b := 0) (by omega) (by omega)).mp w; omega), show nI b - (1 : Int32) = nI (b - 1) from pk_sub (b := 1) (by omega), m8_struck (by omega) (by omega), bdd_some, v3 h (b - 1) (by omega) (by omega), f54]
        rw [if_neg z] at y1
        exact y1
    · rw [y3, lvv, if_neg (show ¬ off = true by rw [e1]; decide)]
theorem vc_w {g0 g : Mm} {f : Int32} {T : Nat → Nat → Nat} (hv : vc g0 f T g) {h b : Nat} (hb : b < 6) (v : Nat) : vc g0 f (ut T h b v) (wrI g 5 (6 * h + b) (nI v)) := by
  obtain ⟨v1, v2, v3⟩ := hv
  refine ⟨fun c i q1 q2 q3 => by rw [rI_wI, if_neg (fun w => q1 w.1)]; exact v1 c i q1 q2 q3, v2, fun i j hi hj => ?_⟩
  rw [rI_wI, ut]
  by_cases z : i = h ∧ j = b
  · rw [if_pos z, if_pos (by omega)]
  · rw [if_neg z, if_neg (by omega)]
    exact v3 i j hi hj
theorem lay15 {nb nh : Nat} {f : Int32} {off : Bool} {res : (Nat → Int32) → Int32} {mo : Nat → Nat} {g0 : Mm} (hs : sc0 nb nh f off res mo g0) (K : Int32 → Mm → Option (Int32 × Mm)) {h : Nat} (hh : h < nh) : ∀ (fu b : Nat) (T : Nat → Nat → Nat) (g : Mm), nb < b + fu → b ≤ nb → vc g0 f T g →
    ∃ g', m_X9_lay_15 K fu (nI h) (nI b) g = K (nI (h + 1)) g' ∧ vc g0 f (lrow (lvv off res mo nh) h (nb - b) b T) g' := by
  have b1 := hs.1.1
  have b3 := hs.1.2
  have hf := pgm_01 f
  intro fu
  induction fu with
  | zero => intro b T g h1 h2; omega
  | succ fu ih =>
    intro b T g h1 h2 hv
    have t1 : rdI g 1 0 = nI nb := by rw [hv.1 1 0 (by omega) (by omega) (by omega)]; exact hs.2.1.1
    rw [m_X9_lay_15, t1]
    by_cases q : b = nb
    · subst q
      refine ⟨g, by rw [if_pos (by rw [nI_leI (by omega) (by omega)]; omega), nI_1], ?_⟩
      rw [Nat.sub_self]
      exact hv
    · obtain ⟨r, g1, e1, e2, e3⟩ := given_c hs hv hh (show b < nb by omega)
      have s2 : rdI g1 2 b = nI (mo b) := by rw [e2.1 2 b (by omega) (by omega) (by omega)]; exact (hs.2.2.1 b (by omega)).1
      obtain ⟨x, x1, x2⟩ := cl_c (hs.2.2.1 b (by omega)).2 r g1
      rw [e3] at x2
      obtain ⟨g', f1, f2⟩ := ih (b + 1) _ _ (by omega) (by omega) (vc_w e2 (h := h) (show b < 6 by omega) (lvv off res mo nh T h b))
      refine ⟨g', ?_, ?_⟩
      · rw [if_neg (by rw [nI_leI (by omega) (by omega)]; omega), e1, bdd_some, ix_nI (by omega) (by omega), gdd_true, nI_clamp (by omega), s2, x1, bdd_some, x2, bdd_some, m8_write (by omega) (by omega), bdd_some, nI_1]
        exact f1
      · rw [show nb - b = (nb - (b + 1)) + 1 by omega]
        exact f2
theorem lay2 {nb nh : Nat} {f : Int32} {off : Bool} {res : (Nat → Int32) → Int32} {mo : Nat → Nat} {g0 : Mm} (hs : sc0 nb nh f off res mo g0) : ∀ (fu h : Nat) (T : Nat → Nat → Nat) (g : Mm), nh < h + fu → h ≤ nh → vc g0 f T g →
    ∃ g', m_X9_lay_2 fu (nI h) g = bdd (m_X1_forgetAll g') (fun _ g3 => bdd (m_X8_totalOfAll g3) (fun r g6 => some (r, g6))) ∧ vc g0 f (lall (lvv off res mo nh) nb (nh - h) h T) g' := by
  have b1 := hs.1.1
  have b3 := hs.1.2
  have hf := pgm_01 f
  intro fu
  induction fu with
  | zero => intro h T g h1 h2; omega
  | succ fu ih =>
    intro h T g h1 h2 hv
    have t2 : rdI g 1 1 = nI nh := by rw [hv.1 1 1 (by omega) (by omega) (by omega)]; exact hs.2.1.2.1
    rw [m_X9_lay_2, t2]
    by_cases q : h = nh
    · subst q
      refine ⟨g, by rw [if_pos (by rw [nI_leI (by omega) (by omega)]; omega)], ?_⟩
      rw [Nat.sub_self]
      exact hv
    · obtain ⟨F, eF, hF⟩ := fu_get
      obtain ⟨g1, e1, e2⟩ := lay15 hs (m_X9_lay_2 fu) (show h < nh by omega) F 0 T g (by omega) (Nat.zero_le _) hv
      obtain ⟨g', f1, f2⟩ := ih (h + 1) _ g1 (by omega) (by omega) e2
      refine ⟨g', ?_, ?_⟩
      · rw [if_neg (by rw [nI_leI (by omega) (by omega)]; omega), eF]
        rw [show m_X9_lay_15 (m_X9_lay_2 fu) F (nI h) 0 g = m_X9_lay_2 fu (nI (h + 1)) g1 from e1]
        exact f1
      · rw [show nh - h = (nh - (h + 1)) + 1 by omega]
        exact f2
theorem all_T {nb nh : Nat} {T : Nat → Nat → Nat} {g : Mm} (b1 : nb ≤ 6) (b3 : nh ≤ 24) (t1 : rdI g 1 0 = nI nb) (t2 : rdI g 1 1 = nI nh) (hT : ∀ h b, h < 24 → b < 6 → rdI g 5 (6 * h + b) = nI (T h b)) : m_X8_totalOfAll g = some (nI (sm (fun b => sm (fun h => T h b) nh) nb), g) := by
  have key : ∀ (fu i : Nat), nb < i + fu → i ≤ nb → m_X8_totalOfAll_4 fu (nI (sm (fun b => sm (fun h => T h b) nh) i)) (nI i) g = some (nI (sm (fun b => sm (fun h => T h b) nh) nb), g) := by
    intro fu
    induction fu with
    | zero => intro i h1 h2; omega
    | succ fu ih =>
      intro i h1 h2
      rw [m_X8_totalOfAll_4, t1]
      by_cases q : i = nb
      · subst q
        rw [if_pos (by rw [nI_leI (by omega) (by omega)]; omega)]
      · rw [if_neg (by rw [nI_leI (by omega) (by omega)]; omega), bell_sum (F := fun h => T h i) t2 b3 (show i < 6 by omega) (fun h hh => hT h i (by omega) (by omega)), bdd_some, nI_add, nI_1]
        exact ih (i + 1) (by omega) (by omega)
  obtain ⟨F, eF, hF⟩ := fu_get
  rw [m_X8_totalOfAll, eF]
  exact key F 0 (by omega) (by omega)
/-! the reference -/
def vm (g0 : Mm) (T : Nat → Nat → Nat) (g : Mm) : Prop := (∀ c i, c ≠ 44 → ¬ (c = 40 ∧ 20 ≤ i ∧ i ≤ 28) → rdI g c i = rdI g0 c i) ∧ g.2 = g0.2 ∧ ∀ h b, h < 24 → b < 6 → rdI g 44 (6 * h + b) = nI (T h b)
def sm0 (nb nh : Nat) (f : Int32) (off : Bool) (res : (Nat → Int32) → Int32) (mo : Nat → Nat) (g : Mm) : Prop :=
  (nb ≤ 6 ∧ nh ≤ 24) ∧ (rdI g 40 4 = nI nb ∧ rdI g 40 5 = nI nh ∧ rdI g 40 19 = 0) ∧ (∀ b, b < nb → rdI g 41 b = nI (mo b) ∧ mo b ≤ 15) ∧
  ((off = true ∧ rdI g 40 18 = 0) ∨ (off = false ∧ rdI g 40 18 = 1 ∧ ∀ g' : Mm, (∀ c i, pl_l f c i = true → rdI g' c i = rdI g c i) → rdI g' 40 19 = 0 → ∃ gb : Mm, m_X10_walks g' = some (res (tr6 (fun j => rdI g' 40 (23 + j))), gb) ∧ (∀ c i, ¬ (c = 40 ∧ 20 ≤ i ∧ i ≤ 22) → rdI gb c i = rdI g' c i) ∧ gb.2 = g'.2))
theorem pl_vm {f : Int32} {c i : Nat} (h : pl_l f c i = true) : c ≠ 44 ∧ ¬ (c = 40 ∧ 20 ≤ i ∧ i ≤ 28) := by
  have := pgm_01 f
  simp only [pl_l, Bool.or_eq_true, Bool.and_eq_true, beq_iff_eq] at h
  omega
theorem vm_w {g0 g : Mm} {T : Nat → Nat → Nat} (hv : vm g0 T g) {h b : Nat} (hb : b < 6) (v : Nat) : vm g0 (ut T h b v) (wrI g 44 (6 * h + b) (nI v)) := by
  obtain ⟨v1, v2, v3⟩ := hv
  refine ⟨fun c i q1 q2 => by rw [rI_wI, if_neg (fun w => q1 w.1)]; exact v1 c i q1 q2, v2, fun i j hi hj => ?_⟩
  rw [rI_wI, ut]
  by_cases z : i = h ∧ j = b
  · rw [if_pos z, if_pos (by omega)]
  · rw [if_neg z, if_neg (by omega)]
    exact v3 i j hi hj
theorem vm_n {g0 g : Mm} {T : Nat → Nat → Nat} (hv : vm g0 T g) {i : Nat} (v : Int32) (h1 : 20 ≤ i) (h2 : i ≤ 28) : vm g0 T (wrI g 40 i v) := by
  obtain ⟨v1, v2, v3⟩ := hv
  refine ⟨fun c j q1 q2 => by rw [rI_wI, if_neg (by omega)]; exact v1 c j q1 q2, v2, fun a b ha hb => ?_⟩
  rw [rI_wI, if_neg (by omega)]
  exact v3 a b ha hb
theorem m104 {nb nh : Nat} {f : Int32} {off : Bool} {res : (Nat → Int32) → Int32} {mo : Nat → Nat} {g0 gW : Mm} {T : Nat → Nat → Nat} (hs : sm0 nb nh f off res mo g0) (K : Int32 → Int32 → Mm → Option (Int32 × Mm)) {h b p q : Nat} (hh : h < nh) (hb : b < nb) (hv : vm g0 T (wrI gW 40 28 (nI q)))
    (hN : tr6 (fun j => rdI (wrI gW 40 28 (nI q)) 40 (23 + j)) = nm6 h b (mo b) nh p q) (hp : p = if b = 0 then 0 else T h (b - 1)) (hq : q = if h = 0 then 0 else T (h - 1) b) :
    ∃ g', m_X10_lay_104 K (nI h) (nI b) (nI q) gW = K (nI h) (nI (b + 1)) g' ∧ vm g0 (ut T h b (lvv off res mo nh T h b)) g' := by
  obtain ⟨⟨b1, b3⟩, ⟨t1, t2, t3⟩, t4, t5⟩ := hs
  obtain ⟨m1, m2⟩ := t4 b hb
  have ix : (6 : Int32) * nI h + nI b = nI (6 * h + b) := by rw [show (6 : Int32) = nI 6 from rfl, pk_mul, nI_add]
  have s18 : rdI (wrI gW 40 28 (nI q)) 40 18 = rdI g0 40 18 := hv.1 40 18 (by omega) (by omega)
  have s19 : rdI (wrI gW 40 28 (nI q)) 40 19 = 0 := by rw [hv.1 40 19 (by omega) (by omega)]; exact t3
  have s41 : rdI (wrI gW 40 28 (nI q)) 41 b = nI (mo b) := by rw [hv.1 41 b (by omega) (by omega)]; exact m1
  rw [m_X10_lay_104]
  generalize wrI gW 40 28 (nI q) = gN at hv hN s18 s19 s41
  rcases t5 with ⟨e1, e2⟩ | ⟨e1, e2, e3⟩
  · refine ⟨_, ?_, vm_w hv (show b < 6 by omega) _⟩
    rw [s18, e2, if_pos rfl, ix_nI (by omega) (by omega), gdd_true, nI_clamp (n := b) (by omega), s41, nI_1, decide_eq_true (show ¬ nI (mo b + 1) = (0 : Int32) from fun w => by have := (nI_eq (b := 0) (by omega) (by omega)).mp w; omega), gdd_true, ix, ix_nI (by omega) (by omega), gdd_true, nI_clamp (by omega), nI_add, rm_nI (by omega) (by omega) (by omega), nI_1, lvv, if_pos e1]
  · obtain ⟨gb, w1, w2, w3⟩ := e3 gN (fun c i hc => hv.1 c i (pl_vm hc).1 (pl_vm hc).2) s19
    have u41 : rdI gb 41 b = nI (mo b) := by rw [w2 41 b (by omega)]; exact s41
    have hv2 : vm g0 T gb := ⟨fun c i q1 q2 => by rw [w2 c i (by omega)]; exact hv.1 c i q1 q2, w3.trans hv.2.1, fun i j hi hj => by rw [w2 44 _ (by omega)]; exact hv.2.2 i j hi hj⟩
    refine ⟨_, ?_, vm_w hv2 (show b < 6 by omega) _⟩
    rw [s18, e2, if_neg (by decide), w1, bdd_some, ix_nI (by omega) (by omega), gdd_true, nI_clamp (n := b) (by omega), u41, cl_m m2, bdd_some, ix, ix_nI (by omega) (by omega), gdd_true, nI_clamp (by omega), nI_1, hN, lvv, if_neg (show ¬ off = true by rw [e1]; decide), hp, hq]
theorem lay21 {nb nh : Nat} {f : Int32} {off : Bool} {res : (Nat → Int32) → Int32} {mo : Nat → Nat} {g0 : Mm} (hs : sm0 nb nh f off res mo g0) (K : Int32 → Mm → Option (Int32 × Mm)) {h : Nat} (hh : h < nh) : ∀ (fu b : Nat) (T : Nat → Nat → Nat) (g : Mm), nb < b + fu → b ≤ nb → vm g0 T g →
    ∃ g', m_X10_lay_21 K fu (nI h) (nI b) g = K (nI (h + 1)) g' ∧ vm g0 (lrow (lvv off res mo nh) h (nb - b) b T) g' := by
  have b1 := hs.1.1
  have b3 := hs.1.2
  intro fu
  induction fu with
  | zero => intro b T g h1 h2; omega
  | succ fu ih =>
    intro b T g h1 h2 hv
    have t1 : rdI g 40 4 = nI nb := by rw [hv.1 40 4 (by omega) (by omega)]; exact hs.2.1.1
    have t2 : rdI g 40 5 = nI nh := by rw [hv.1 40 5 (by omega) (by omega)]; exact hs.2.1.2.1
    rw [m_X10_lay_21, t1]
    by_cases q : b = nb
    · subst q
      refine ⟨g, by rw [if_pos (by rw [nI_leI (by omega) (by omega)]; omega), nI_1], ?_⟩
      rw [Nat.sub_self]
      exact hv
    · obtain ⟨m1, m2⟩ := hs.2.2.1 b (by omega)
      have r1 : rdI (wrI (wrI g 40 23 (nI h)) 40 24 (nI b)) 41 b = nI (mo b) := by rw [rI_wI, if_neg (by omega), rI_wI, if_neg (by omega), hv.1 41 b (by omega) (by omega)]; exact m1
      have r2 : rdI (wrI (wrI (wrI g 40 23 (nI h)) 40 24 (nI b)) 40 25 (nI (mo b))) 40 5 = nI nh := by rw [rI_wI, if_neg (by omega), rI_wI, if_neg (by omega), rI_wI, if_neg (by omega)]; exact t2
      have hW := vm_n (vm_n (vm_n (vm_n hv (i := 23) (nI h) (by omega) (by omega)) (i := 24) (nI b) (by omega) (by omega)) (i := 25) (nI (mo b)) (by omega) (by omega)) (i := 26) (nI nh) (by omega) (by omega)
      have f79 : ∀ p, m_X10_lay_79 (m_X10_lay_21 K fu) (nI h) (nI b) (nI p) (wrI (wrI (wrI (wrI g 40 23 (nI h)) 40 24 (nI b)) 40 25 (nI (mo b))) 40 26 (nI nh)) = m_X10_lay_104 (m_X10_lay_21 K fu) (nI h) (nI b) (nI (if h = 0 then 0 else T (h - 1) b)) (wrI (wrI (wrI (wrI (wrI g 40 23 (nI h)) 40 24 (nI b)) 40 25 (nI (mo b))) 40 26 (nI nh)) 40 27 (nI p)) := by
        intro p
        rw [m_X10_lay_79]
        by_cases z : h = 0
        · rw [if_pos z, if_pos (show nI h = (0 : Int32) by rw [z]; rfl)]
          rfl
        · have ix : (6 : Int32) * (nI h - (1 : Int32)) + nI b = nI (6 * (h - 1) + b) := by rw [show nI h - (1 : Int32) = nI (h - 1) from pk_sub (b := 1) (by omega), show (6 : Int32) = nI 6 from rfl, pk_mul, nI_add]
          rw [if_neg z, if_neg (show ¬ nI h = (0 : Int32) from fun w => by have := (nI_eq (b := 0) (by omega) (by omega)).mp w; omega), ix, ix_nI (by omega) (by omega), gdd_true, nI_clamp (by omega), (vm_n hW (i := 27) (nI p) (by omega) (by omega)).2.2 (h - 1) b (by omega) (by omega)]
      have hg : (if nI b = (0 : Int32) then m_X10_lay_79 (m_X10_lay_21 K fu) (nI h) (nI b) 0 (wrI (wrI (wrI (wrI g 40 23 (nI h)) 40 24 (nI b)) 40 25 (nI (mo b))) 40 26 (nI nh)) else gdd (ixo ((((6 : Int32) * nI h) + nI b) - (1 : Int32)) 144) (m_X10_lay_79 (m_X10_lay_21 K fu) (nI h) (nI b) (rdI (wrI (wrI (wrI (wrI g 40 23 (nI h)) 40 24 (nI b)) 40 25 (nI (mo b))) 40 26 (nI nh)) 44 ((((6 : Int32) * nI h) + nI b) - (1 : Int32)).toNatClampNeg) (wrI (wrI (wrI (wrI g 40 23 (nI h)) 40 24 (nI b)) 40 25 (nI (mo b))) 40 26 (nI nh)))) = m_X10_lay_104 (m_X10_lay_21 K fu) (nI h) (nI b) (nI (if h = 0 then 0 else T (h - 1) b)) (wrI (wrI (wrI (wrI (wrI g 40 23 (nI h)) 40 24 (nI b)) 40 25 (nI (mo b))) 40 26 (nI nh)) 40 27 (nI (if b = 0 then 0 else T h (b - 1)))) := by
        by_cases z : b = 0
        · rw [if_pos (show nI b = (0 : Int32) by rw [z]; rfl), show (0 : Int32) = nI 0 from rfl, f79, if_pos z]
        · have ix : ((6 : Int32) * nI h + nI b) - (1 : Int32) = nI (6 * h + (b - 1)) := by
            rw [show (6 : Int32) = nI 6 from rfl, pk_mul, nI_add, show nI (6 * h + b) - (1 : Int32) = nI (6 * h + b - 1) from pk_sub (b := 1) (by omega), show 6 * h + b - 1 = 6 * h + (b - 1) by omega]
          rw [if_neg (show ¬ nI b = (0 : Int32) from fun w => by have := (nI_eq (b := 0) (by omega) (by omega)).mp w; omega), ix, ix_nI (by omega) (by omega), gdd_true, nI_clamp (by omega), hW.2.2 h (b - 1) (by omega) (by omega), f79, if_neg z]
      have hWq := vm_n (vm_n hW (i := 27) (nI (if b = 0 then 0 else T h (b - 1))) (by omega) (by omega)) (i := 28) (nI (if h = 0 then 0 else T (h - 1) b)) (by omega) (by omega)
      obtain ⟨g1, e1, e2⟩ := m104 (p := if b = 0 then 0 else T h (b - 1)) hs (m_X10_lay_21 K fu) hh (show b < nb by omega) hWq (tr6_eq (by simp [rI_wI]) (by simp [rI_wI]) (by simp [rI_wI]) (by simp [rI_wI]) (by simp [rI_wI]) (by simp [rI_wI])) rfl rfl
      obtain ⟨g', f1, f2⟩ := ih (b + 1) _ g1 (by omega) (by omega) e2
      refine ⟨g', ?_, ?_⟩
      · rw [if_neg (by rw [nI_leI (by omega) (by omega)]; omega), ix_nI (by omega) (by omega), gdd_true, nI_clamp (n := b) (by omega), r1, r2]
        refine Eq.trans hg ?_
        rw [e1]
        exact f1
      · rw [show nb - b = (nb - (b + 1)) + 1 by omega]
        exact f2
theorem lay11 {nb nh : Nat} {f : Int32} {off : Bool} {res : (Nat → Int32) → Int32} {mo : Nat → Nat} {g0 : Mm} (hs : sm0 nb nh f off res mo g0) : ∀ (fu h : Nat) (T : Nat → Nat → Nat) (g : Mm), nh < h + fu → h ≤ nh → vm g0 T g →
    ∃ g', m_X10_lay_11 fu (nI h) g = bdd (m_X10_sumAll g') (fun r g6 => some (r, g6)) ∧ vm g0 (lall (lvv off res mo nh) nb (nh - h) h T) g' := by
  have b1 := hs.1.1
  have b3 := hs.1.2
  intro fu
  induction fu with
  | zero => intro h T g h1 h2; omega
  | succ fu ih =>
    intro h T g h1 h2 hv
    have t2 : rdI g 40 5 = nI nh := by rw [hv.1 40 5 (by omega) (by omega)]; exact hs.2.1.2.1
    rw [m_X10_lay_11, t2]
    by_cases q : h = nh
    · subst q
      refine ⟨g, by rw [if_pos (by rw [nI_leI (by omega) (by omega)]; omega)], ?_⟩
      rw [Nat.sub_self]
      exact hv
    · obtain ⟨F, eF, hF⟩ := fu_get
      obtain ⟨g1, e1, e2⟩ := lay21 hs (m_X10_lay_11 fu) (show h < nh by omega) F 0 T g (by omega) (Nat.zero_le _) hv
      obtain ⟨g', f1, f2⟩ := ih (h + 1) _ g1 (by omega) (by omega) e2
      refine ⟨g', ?_, ?_⟩
      · rw [if_neg (by rw [nI_leI (by omega) (by omega)]; omega), eF]
        rw [show m_X10_lay_21 (m_X10_lay_11 fu) F (nI h) 0 g = m_X10_lay_11 fu (nI (h + 1)) g1 from e1]
        exact f1
      · rw [show nh - h = (nh - (h + 1)) + 1 by omega]
        exact f2
/-- places that laying leaves -/
def lyp (f : Int32) (c i : Nat) : Prop := c ≠ 5 ∧ c ≠ 44 ∧ ¬ (c = 7 ∧ (i = 3 ∨ i = 4)) ∧ c ≠ pgm f + 3 ∧ c ≠ pgm f + 4 ∧ ¬ (c = 40 ∧ (12 ≤ i ∧ i ≤ 13 ∨ 19 ≤ i ∧ i ≤ 28))
theorem lyp_dj (f : Int32) {c i : Nat} (h : pl_x c i = true ∨ pl_p c i = true ∨ pl_e c i = true ∨ pl_a c i = true ∨ pl_s c i = true ∨ pl_l f c i = true) : lyp f c i := by
  have := pgm_01 f
  unfold lyp
  simp only [pl_x, pl_p, pl_e, pl_a, pl_s, pl_l, Bool.or_eq_true, Bool.and_eq_true, beq_iff_eq] at h
  omega
set_option maxHeartbeats 1000000 in
theorem op_lay {g : Mm} (hg : gv_ g) : al_ m_X9_lay m_X10_lay g := by
  have hg0 := hg
  obtain ⟨nb, nh, hd, cd, ck, tl, rt, nn, na, ra, f, hT, hX, hC, hP, hL, hE, hA, hS⟩ := hg
  obtain ⟨⟨b1, b2, b3, b4, b5⟩, ⟨t1, t2, t3, t4, t5, t6⟩, t7, t8, t9, t10⟩ := id hT
  obtain ⟨l1, l2⟩ := id hL
  have hf := pgm_01 f
  have hF := fu_big
  have hf3 : rdI g 11 3 = f := by
    rcases l1 with ⟨h1, h2, h3⟩ | ⟨h1, h2, h3⟩
    · rw [h2, h1]
    · rw [h2, h1]
  have hmo : ∀ b, b < nb → rdI g 2 b = nI (rdI g 2 b).toNatClampNeg ∧ rdI g 41 b = nI (rdI g 2 b).toNatClampNeg ∧ (rdI g 2 b).toNatClampNeg ≤ 15 := fun b hb => by
    obtain ⟨⟨k, k1, k2, e⟩, -⟩ := t8 b hb
    rw [(t7 b (by omega)).1, e, nI_clamp (by omega)]
    exact ⟨rfl, rfl, k2⟩
  -- what both begin with
  obtain ⟨off, res, h0, hm0⟩ : ∃ (off : Bool) (res : (Nat → Int32) → Int32), sc0 nb nh f off res (fun b => (rdI g 2 b).toNatClampNeg) g ∧ ((off = true ∧ rdI g 40 18 = 0) ∨ (off = false ∧ rdI g 40 18 = 1 ∧ ∀ g' : Mm, (∀ c i, pl_l f c i = true → rdI g' c i = rdI g c i) → rdI g' 40 19 = 0 → ∃ gb : Mm, m_X10_walks g' = some (res (tr6 (fun j => rdI g' 40 (23 + j))), gb) ∧ (∀ c i, ¬ (c = 40 ∧ 20 ≤ i ∧ i ≤ 22) → rdI gb c i = rdI g' c i) ∧ gb.2 = g'.2)) := by
    rcases l2 with ⟨e1, e2⟩ | ⟨e1, e2, res, e3, e4⟩
    · exact ⟨true, fun _ => 0, ⟨⟨b1, b3⟩, ⟨t1, t2, hf3⟩, fun b hb => ⟨(hmo b hb).1, (hmo b hb).2.2⟩, Or.inl ⟨rfl, e2⟩⟩, Or.inl ⟨rfl, e1⟩⟩
    · exact ⟨false, res, ⟨⟨b1, b3⟩, ⟨t1, t2, hf3⟩, fun b hb => ⟨(hmo b hb).1, (hmo b hb).2.2⟩, Or.inr ⟨rfl, e2, e3⟩⟩, Or.inr ⟨rfl, e1, e4⟩⟩
  have hv0 : vc g f (tv g) g := ⟨fun _ _ _ _ _ => rfl, rfl, fun h b hh hb => (tv_get hT hh hb).1⟩
  obtain ⟨gA, a1, a2⟩ := lay2 h0 fuL 0 (tv g) g (by omega) (Nat.zero_le _) hv0
  rw [Nat.sub_zero] at a2
  have hV : ∀ (T : Nat → Nat → Nat) h b, b < nb → lvv off res (fun b => (rdI g 2 b).toNatClampNeg) nh T h b ≤ 15 := fun T h b hb => Nat.le_trans (lvv_le (hmo b hb).2.2) (hmo b hb).2.2
  have hk := tk.all (nb := nb) (nh := nh) (T0 := tv g) hV nh 0 (tv g) (by omega) ⟨fun _ _ => Or.inr rfl, fun _ _ _ => rfl⟩
  generalize hT' : lall (lvv off res (fun b => (rdI g 2 b).toNatClampNeg) nh) nb nh 0 (tv g) = T' at a2 hk
  -- the class's memory at the end
  have kB : ∀ c i, c ≠ 5 → c ≠ pgm f + 3 → c ≠ pgm f + 4 → ¬ (c = 7 ∧ (i = 3 ∨ i = 4)) → rdI (wrI (wrI gA 7 3 0) 7 4 0) c i = rdI g c i := fun c i q1 q2 q3 q4 => by
    rw [rI_wI, if_neg (by omega), rI_wI, if_neg (by omega)]
    exact a2.1 c i q1 q2 q3
  have b5' : ∀ h b, h < 24 → b < 6 → rdI (wrI (wrI gA 7 3 0) 7 4 0) 5 (6 * h + b) = nI (T' h b) := fun h b hh hb => by
    rw [rI_wI, if_neg (by omega), rI_wI, if_neg (by omega)]
    exact a2.2.2 h b hh hb
  have kc : m_X9_lay g = some (nI (sm (fun b => sm (fun h => T' h b) nh) nb), wrI (wrI gA 7 3 0) 7 4 0) := by
    rw [m_X9_lay]
    rw [show m_X9_lay_2 fuL 0 g = _ from a1, m_X1_forgetAll, bdd_some, all_T b1 b3 (by rw [kB 1 0 (by omega) (by omega) (by omega) (by omega)]; exact t1) (by rw [kB 1 1 (by omega) (by omega) (by omega) (by omega)]; exact t2) b5', bdd_some]
  -- the reference
  have kC : ∀ c i, c ≠ 5 → c ≠ pgm f + 3 → c ≠ pgm f + 4 → ¬ (c = 7 ∧ (i = 3 ∨ i = 4)) → ¬ (c = 40 ∧ (12 ≤ i ∧ i ≤ 13 ∨ i = 19)) → rdI (wrI (wrI (wrI (wrI (wrI gA 7 3 0) 7 4 0) 40 19 0) 40 12 0) 40 13 0) c i = rdI g c i := fun c i q1 q2 q3 q4 q5 => by
    rw [rI_wI, if_neg (by omega), rI_wI, if_neg (by omega), rI_wI, if_neg (by omega)]
    exact kB c i q1 q2 q3 q4
  have h1 : sm0 nb nh f off res (fun b => (rdI g 2 b).toNatClampNeg) (wrI (wrI (wrI (wrI (wrI gA 7 3 0) 7 4 0) 40 19 0) 40 12 0) 40 13 0) := by
    refine ⟨⟨b1, b3⟩, ⟨?_, ?_, ?_⟩, fun b hb => ⟨?_, (hmo b hb).2.2⟩, ?_⟩
    · rw [kC 40 4 (by omega) (by omega) (by omega) (by omega) (by omega)]; exact t4
    · rw [kC 40 5 (by omega) (by omega) (by omega) (by omega) (by omega)]; exact t5
    · rw [rI_wI, if_neg (by omega), rI_wI, if_neg (by omega), rI_wI, if_pos ⟨rfl, rfl⟩]
    · rw [kC 41 b (by omega) (by omega) (by omega) (by omega) (by omega)]; exact (hmo b hb).2.1
    · rw [kC 40 18 (by omega) (by omega) (by omega) (by omega) (by omega)]
      rcases hm0 with e | ⟨e1, e2, e3⟩
      · exact Or.inl e
      · refine Or.inr ⟨e1, e2, fun g' hag h19 => e3 g' (fun c i hc => ?_) h19⟩
        obtain ⟨q1, q2, q3, q4, q5, q6⟩ := lyp_dj f (Or.inr (Or.inr (Or.inr (Or.inr (Or.inr hc)))))
        rw [hag c i hc, kC c i q1 q4 q5 q3 (by omega)]
  have hv1 : vm (wrI (wrI (wrI (wrI (wrI gA 7 3 0) 7 4 0) 40 19 0) 40 12 0) 40 13 0) (tv g) (wrI (wrI (wrI (wrI (wrI gA 7 3 0) 7 4 0) 40 19 0) 40 12 0) 40 13 0) := ⟨fun _ _ _ _ => rfl, rfl, fun h b hh hb => by
    rw [kC 44 _ (by omega) (by omega) (by omega) (by omega) (by omega)]
    exact (tv_get hT hh hb).2.1⟩
  obtain ⟨gF, c1, c2⟩ := lay11 h1 fuL 0 (tv g) _ (by omega) (Nat.zero_le _) hv1
  rw [Nat.sub_zero, hT'] at c2
  have kF : ∀ c i, lyp f c i → rdI gF c i = rdI g c i := fun c i q => by
    obtain ⟨q1, q2, q3, q4, q5, q6⟩ := q
    rw [c2.1 c i q2 (by omega), kC c i q1 q4 q5 q3 (by omega)]
  have f5 : ∀ h b, h < 24 → b < 6 → rdI gF 5 (6 * h + b) = nI (T' h b) := fun h b hh hb => by
    rw [c2.1 5 _ (by omega) (by omega), rI_wI, if_neg (by omega), rI_wI, if_neg (by omega), rI_wI, if_neg (by omega)]
    exact b5' h b hh hb
  have T15 : ∀ h b, h < 24 → b < 6 → T' h b ≤ 15 := fun h b hh hb => by
    rcases hk.1 h b with e | e
    · exact e
    · rw [e]; exact (tv_get hT hh hb).2.2
  have hTF : gv_t nb nh hd gF := by
    refine ⟨⟨b1, b2, b3, b4, b5⟩, ⟨?_, ?_, ?_, ?_, ?_, ?_⟩, fun b hb => ?_, fun b hb => ?_, fun k hk2 => ?_, fun h b hh hb q => ?_⟩
    · rw [kF 1 0 (by unfold lyp; omega)]; exact t1
    · rw [kF 1 1 (by unfold lyp; omega)]; exact t2
    · rw [kF 1 2 (by unfold lyp; omega)]; exact t3
    · rw [kF 40 4 (by unfold lyp; omega)]; exact t4
    · rw [kF 40 5 (by unfold lyp; omega)]; exact t5
    · rw [kF 40 6 (by unfold lyp; omega)]; exact t6
    · rw [kF 41 b (by unfold lyp; omega), kF 42 b (by unfold lyp; omega), kF 43 b (by unfold lyp; omega), kF 2 b (by unfold lyp; omega), kF 3 b (by unfold lyp; omega), kF 4 b (by unfold lyp; omega)]; exact t7 b hb
    · rw [kF 2 b (by unfold lyp; omega), kF 3 b (by unfold lyp; omega), kF 4 b (by unfold lyp; omega)]; exact t8 b hb
    · have e1 := f5 (k / 6) (k % 6) (by omega) (by omega)
      have e2 := c2.2.2 (k / 6) (k % 6) (by omega) (by omega)
      rw [show 6 * (k / 6) + k % 6 = k by omega] at e1 e2
      rw [e1, e2]
      exact ⟨rfl, _, T15 _ _ (by omega) (by omega), rfl⟩
    · rw [f5 h b hh hb, hk.2 h b (by omega)]
      have e := t10 h b hh hb q
      rw [(tv_get hT hh hb).1] at e
      exact e
  have eS : sm (bs_ gF nh) nb = sm (fun b => sm (fun h => T' h b) nh) nb := by
    refine sm_congr (fun b hb => ?_)
    show sm (fun h => tv gF h b) nh = _
    refine sm_congr (fun h hh => ?_)
    rw [tv, f5 h b (by omega) (by omega), nI_clamp (by have := T15 h b (by omega) (by omega); omega)]
  refine ⟨_, _, gF, kc, ?_, nb, nh, hd, 0, 0, tl, rt, nn, na, ra, f, hTF, hX.cong (fun c i h => kF c i (lyp_dj f (Or.inl h))), ⟨⟨Nat.le_refl _, Nat.zero_le _⟩, ⟨?_, ?_, ?_, ?_⟩, fun k hk => absurd hk (Nat.not_lt_zero _)⟩, hP.cong (fun c i h => kF c i (lyp_dj f (Or.inr (Or.inl h)))), hL.cong (fun c i h => kF c i (lyp_dj f (Or.inr (Or.inr (Or.inr (Or.inr (Or.inr h))))))), hE.cong (fun c i h => kF c i (lyp_dj f (Or.inr (Or.inr (Or.inl h))))), hA.cong (fun c i h => kF c i (lyp_dj f (Or.inr (Or.inr (Or.inr (Or.inl h)))))), hS.cong (fun c i h => kF c i (lyp_dj f (Or.inr (Or.inr (Or.inr (Or.inr (Or.inl h))))))) (fun i => ?_)⟩
  · rw [m_X10_lay, m_X10_forgets, bdd_some]
    rw [show m_X10_lay_11 fuL 0 (wrI (wrI (wrI (wrI (wrI gA 7 3 0) 7 4 0) 40 19 0) 40 12 0) 40 13 0) = _ from c1, all_m hTF, bdd_some, eS]
  · rw [c2.1 7 3 (by omega) (by omega), rI_wI, if_neg (by omega), rI_wI, if_neg (by omega), rI_wI, if_neg (by omega), rI_wI, if_neg (by omega), rI_wI, if_pos ⟨rfl, rfl⟩]; rfl
  · rw [c2.1 7 4 (by omega) (by omega), rI_wI, if_neg (by omega), rI_wI, if_neg (by omega), rI_wI, if_neg (by omega), rI_wI, if_pos ⟨rfl, rfl⟩]; rfl
  · rw [c2.1 40 12 (by omega) (by omega), rI_wI, if_neg (by omega), rI_wI, if_pos ⟨rfl, rfl⟩]; rfl
  · rw [c2.1 40 13 (by omega) (by omega), rI_wI, if_pos ⟨rfl, rfl⟩]; rfl
  · unfold rdL
    rw [c2.2.1, show (wrI (wrI (wrI (wrI (wrI gA 7 3 0) 7 4 0) 40 19 0) 40 12 0) 40 13 0).2 = gA.2 from rfl, a2.2.1]
    exact ⟨rfl, rfl⟩
