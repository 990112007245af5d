/-! acts -/
theorem bdd_eta {X : Option (Int32 × Mm)} : bdd X (fun r g => some (r, g)) = X := by
  cases X with
  | none => rfl
  | some p => rfl
/-- a body runs: the trace -/
def r1 (T cc ci : Nat) (v : Nat) (g : Mm) : Mm := wrI (if (24 : Int32) ≤ rdI g cc ci then g else wrI g T (rdI g cc ci).toNatClampNeg (nI v)) cc ci (rdI g cc ci + 1)
def rr (T cc ci : Nat) : List Nat → Mm → Mm
  | [], g => g
  | v :: L, g => rr T cc ci L (r1 T cc ci v g)
theorem rr_app (T cc ci : Nat) (L M : List Nat) (g : Mm) : rr T cc ci (L ++ M) g = rr T cc ci M (rr T cc ci L g) := by
  induction L generalizing g with
  | nil => rfl
  | cons v L ih => exact ih _
theorem r1_read {T cc ci c : Nat} (hT : T ≠ cc) {g : Mm} (hc : rdI g cc ci = nI c) (hb : c < 2 ^ 30) (v x k : Nat) : rdI (r1 T cc ci v g) x k = if x = cc ∧ k = ci then nI (c + 1) else if x = T ∧ k = c ∧ c < 24 then nI v else rdI g x k := by
  rw [r1, rI_wI, hc, nI_1, nI_clamp (by omega)]
  by_cases z : x = cc ∧ k = ci
  · rw [if_pos z, if_pos z]
  · rw [if_neg z, if_neg z]
    by_cases q : c < 24
    · rw [if_neg (show ¬ (24 : Int32) ≤ nI c from fun y => by have := (nI_leI (a := 24) (b := c) (by omega) (by omega)).mp y; omega), rI_wI]
      by_cases z2 : x = T ∧ k = c
      · rw [if_pos z2, if_pos ⟨z2.1, z2.2, q⟩]
      · rw [if_neg z2, if_neg (fun y => z2 ⟨y.1, y.2.1⟩)]
    · rw [if_pos (show (24 : Int32) ≤ nI c from (nI_leI (a := 24) (b := c) (by omega) (by omega)).mpr (by omega)), if_neg (fun y => q y.2.2)]
theorem rr_read {T cc ci : Nat} (hT : T ≠ cc) (L : List Nat) : ∀ (c : Nat) (g : Mm), rdI g cc ci = nI c → c + L.length < 2 ^ 30 → (∀ x k, rdI (rr T cc ci L g) x k = if x = cc ∧ k = ci then nI (c + L.length) else if x = T ∧ c ≤ k ∧ k < c + L.length ∧ k < 24 then nI (L.getD (k - c) 0) else rdI g x k) ∧ (rr T cc ci L g).2 = g.2 := by
  induction L with
  | nil =>
    intro c g hc hb
    refine ⟨fun x k => ?_, rfl⟩
    show rdI g x k = _
    by_cases z : x = cc ∧ k = ci
    · rw [if_pos z, z.1, z.2, hc]
      rfl
    · rw [if_neg z, if_neg]
      simp only [List.length_nil]
      omega
  | cons v L ih =>
    intro c g hc hb
    simp only [List.length_cons] at hb ⊢
    have hr := r1_read hT hc (by omega) v
    have h1 : rdI (r1 T cc ci v g) cc ci = nI (c + 1) := by rw [hr, if_pos ⟨rfl, rfl⟩]
    obtain ⟨e1, e2⟩ := ih (c + 1) (r1 T cc ci v g) h1 (by omega)
    refine ⟨fun x k => ?_, ?_⟩
    · show rdI (rr T cc ci L (r1 T cc ci v g)) x k = _
      rw [e1, hr]
      by_cases z : x = cc ∧ k = ci
      · rw [if_pos z, if_pos z, show c + 1 + L.length = c + (L.length + 1) by omega]
      · rw [if_neg z, if_neg z, if_neg z]
        by_cases z1 : x = T ∧ c + 1 ≤ k ∧ k < c + 1 + L.length ∧ k < 24
        · rw [if_pos z1, if_pos (by omega)]
          obtain ⟨j, rfl⟩ : ∃ j, k = c + 1 + j := ⟨k - (c + 1), by omega⟩
          rw [show c + 1 + j - (c + 1) = j by omega, show c + 1 + j - c = j + 1 by omega]
          rfl
        · rw [if_neg z1]
          by_cases z2 : x = T ∧ k = c ∧ c < 24
          · rw [if_pos z2, if_pos (by omega), show k - c = 0 by omega]
            rfl
          · rw [if_neg z2, if_neg (by omega)]
    · refine e2.trans ?_
      rw [r1]
      split <;> rfl
/-- the class before a body: how many ran at most, who acts -/
def okc (b K0 n : Nat) (g : Mm) : Prop := (∃ c, c ≤ b ∧ rdI g 32 3 = nI c) ∧ rdI g 32 4 = nI n ∧ rdI g 33 n = nI K0
def okm (b K0 n : Nat) (g : Mm) : Prop := (∃ c, c ≤ b ∧ rdI g 40 42 = nI c) ∧ rdI g 40 43 = nI K0 ∧ rdI g 40 44 = nI n
abbrev rc := rr 34 32 3
abbrev rm := rr 57 40 42
theorem okc.run {b K0 n : Nat} {g : Mm} (h : okc b K0 n g) (hb : b ≤ 20000) {L : List Nat} (hL : L.length ≤ 100) : okc (b + L.length) K0 n (rc L g) := by
  obtain ⟨⟨c, hc, h1⟩, h2, h3⟩ := h
  obtain ⟨e, -⟩ := rr_read (T := 34) (cc := 32) (ci := 3) (by decide) L c g h1 (by omega)
  refine ⟨⟨c + L.length, by omega, ?_⟩, ?_, ?_⟩
  · rw [e, if_pos ⟨rfl, rfl⟩]
  · rw [e, if_neg (by omega), if_neg (by omega), h2]
  · rw [e, if_neg (by omega), if_neg (by omega), h3]
theorem okm.run {b K0 n : Nat} {g : Mm} (h : okm b K0 n g) (hb : b ≤ 20000) {L : List Nat} (hL : L.length ≤ 100) : okm (b + L.length) K0 n (rm L g) := by
  obtain ⟨⟨c, hc, h1⟩, h2, h3⟩ := h
  obtain ⟨e, -⟩ := rr_read (T := 57) (cc := 40) (ci := 42) (by decide) L c g h1 (by omega)
  refine ⟨⟨c + L.length, by omega, ?_⟩, ?_, ?_⟩
  · rw [e, if_pos ⟨rfl, rfl⟩]
  · rw [e, if_neg (by omega), if_neg (by omega), h2]
  · rw [e, if_neg (by omega), if_neg (by omega), h3]
theorem okc.mono {b b' K0 n : Nat} {g : Mm} (h : okc b K0 n g) (hb : b ≤ b') : okc b' K0 n g := ⟨⟨h.1.choose, Nat.le_trans h.1.choose_spec.1 hb, h.1.choose_spec.2⟩, h.2⟩
theorem okm.mono {b b' K0 n : Nat} {g : Mm} (h : okm b K0 n g) (hb : b ≤ b') : okm b' K0 n g := ⟨⟨h.1.choose, Nat.le_trans h.1.choose_spec.1 hb, h.1.choose_spec.2⟩, h.2⟩
theorem okc.one {b K0 n : Nat} {g : Mm} (h : okc b K0 n g) (hb : b ≤ 20000) (v : Nat) : okc (b + 1) K0 n (r1 34 32 3 v g) := h.run (L := [v]) hb (show 1 ≤ 100 by decide)
theorem okm.one {b K0 n : Nat} {g : Mm} (h : okm b K0 n g) (hb : b ≤ 20000) (v : Nat) : okm (b + 1) K0 n (r1 57 40 42 v g) := h.run (L := [v]) hb (show 1 ≤ 100 by decide)
/-- whose body runs -/
def dkf : Nat → Nat → Nat → Nat
  | 0, K, _ => K
  | j + 1, K, t => if (tbI 101 (4 * K + t)).toNatClampNeg = 0 then dkf j (tbI 100 K).toNatClampNeg t else K
def dk (K t : Nat) : Nat := dkf 8 K t
def bd (K t : Nat) : Nat := (tbI 101 (4 * K + t)).toNatClampNeg
def pa (K : Nat) : Nat := (tbI 100 K).toNatClampNeg
theorem pa_ok : ∀ K, K < 8 → tbI 100 K = nI (pa K) ∧ pa K < 8 := by decide +kernel
theorem bd_ok : ∀ K, K < 8 → ∀ t, t < 4 → tbI 101 (4 * K + t) = nI (bd K t) ∧ bd K t < 100 := by decide +kernel
theorem dk_ok : ∀ K, K < 8 → ∀ t, t < 4 → dk K t < 8 := by decide +kernel
theorem as49 {K0 n b K t dep : Nat} {g : Mm} (C : Nat → Int32 → Int32 → Int32 → Int32 → Mm → Option (Int32 × Mm)) (h : okc b K0 n g) (hb : b ≤ 20000) (hK : K < 8) (ht : t < 4) (x : Int32) :
    m_X0_asKind_49 C (nI t) x (nI dep) (nI K) g = C 1 (nI (bd K t)) (nI (pa K)) x (nI (dep + 1)) (r1 34 32 3 (bd K t) g) := by
  obtain ⟨⟨c, hc, h1⟩, h2, h3⟩ := h
  obtain ⟨e1, -⟩ := bd_ok K hK t ht
  obtain ⟨e2, -⟩ := pa_ok K hK
  have e4 : nI K * (4 : Int32) + nI t = nI (4 * K + t) := by rw [show (4 : Int32) = nI 4 from rfl, pk_mul, nI_add, Nat.mul_comm]
  have e81 : ∀ g, m_X0_asKind_81 C x (nI dep) (nI K) (nI (bd K t)) g = C 1 (nI (bd K t)) (nI (pa K)) x (nI (dep + 1)) (wrI g 32 3 (rdI g 32 3 + 1)) := fun g => by
    rw [m_X0_asKind_81, ix_nI hK (by omega), gdd_true, nI_clamp (by omega), e2, nI_1, bdd_eta]
  rw [m_X0_asKind_49, e4, ix_nI (by omega) (by omega), gdd_true, lti, nI_clamp (by omega), e1, r1, h1]
  by_cases q : 24 ≤ c
  · have hq : (24 : Int32) ≤ nI c := (nI_leI (a := 24) (b := c) (by omega) (by omega)).mpr q
    rw [if_pos hq, if_pos hq, e81, h1]
  · have hq : ¬ (24 : Int32) ≤ nI c := fun y => q ((nI_leI (a := 24) (b := c) (by omega) (by omega)).mp y)
    rw [if_neg hq, if_neg hq, ix_nI (by omega) (by omega), gdd_true, e81, rI_wI, if_neg (by omega), h1]
theorem as15 {t dep : Nat} {g : Mm} (C : Nat → Int32 → Int32 → Int32 → Int32 → Mm → Option (Int32 × Mm)) (ht : t < 4) (x : Int32) : ∀ (j fu i K : Nat), K < 8 → j + i = 8 → 8 < i + fu → m_X0_asKind_15 C fu (nI t) x (nI dep) (nI K) (nI i) g = m_X0_asKind_49 C (nI t) x (nI dep) (nI (dkf j K t)) g := by
  intro j
  induction j with
  | zero =>
    intro fu i K hK h1 h2
    obtain ⟨fv, rfl⟩ : ∃ fv, fu = fv + 1 := ⟨fu - 1, by omega⟩
    rw [m_X0_asKind_15, if_pos (show (8 : Int32) ≤ nI i from (nI_leI (a := 8) (b := i) (by omega) (by omega)).mpr (by omega))]
    rfl
  | succ j ih =>
    intro fu i K hK h1 h2
    obtain ⟨fv, rfl⟩ : ∃ fv, fu = fv + 1 := ⟨fu - 1, by omega⟩
    obtain ⟨e1, h9⟩ := bd_ok K hK t ht
    obtain ⟨e2, h8⟩ := pa_ok K hK
    have e4 : nI K * (4 : Int32) + nI t = nI (4 * K + t) := by rw [show (4 : Int32) = nI 4 from rfl, pk_mul, nI_add, Nat.mul_comm]
    rw [m_X0_asKind_15, if_neg (show ¬ (8 : Int32) ≤ nI i from fun y => by have := (nI_leI (a := 8) (b := i) (by omega) (by omega)).mp y; omega), e4, ix_nI (by omega) (by omega), gdd_true, nI_clamp (by omega), e1, dkf]
    by_cases z : bd K t = 0
    · rw [if_pos (show nI (bd K t) = (0 : Int32) by rw [z]; rfl), if_pos (show (tbI 101 (4 * K + t)).toNatClampNeg = 0 from z), ix_nI hK (by omega), gdd_true, nI_clamp (by omega), e2, nI_1, nI_clamp (by omega)]
      exact ih fv (i + 1) (pa K) h8 (by omega) (by omega)
    · rw [if_neg (show ¬ nI (bd K t) = (0 : Int32) from fun y => z ((nI_eq (b := 0) (by omega) (by omega)).mp y)), if_neg (show ¬ (tbI 101 (4 * K + t)).toNatClampNeg = 0 from z)]
theorem ga_call {K0 n b K t dep d : Nat} {g : Mm} (h : okc b K0 n g) (hb : b ≤ 20000) (hK : K < 8) (ht : t < 4) (hd : dep < 40) (x : Int32) :
    ga_ (d + 2) 0 (nI K) (nI t) x (nI dep) g = m_X0_runBody (ga_ d) (nI (bd (dk K t) t)) (nI (pa (dk K t))) x (nI (dep + 1)) (r1 34 32 3 (bd (dk K t) t) g) := by
  obtain ⟨F, eF, hF⟩ := fu_get
  show m_X0_asKind (ga_ (d + 1)) (nI K) (nI t) x (nI dep) g = _
  rw [m_X0_asKind, if_pos (show nI dep < (40 : Int32) from (nI_ltI (a := dep) (b := 40) (by omega) (by omega)).mpr hd), eF, show (0 : Int32) = nI 0 from rfl, as15 _ ht x 8 F 0 K hK rfl (by omega)]
  exact as49 _ h hb (dk_ok K hK t ht) ht x
/-! the bodies -/
theorem rb_1 {b K0 n : Nat} {g : Mm} (C : Nat → Int32 → Int32 → Int32 → Int32 → Mm → Option (Int32 × Mm)) (h : okc b K0 n g) (hn : n < 50) (P x e : Int32) : m_X0_runBody C (nI 1) P x e g = some (x + nI n, g) := by
  rw [m_X0_runBody, h.2.1, ix_nI hn (by omega), gdd_true]
  rfl
theorem rb_11 {b K0 n : Nat} {g : Mm} (C : Nat → Int32 → Int32 → Int32 → Int32 → Mm → Option (Int32 × Mm)) (h : okc b K0 n g) (hn : n < 50) (P x e : Int32) : m_X0_runBody C (nI 11) P x e g = some (x ^^^ nI n, g) := by
  rw [m_X0_runBody, h.2.1, ix_nI hn (by omega), gdd_true]
  rfl
theorem rb_2 {b K0 n : Nat} {g : Mm} (C : Nat → Int32 → Int32 → Int32 → Int32 → Mm → Option (Int32 × Mm)) (h : okc b K0 n g) (hn : n < 50) (P x e : Int32) : m_X0_runBody C (nI 2) P x e g = bdd (C 0 (nI K0) (nI 1) x e g) (fun r g5 => bdd (C 0 (nI K0) (nI 2) 1 e g5) (fun s g8 => some (r - s, g8))) := by
  rw [m_X0_runBody, h.2.1, ix_nI hn (by omega), gdd_true, nI_clamp (by omega), h.2.2]
  rfl
theorem rb_10 {b K0 n : Nat} {g : Mm} (C : Nat → Int32 → Int32 → Int32 → Int32 → Mm → Option (Int32 × Mm)) (h : okc b K0 n g) (hn : n < 50) (P x e : Int32) : m_X0_runBody C (nI 10) P x e g = bdd (C 0 (nI K0) (nI 0) x e g) (fun r g5 => some (r * 2, g5)) := by
  rw [m_X0_runBody, h.2.1, ix_nI hn (by omega), gdd_true, nI_clamp (by omega), h.2.2]
  rfl
theorem rb_20 {b K0 n : Nat} {g : Mm} (C : Nat → Int32 → Int32 → Int32 → Int32 → Mm → Option (Int32 × Mm)) (h : okc b K0 n g) (hn : n < 50) (P x e : Int32) : m_X0_runBody C (nI 20) P x e g = bdd (C 0 P (nI 0) x e g) (fun r g5 => some (r + 3, g5)) := by
  rw [m_X0_runBody, h.2.1, ix_nI hn (by omega), gdd_true]
  rfl
theorem rb_70 {b K0 n : Nat} {g : Mm} (C : Nat → Int32 → Int32 → Int32 → Int32 → Mm → Option (Int32 × Mm)) (h : okc b K0 n g) (hn : n < 50) (P x e : Int32) : m_X0_runBody C (nI 70) P x e g = bdd (C 0 P (nI 0) x e g) (fun r g5 => some (r * 2, g5)) := by
  rw [m_X0_runBody, h.2.1, ix_nI hn (by omega), gdd_true]
  rfl
theorem rb_30 {b K0 n : Nat} {g : Mm} (C : Nat → Int32 → Int32 → Int32 → Int32 → Mm → Option (Int32 × Mm)) (h : okc b K0 n g) (hn : n < 50) (P x e : Int32) : m_X0_runBody C (nI 30) P x e g = bdd (C 0 P (nI 1) x e g) (fun r g5 => some (-r, g5)) := by
  rw [m_X0_runBody, h.2.1, ix_nI hn (by omega), gdd_true]
  rfl
theorem rb_40 {b K0 n : Nat} {g : Mm} (C : Nat → Int32 → Int32 → Int32 → Int32 → Mm → Option (Int32 × Mm)) (h : okc b K0 n g) (hn : n < 50) (P x e : Int32) : m_X0_runBody C (nI 40) P x e g = bdd (C 0 P (nI 2) x e g) (fun r g5 => some (r * 3, g5)) := by
  rw [m_X0_runBody, h.2.1, ix_nI hn (by omega), gdd_true]
  rfl
theorem rb_41 {b K0 n : Nat} {g : Mm} (C : Nat → Int32 → Int32 → Int32 → Int32 → Mm → Option (Int32 × Mm)) (h : okc b K0 n g) (hn : n < 50) (P x e : Int32) : m_X0_runBody C (nI 41) P x e g = C 0 P (nI 1) (x + 1) e g := by
  rw [m_X0_runBody, h.2.1, ix_nI hn (by omega), gdd_true]
  exact bdd_eta
theorem rb_50 {b K0 n : Nat} {g : Mm} (C : Nat → Int32 → Int32 → Int32 → Int32 → Mm → Option (Int32 × Mm)) (h : okc b K0 n g) (hn : n < 50) (P x e : Int32) : m_X0_runBody C (nI 50) P x e g = bdd (C 0 P (nI 2) x e g) (fun r g5 => bdd (C 0 (nI K0) (nI 0) 2 e g5) (fun s g8 => some (r - s, g8))) := by
  rw [m_X0_runBody, h.2.1, ix_nI hn (by omega), gdd_true, nI_clamp (by omega), h.2.2]
  rfl
theorem rb_60 {b K0 n : Nat} {g : Mm} (C : Nat → Int32 → Int32 → Int32 → Int32 → Mm → Option (Int32 × Mm)) (h : okc b K0 n g) (hn : n < 50) (P x e : Int32) : m_X0_runBody C (nI 60) P x e g = bdd (C 0 P (nI 3) x e g) (fun r g5 => some (r ^^^ 5, g5)) := by
  rw [m_X0_runBody, h.2.1, ix_nI hn (by omega), gdd_true]
  rfl
theorem rb_80 {b K0 n : Nat} {g : Mm} (C : Nat → Int32 → Int32 → Int32 → Int32 → Mm → Option (Int32 × Mm)) (h : okc b K0 n g) (hn : n < 50) (P x e : Int32) : m_X0_runBody C (nI 80) P x e g = bdd (C 0 P (nI 1) x e g) (fun r g5 => bdd (C 0 (nI K0) (nI 2) 2 e g5) (fun s g8 => some (r + s, g8))) := by
  rw [m_X0_runBody, h.2.1, ix_nI hn (by omega), gdd_true, nI_clamp (by omega), h.2.2]
  rfl
theorem rb_81 {b K0 n : Nat} {g : Mm} (C : Nat → Int32 → Int32 → Int32 → Int32 → Mm → Option (Int32 × Mm)) (h : okc b K0 n g) (hn : n < 50) (P x e : Int32) : m_X0_runBody C (nI 81) P x e g = bdd (C 0 P (nI 3) x e g) (fun r g5 => some (r - 1, g5)) := by
  rw [m_X0_runBody, h.2.1, ix_nI hn (by omega), gdd_true]
  rfl
/-! what each act gives, and the bodies that run -/
def vS (K : Nat) (n x : Int32) : Int32 := if K = 1 ∨ K = 5 then x + n + 3 else if K = 6 then (x + n) * 2 else x + n
def lS (K : Nat) : List Nat := if K = 1 ∨ K = 5 then [20, 1] else if K = 6 then [70, 1] else [1]
def vR (K0 K : Nat) (n x : Int32) : Int32 := if K = 3 ∨ K = 7 then (x ^^^ n) * 3 else if K = 4 then (x ^^^ n) - vS K0 n 2 else x ^^^ n
def lR (K0 K : Nat) : List Nat := if K = 3 ∨ K = 7 then [40, 11] else if K = 4 then [50, 11] ++ lS K0 else [11]
def vO (K0 K : Nat) (n x : Int32) : Int32 := if K = 2 then -(vS K0 n x * 2) else if K = 3 then -(vS K0 n (x + 1) * 2) else if K = 7 then -(vS K0 n (x + 1) * 2) + vR K0 K0 n 2 else vS K0 n x * 2
def lO (K0 K : Nat) : List Nat := if K = 2 then 30 :: 10 :: lS K0 else if K = 3 then 41 :: 30 :: 10 :: lS K0 else if K = 7 then (80 :: 41 :: 30 :: 10 :: lS K0) ++ lR K0 K0 else 10 :: lS K0
def vT (K0 K : Nat) (n x : Int32) : Int32 := if K = 5 then (vO K0 K0 n x - vR K0 K0 n 1) ^^^ 5 else if K = 7 then vO K0 K0 n x - vR K0 K0 n 1 - 1 else vO K0 K0 n x - vR K0 K0 n 1
def lT (K0 K : Nat) : List Nat := (if K = 5 then [60] else if K = 7 then [81] else []) ++ (2 :: (lO K0 K0 ++ lR K0 K0))
theorem l_len : ∀ K0, K0 < 8 → ∀ K, K < 8 → (lS K).length ≤ 2 ∧ (lR K0 K).length ≤ 4 ∧ (lO K0 K).length ≤ 10 ∧ (lT K0 K).length ≤ 20 := by decide +kernel
theorem dk_t : ∀ K, K < 8 → (dk K 0 = if K = 1 ∨ K = 5 then 1 else if K = 6 then 6 else 0) ∧ (dk K 1 = if K = 2 then 2 else if K = 3 then 3 else if K = 7 then 7 else 0) ∧ (dk K 2 = if K = 3 ∨ K = 7 then 3 else if K = 4 then 4 else 0) ∧ (dk K 3 = if K = 5 then 5 else if K = 7 then 7 else 0) := by decide +kernel
theorem b_t : bd 0 0 = 1 ∧ bd 1 0 = 20 ∧ bd 6 0 = 70 ∧ bd 0 1 = 10 ∧ bd 2 1 = 30 ∧ bd 3 1 = 41 ∧ bd 7 1 = 80 ∧ bd 0 2 = 11 ∧ bd 3 2 = 40 ∧ bd 4 2 = 50 ∧ bd 0 3 = 2 ∧ bd 5 3 = 60 ∧ bd 7 3 = 81 := by decide +kernel
theorem p_t : pa 0 = 0 ∧ pa 1 = 0 ∧ pa 2 = 0 ∧ pa 3 = 2 ∧ pa 4 = 0 ∧ pa 5 = 1 ∧ pa 6 = 0 ∧ pa 7 = 3 := by decide +kernel
theorem cS0 {b K0 n K dep d : Nat} {g : Mm} (h : okc b K0 n g) (hb : b ≤ 10010) (hn : n < 50) (hK : K < 8) (hd : dep < 40) (e : dk K 0 = 0) (x : Int32) : ga_ (d + 2) 0 (nI K) (nI 0) x (nI dep) g = some (x + nI n, rc [1] g) := by
  rw [ga_call h (by omega) hK (by omega) hd x, e, b_t.1]
  exact rb_1 _ (h.one (by omega) 1) hn _ _ _
theorem cS {b K0 n K dep d : Nat} {g : Mm} (h : okc b K0 n g) (hb : b ≤ 10000) (hn : n < 50) (hK : K < 8) (hd : dep < 39) (x : Int32) : ga_ (d + 4) 0 (nI K) (nI 0) x (nI dep) g = some (vS K (nI n) x, rc (lS K) g) := by
  have e := (dk_t K hK).1
  by_cases z : K = 1 ∨ K = 5
  · rw [if_pos z] at e
    rw [ga_call h (by omega) hK (by omega) (by omega) x, e, b_t.2.1, p_t.2.1, rb_20 _ (h.one (by omega) 20) hn, cS0 (K := 0) (h.one (by omega) 20) (by omega) hn (by omega) (by omega) (by decide), bdd_some, vS, if_pos z, lS, if_pos z]
    rfl
  · rw [if_neg z] at e
    by_cases z2 : K = 6
    · rw [if_pos z2] at e
      rw [ga_call h (by omega) hK (by omega) (by omega) x, e, b_t.2.2.1, p_t.2.2.2.2.2.2.1, rb_70 _ (h.one (by omega) 70) hn, cS0 (K := 0) (h.one (by omega) 70) (by omega) hn (by omega) (by omega) (by decide), bdd_some, vS, if_neg z, if_pos z2, lS, if_neg z, if_pos z2]
      rfl
    · rw [if_neg z2] at e
      rw [cS0 (d := d + 2) h (by omega) hn hK (by omega) e, vS, if_neg z, if_neg z2, lS, if_neg z, if_neg z2]
theorem cR0 {b K0 n K dep d : Nat} {g : Mm} (h : okc b K0 n g) (hb : b ≤ 10010) (hn : n < 50) (hK : K < 8) (hd : dep < 40) (e : dk K 2 = 0) (x : Int32) : ga_ (d + 2) 0 (nI K) (nI 2) x (nI dep) g = some (x ^^^ nI n, rc [11] g) := by
  rw [ga_call h (by omega) hK (by omega) hd x, e, b_t.2.2.2.2.2.2.2.1]
  exact rb_11 _ (h.one (by omega) 11) hn _ _ _
theorem cR {b K0 n K dep d : Nat} {g : Mm} (h : okc b K0 n g) (hb : b ≤ 9000) (hn : n < 50) (hK0 : K0 < 8) (hK : K < 8) (hd : dep < 38) (x : Int32) : ga_ (d + 6) 0 (nI K) (nI 2) x (nI dep) g = some (vR K0 K (nI n) x, rc (lR K0 K) g) := by
  have e := (dk_t K hK).2.2.1
  by_cases z : K = 3 ∨ K = 7
  · rw [if_pos z] at e
    rw [ga_call h (by omega) hK (by omega) (by omega) x, e, b_t.2.2.2.2.2.2.2.2.1, p_t.2.2.2.1, rb_40 _ (h.one (by omega) 40) hn, cR0 (d := d + 2) (K := 2) (h.one (by omega) 40) (by omega) hn (by omega) (by omega) (by decide), bdd_some, vR, if_pos z, lR, if_pos z]
    rfl
  · rw [if_neg z] at e
    by_cases z2 : K = 4
    · rw [if_pos z2] at e
      have h1 := (h.one (by omega) 50)
      have h2 := h1.run (L := [11]) (by omega) (show 1 ≤ 100 by decide)
      rw [ga_call h (by omega) hK (by omega) (by omega) x, e, b_t.2.2.2.2.2.2.2.2.2.1, p_t.2.2.2.2.1, rb_50 _ h1 hn, cR0 (d := d + 2) (K := 0) h1 (by omega) hn (by omega) (by omega) (by decide), bdd_some, cS (d := d) h2 (show b + 1 + 1 ≤ 10000 by omega) hn hK0 (by omega), bdd_some, vR, if_neg z, if_pos z2, lR, if_neg z, if_pos z2]
      rfl
    · rw [if_neg z2] at e
      rw [cR0 (d := d + 4) h (by omega) hn hK (by omega) e, vR, if_neg z, if_neg z2, lR, if_neg z, if_neg z2]
theorem cO0 {b K0 n K dep d : Nat} {g : Mm} (h : okc b K0 n g) (hb : b ≤ 9900) (hn : n < 50) (hK0 : K0 < 8) (hK : K < 8) (hd : dep < 38) (e : dk K 1 = 0) (x : Int32) : ga_ (d + 6) 0 (nI K) (nI 1) x (nI dep) g = some (vS K0 (nI n) x * 2, rc (10 :: lS K0) g) := by
  rw [ga_call h (by omega) hK (by omega) (by omega) x, e, b_t.2.2.2.1, rb_10 _ (h.one (by omega) 10) hn, cS (d := d) (h.one (by omega) 10) (by omega) hn hK0 (by omega), bdd_some]
  rfl
theorem cO2 {b K0 n K dep d : Nat} {g : Mm} (h : okc b K0 n g) (hb : b ≤ 9800) (hn : n < 50) (hK0 : K0 < 8) (hK : K < 8) (hd : dep < 37) (e : dk K 1 = 2) (x : Int32) : ga_ (d + 8) 0 (nI K) (nI 1) x (nI dep) g = some (-(vS K0 (nI n) x * 2), rc (30 :: 10 :: lS K0) g) := by
  rw [ga_call h (by omega) hK (by omega) (by omega) x, e, b_t.2.2.2.2.1, p_t.2.2.1, rb_30 _ (h.one (by omega) 30) hn, cO0 (d := d) (K := 0) (h.one (by omega) 30) (by omega) hn hK0 (by omega) (by omega) (by decide), bdd_some]
  rfl
theorem cO3 {b K0 n K dep d : Nat} {g : Mm} (h : okc b K0 n g) (hb : b ≤ 9700) (hn : n < 50) (hK0 : K0 < 8) (hK : K < 8) (hd : dep < 36) (e : dk K 1 = 3) (x : Int32) : ga_ (d + 10) 0 (nI K) (nI 1) x (nI dep) g = some (-(vS K0 (nI n) (x + 1) * 2), rc (41 :: 30 :: 10 :: lS K0) g) := by
  rw [ga_call h (by omega) hK (by omega) (by omega) x, e, b_t.2.2.2.2.2.1, p_t.2.2.2.1, rb_41 _ (h.one (by omega) 41) hn, cO2 (d := d) (K := 2) (h.one (by omega) 41) (by omega) hn hK0 (by omega) (by omega) (by decide)]
  rfl
theorem cO {b K0 n K dep d : Nat} {g : Mm} (h : okc b K0 n g) (hb : b ≤ 8000) (hn : n < 50) (hK0 : K0 < 8) (hK : K < 8) (hd : dep < 35) (x : Int32) : ga_ (d + 12) 0 (nI K) (nI 1) x (nI dep) g = some (vO K0 K (nI n) x, rc (lO K0 K) g) := by
  have e := (dk_t K hK).2.1
  by_cases z : K = 2
  · rw [if_pos z] at e
    rw [cO2 (d := d + 4) h (by omega) hn hK0 hK (by omega) e, vO, if_pos z, lO, if_pos z]
  · rw [if_neg z] at e
    by_cases z2 : K = 3
    · rw [if_pos z2] at e
      rw [cO3 (d := d + 2) h (by omega) hn hK0 hK (by omega) e, vO, if_neg z, if_pos z2, lO, if_neg z, if_pos z2]
    · rw [if_neg z2] at e
      by_cases z3 : K = 7
      · rw [if_pos z3] at e
        have h1 := (h.one (by omega) 80)
        have hl := (l_len K0 hK0 K0 hK0).1
        have h2 := h1.run (L := 41 :: 30 :: 10 :: lS K0) (by omega) (by simp only [List.length_cons]; omega)
        simp only [List.length_cons] at h2
        rw [ga_call h (by omega) hK (by omega) (by omega) x, e, b_t.2.2.2.2.2.2.1, p_t.2.2.2.2.2.2.2, rb_80 _ h1 hn, cO3 (d := d) (K := 3) h1 (by omega) hn hK0 (by omega) (by omega) (by decide), bdd_some, cR (d := d + 4) h2 (by omega) hn hK0 hK0 (by omega), bdd_some, vO, if_neg z, if_neg z2, if_pos z3, lO, if_neg z, if_neg z2, if_pos z3, show rc ((80 :: 41 :: 30 :: 10 :: lS K0) ++ lR K0 K0) g = rc (lR K0 K0) (rc (41 :: 30 :: 10 :: lS K0) (r1 34 32 3 80 g)) from rr_app 34 32 3 (80 :: 41 :: 30 :: 10 :: lS K0) (lR K0 K0) g]
      · rw [if_neg z3] at e
        rw [cO0 (d := d + 6) h (by omega) hn hK0 hK (by omega) e, vO, if_neg z, if_neg z2, if_neg z3, lO, if_neg z, if_neg z2, if_neg z3]
theorem cT0 {b K0 n K dep d : Nat} {g : Mm} (h : okc b K0 n g) (hb : b ≤ 7500) (hn : n < 50) (hK0 : K0 < 8) (hK : K < 8) (hd : dep < 34) (e : dk K 3 = 0) (x : Int32) : ga_ (d + 14) 0 (nI K) (nI 3) x (nI dep) g = some (vO K0 K0 (nI n) x - vR K0 K0 (nI n) 1, rc (2 :: (lO K0 K0 ++ lR K0 K0)) g) := by
  have h1 := (h.one (by omega) 2)
  have hl := (l_len K0 hK0 K0 hK0).2.2.1
  have h2 := h1.run (L := lO K0 K0) (by omega) (by omega)
  rw [ga_call h (by omega) hK (by omega) (by omega) x, e, b_t.2.2.2.2.2.2.2.2.2.2.1, rb_2 _ h1 hn, cO (d := d) h1 (by omega) hn hK0 hK0 (by omega), bdd_some, cR (d := d + 6) h2 (by omega) hn hK0 hK0 (by omega), bdd_some]
  rw [show rc (2 :: (lO K0 K0 ++ lR K0 K0)) g = rc (lR K0 K0) (rc (lO K0 K0) (r1 34 32 3 2 g)) from rr_app 34 32 3 (lO K0 K0) (lR K0 K0) _]
theorem cT {b K0 n K dep d : Nat} {g : Mm} (h : okc b K0 n g) (hb : b ≤ 7000) (hn : n < 50) (hK0 : K0 < 8) (hK : K < 8) (hd : dep < 33) (x : Int32) : ga_ (d + 16) 0 (nI K) (nI 3) x (nI dep) g = some (vT K0 K (nI n) x, rc (lT K0 K) g) := by
  have e := (dk_t K hK).2.2.2
  by_cases z : K = 5
  · rw [if_pos z] at e
    rw [ga_call h (by omega) hK (by omega) (by omega) x, e, b_t.2.2.2.2.2.2.2.2.2.2.2.1, p_t.2.2.2.2.2.1, rb_60 _ (h.one (by omega) 60) hn, cT0 (d := d) (K := 1) (h.one (by omega) 60) (by omega) hn hK0 (by omega) (by omega) (by decide), bdd_some, vT, if_pos z, lT, if_pos z]
    rfl
  · rw [if_neg z] at e
    by_cases z2 : K = 7
    · rw [if_pos z2] at e
      rw [ga_call h (by omega) hK (by omega) (by omega) x, e, b_t.2.2.2.2.2.2.2.2.2.2.2.2, p_t.2.2.2.2.2.2.2, rb_81 _ (h.one (by omega) 81) hn, cT0 (d := d) (K := 3) (h.one (by omega) 81) (by omega) hn hK0 (by omega) (by omega) (by decide), bdd_some, vT, if_neg z, if_pos z2, lT, if_neg z, if_pos z2]
      rfl
    · rw [if_neg z2] at e
      rw [cT0 (d := d + 2) h (by omega) hn hK0 hK (by omega) e, vT, if_neg z, if_neg z2, lT, if_neg z, if_neg z2]
      rfl
/-! the reference's acts -/
theorem runs_m {b K0 n v : Nat} {g : Mm} (h : okm b K0 n g) (hb : b ≤ 20000) : m_X10_runs (nI v) g = some (nI 0, r1 57 40 42 v g) := by
  obtain ⟨⟨c, hc, h1⟩, h2, h3⟩ := h
  rw [m_X10_runs, r1, h1]
  by_cases q : 24 ≤ c
  · have hq : (24 : Int32) ≤ nI c := (nI_leI (a := 24) (b := c) (by omega) (by omega)).mpr q
    rw [if_pos hq, if_pos hq]
    rfl
  · have hq : ¬ (24 : Int32) ≤ nI c := fun y => q ((nI_leI (a := 24) (b := c) (by omega) (by omega)).mp y)
    rw [if_neg hq, if_neg hq, ix_nI (by omega) (by omega), gdd_true, rI_wI, if_neg (by omega), h1]
    rfl
def ab (K : Nat) : Nat := if K = 3 then 2 else if K = 5 then 1 else if K = 7 then 3 else 0
theorem ab_m {K : Nat} (hK : K < 8) (h0 : K ≠ 0) (g : Mm) : m_X10_above (nI K) g = some (nI (ab K), g) := by
  rcases (by omega : K = 1 ∨ K = 2 ∨ K = 3 ∨ K = 4 ∨ K = 5 ∨ K = 6 ∨ K = 7) with rfl | rfl | rfl | rfl | rfl | rfl | rfl <;> rfl
theorem g1_s (d : Nat) (a x y z : Int32) (g : Mm) : g1_ (d + 1) 0 a x y z g = m_X10_strikesBy (g1_ d) a x g := rfl
theorem g2_s (d : Nat) (a x y z : Int32) (g : Mm) : g2_ (d + 1) 0 a x y z g = m_X10_soundsBy (g2_ d) a x g := rfl
theorem g3_s (d : Nat) (a x y z : Int32) (g : Mm) : g3_ (d + 1) 0 a x y z g = m_X10_restsBy (g3_ d) a x g := rfl
theorem g4_s (d : Nat) (a x y z : Int32) (g : Mm) : g4_ (d + 1) 0 a x y z g = m_X10_tellsOf (g4_ d) a x g := rfl
theorem e_n {a b : Nat} (ha : a < 100) (hb : b < 100) (h : a ≠ b) : ¬ nI a = nI b := fun y => h ((nI_eq (by omega) (by omega)).mp y)
theorem mS0 {b K0 n d : Nat} {g : Mm} (h : okm b K0 n g) (hb : b ≤ 10010) (x y z : Int32) : g1_ (d + 1) 0 (nI 0) x y z g = some (x + nI n, rm [1] g) := by
  rw [g1_s, m_X10_strikesBy, if_neg (show ¬ nI 0 = (1 : Int32) by decide), if_neg (show ¬ nI 0 = (6 : Int32) by decide), if_pos (show nI 0 = (0 : Int32) from rfl), show (1 : Int32) = nI 1 from rfl, runs_m h (by omega), bdd_some, (h.one (by omega) 1).2.2]
  rfl
theorem mSu {K d : Nat} {g : Mm} (hK : K < 8) (h0 : K ≠ 0) (h1 : K ≠ 1) (h6 : K ≠ 6) (x y z : Int32) : g1_ (d + 1) 0 (nI K) x y z g = g1_ d 0 (nI (ab K)) x 0 0 g := by
  rw [g1_s, m_X10_strikesBy, if_neg (show ¬ nI K = (1 : Int32) from e_n (b := 1) (by omega) (by omega) h1), if_neg (show ¬ nI K = (6 : Int32) from e_n (b := 6) (by omega) (by omega) h6), if_neg (show ¬ nI K = (0 : Int32) from e_n (b := 0) (by omega) (by omega) h0), ab_m hK h0, bdd_some, bdd_eta]
theorem mS1 {b K0 n d : Nat} {g : Mm} (h : okm b K0 n g) (hb : b ≤ 10000) (x y z : Int32) : g1_ (d + 2) 0 (nI 1) x y z g = some (x + nI n + 3, rm [20, 1] g) := by
  rw [g1_s, m_X10_strikesBy, if_pos (show nI 1 = (1 : Int32) from rfl), show (20 : Int32) = nI 20 from rfl, runs_m h (by omega), bdd_some, show (0 : Int32) = nI 0 from rfl, mS0 (d := d) (h.one (by omega) 20) (by omega), bdd_some]
  rfl
theorem mS {b K0 n K d : Nat} {g : Mm} (h : okm b K0 n g) (hb : b ≤ 10000) (hK : K < 8) (x y z : Int32) : g1_ (d + 4) 0 (nI K) x y z g = some (vS K (nI n) x, rm (lS K) g) := by
  rcases (by omega : K = 0 ∨ K = 1 ∨ K = 2 ∨ K = 3 ∨ K = 4 ∨ K = 5 ∨ K = 6 ∨ K = 7) with rfl | rfl | rfl | rfl | rfl | rfl | rfl | rfl
  · exact mS0 (d := d + 3) h (by omega) x y z
  · exact mS1 (d := d + 2) h hb x y z
  · rw [mSu (d := d + 3) hK (by decide) (by decide) (by decide)]
    exact mS0 (d := d + 2) h (by omega) x 0 0
  · rw [mSu (d := d + 3) hK (by decide) (by decide) (by decide), show ab 3 = 2 from rfl, mSu (d := d + 2) (by decide) (by decide) (by decide) (by decide)]
    exact mS0 (d := d + 1) h (by omega) x 0 0
  · rw [mSu (d := d + 3) hK (by decide) (by decide) (by decide)]
    exact mS0 (d := d + 2) h (by omega) x 0 0
  · rw [mSu (d := d + 3) hK (by decide) (by decide) (by decide)]
    exact mS1 (d := d + 1) h hb x 0 0
  · rw [g1_s, m_X10_strikesBy, if_neg (show ¬ nI 6 = (1 : Int32) by decide), if_pos (show nI 6 = (6 : Int32) from rfl), show (70 : Int32) = nI 70 from rfl, runs_m h (by omega), bdd_some, show (0 : Int32) = nI 0 from rfl, mS0 (d := d + 2) (h.one (by omega) 70) (by omega), bdd_some]
    rfl
  · rw [mSu (d := d + 3) hK (by decide) (by decide) (by decide), show ab 7 = 3 from rfl, mSu (d := d + 2) (by decide) (by decide) (by decide) (by decide), show ab 3 = 2 from rfl, mSu (d := d + 1) (by decide) (by decide) (by decide) (by decide)]
    exact mS0 (d := d) h (by omega) x 0 0
theorem mR0 {b K0 n d : Nat} {g : Mm} (h : okm b K0 n g) (hb : b ≤ 10010) (x y z : Int32) : g3_ (d + 1) 0 (nI 0) x y z g = some (x ^^^ nI n, rm [11] g) := by
  rw [g3_s, m_X10_restsBy, if_neg (show ¬ nI 0 = (3 : Int32) by decide), if_neg (show ¬ nI 0 = (4 : Int32) by decide), if_pos (show nI 0 = (0 : Int32) from rfl), show (11 : Int32) = nI 11 from rfl, runs_m h (by omega), bdd_some, (h.one (by omega) 11).2.2]
  rfl
theorem mRu {K d : Nat} {g : Mm} (hK : K < 8) (h0 : K ≠ 0) (h1 : K ≠ 3) (h6 : K ≠ 4) (x y z : Int32) : g3_ (d + 1) 0 (nI K) x y z g = g3_ d 0 (nI (ab K)) x 0 0 g := by
  rw [g3_s, m_X10_restsBy, if_neg (show ¬ nI K = (3 : Int32) from e_n (b := 3) (by omega) (by omega) h1), if_neg (show ¬ nI K = (4 : Int32) from e_n (b := 4) (by omega) (by omega) h6), if_neg (show ¬ nI K = (0 : Int32) from e_n (b := 0) (by omega) (by omega) h0), ab_m hK h0, bdd_some, bdd_eta]
theorem mR3 {b K0 n d : Nat} {g : Mm} (h : okm b K0 n g) (hb : b ≤ 9500) (x y z : Int32) : g3_ (d + 3) 0 (nI 3) x y z g = some ((x ^^^ nI n) * 3, rm [40, 11] g) := by
  rw [g3_s, m_X10_restsBy, if_pos (show nI 3 = (3 : Int32) from rfl), show (40 : Int32) = nI 40 from rfl, runs_m h (by omega), bdd_some, show (2 : Int32) = nI 2 from rfl, show (0 : Int32) = nI 0 from rfl, mRu (d := d + 1) (K := 2) (by decide) (by decide) (by decide) (by decide), show ab 2 = 0 from rfl, mR0 (d := d) (h.one (by omega) 40) (by omega), bdd_some]
  rfl
theorem mR {b K0 n K d : Nat} {g : Mm} (h : okm b K0 n g) (hb : b ≤ 9000) (hK0 : K0 < 8) (hK : K < 8) (x y z : Int32) : g3_ (d + 4) 0 (nI K) x y z g = some (vR K0 K (nI n) x, rm (lR K0 K) g) := by
  rcases (by omega : K = 0 ∨ K = 1 ∨ K = 2 ∨ K = 3 ∨ K = 4 ∨ K = 5 ∨ K = 6 ∨ K = 7) with rfl | rfl | rfl | rfl | rfl | rfl | rfl | rfl
  · exact mR0 (d := d + 3) h (by omega) x y z
  · rw [mRu (d := d + 3) hK (by decide) (by decide) (by decide)]
    exact mR0 (d := d + 2) h (by omega) x 0 0
  · rw [mRu (d := d + 3) hK (by decide) (by decide) (by decide)]
    exact mR0 (d := d + 2) h (by omega) x 0 0
  · exact mR3 (d := d + 1) h (by omega) x y z
  · have h1 := h.one (by omega) 50
    have h2 := h1.run (L := [11]) (by omega) (show 1 ≤ 100 by decide)
    rw [g3_s, m_X10_restsBy, if_neg (show ¬ nI 4 = (3 : Int32) by decide), if_pos (show nI 4 = (4 : Int32) from rfl), show (50 : Int32) = nI 50 from rfl, runs_m h (by omega), bdd_some, show (0 : Int32) = nI 0 from rfl, mR0 (d := d + 2) h1 (by omega), bdd_some, h2.2.1, show (8 : Nat) = 4 + 4 from rfl, mS (d := 4) h2 (show b + 1 + 1 ≤ 10000 by omega) hK0, bdd_some]
    rfl
  · rw [mRu (d := d + 3) hK (by decide) (by decide) (by decide), show ab 5 = 1 from rfl, mRu (d := d + 2) (by decide) (by decide) (by decide) (by decide)]
    exact mR0 (d := d + 1) h (by omega) x 0 0
  · rw [mRu (d := d + 3) hK (by decide) (by decide) (by decide)]
    exact mR0 (d := d + 2) h (by omega) x 0 0
  · rw [mRu (d := d + 3) hK (by decide) (by decide) (by decide)]
    exact mR3 (d := d) h (by omega) x 0 0
theorem mO0 {b K0 n d : Nat} {g : Mm} (h : okm b K0 n g) (hb : b ≤ 9900) (hK0 : K0 < 8) (x y z : Int32) : g2_ (d + 1) 0 (nI 0) x y z g = some (vS K0 (nI n) x * 2, rm (10 :: lS K0) g) := by
  have h1 := h.one (by omega) 10
  rw [g2_s, m_X10_soundsBy, if_neg (show ¬ nI 0 = (2 : Int32) by decide), if_neg (show ¬ nI 0 = (3 : Int32) by decide), if_neg (show ¬ nI 0 = (7 : Int32) by decide), if_pos (show nI 0 = (0 : Int32) from rfl), show (10 : Int32) = nI 10 from rfl, runs_m h (by omega), bdd_some, h1.2.1, show (8 : Nat) = 4 + 4 from rfl, mS (d := 4) h1 (by omega) hK0, bdd_some]
  rfl
theorem mOu {K d : Nat} {g : Mm} (hK : K < 8) (h0 : K ≠ 0) (h1 : K ≠ 2) (h2 : K ≠ 3) (h3 : K ≠ 7) (x y z : Int32) : g2_ (d + 1) 0 (nI K) x y z g = g2_ d 0 (nI (ab K)) x 0 0 g := by
  rw [g2_s, m_X10_soundsBy, if_neg (show ¬ nI K = (2 : Int32) from e_n (b := 2) (by omega) (by omega) h1), if_neg (show ¬ nI K = (3 : Int32) from e_n (b := 3) (by omega) (by omega) h2), if_neg (show ¬ nI K = (7 : Int32) from e_n (b := 7) (by omega) (by omega) h3), if_neg (show ¬ nI K = (0 : Int32) from e_n (b := 0) (by omega) (by omega) h0), ab_m hK h0, bdd_some, bdd_eta]
theorem mO2 {b K0 n d : Nat} {g : Mm} (h : okm b K0 n g) (hb : b ≤ 9800) (hK0 : K0 < 8) (x y z : Int32) : g2_ (d + 2) 0 (nI 2) x y z g = some (-(vS K0 (nI n) x * 2), rm (30 :: 10 :: lS K0) g) := by
  rw [g2_s, m_X10_soundsBy, if_pos (show nI 2 = (2 : Int32) from rfl), show (30 : Int32) = nI 30 from rfl, runs_m h (by omega), bdd_some, show (0 : Int32) = nI 0 from rfl, mO0 (d := d) (h.one (by omega) 30) (by omega) hK0, bdd_some]
  rfl
theorem mO3 {b K0 n d : Nat} {g : Mm} (h : okm b K0 n g) (hb : b ≤ 9700) (hK0 : K0 < 8) (x y z : Int32) : g2_ (d + 3) 0 (nI 3) x y z g = some (-(vS K0 (nI n) (x + 1) * 2), rm (41 :: 30 :: 10 :: lS K0) g) := by
  rw [g2_s, m_X10_soundsBy, if_neg (show ¬ nI 3 = (2 : Int32) by decide), if_pos (show nI 3 = (3 : Int32) from rfl), show (41 : Int32) = nI 41 from rfl, runs_m h (by omega), bdd_some, show (2 : Int32) = nI 2 from rfl, mO2 (d := d) (h.one (by omega) 41) (by omega) hK0, bdd_some]
  rfl
theorem mO {b K0 n K d : Nat} {g : Mm} (h : okm b K0 n g) (hb : b ≤ 8000) (hK0 : K0 < 8) (hK : K < 8) (x y z : Int32) : g2_ (d + 4) 0 (nI K) x y z g = some (vO K0 K (nI n) x, rm (lO K0 K) g) := by
  rcases (by omega : K = 0 ∨ K = 1 ∨ K = 2 ∨ K = 3 ∨ K = 4 ∨ K = 5 ∨ K = 6 ∨ K = 7) with rfl | rfl | rfl | rfl | rfl | rfl | rfl | rfl
  · exact mO0 (d := d + 3) h (by omega) hK0 x y z
  · rw [mOu (d := d + 3) hK (by decide) (by decide) (by decide) (by decide)]
    exact mO0 (d := d + 2) h (by omega) hK0 x 0 0
  · exact mO2 (d := d + 2) h (by omega) hK0 x y z
  · exact mO3 (d := d + 1) h (by omega) hK0 x y z
  · rw [mOu (d := d + 3) hK (by decide) (by decide) (by decide) (by decide)]
    exact mO0 (d := d + 2) h (by omega) hK0 x 0 0
  · rw [mOu (d := d + 3) hK (by decide) (by decide) (by decide) (by decide), show ab 5 = 1 from rfl, mOu (d := d + 2) (by decide) (by decide) (by decide) (by decide) (by decide)]
    exact mO0 (d := d + 1) h (by omega) hK0 x 0 0
  · rw [mOu (d := d + 3) hK (by decide) (by decide) (by decide) (by decide)]
    exact mO0 (d := d + 2) h (by omega) hK0 x 0 0
  · have h1 := h.one (by omega) 80
    have hl := (l_len K0 hK0 K0 hK0).1
    have h2 := h1.run (L := 41 :: 30 :: 10 :: lS K0) (by omega) (by simp only [List.length_cons]; omega)
    simp only [List.length_cons] at h2
    rw [g2_s, m_X10_soundsBy, if_neg (show ¬ nI 7 = (2 : Int32) by decide), if_neg (show ¬ nI 7 = (3 : Int32) by decide), if_pos (show nI 7 = (7 : Int32) from rfl), show (80 : Int32) = nI 80 from rfl, runs_m h (by omega), bdd_some, show (3 : Int32) = nI 3 from rfl, mO3 (d := d) h1 (by omega) hK0, bdd_some, h2.2.1, show (10 : Nat) = 6 + 4 from rfl, mR (d := 6) h2 (by omega) hK0 hK0, bdd_some,
      show rm (lO K0 7) g = rm (lR K0 K0) (rm (41 :: 30 :: 10 :: lS K0) (r1 57 40 42 80 g)) from rr_app 57 40 42 (80 :: 41 :: 30 :: 10 :: lS K0) (lR K0 K0) g]
    rfl
theorem mT0 {b K0 n d : Nat} {g : Mm} (h : okm b K0 n g) (hb : b ≤ 7500) (hK0 : K0 < 8) (x y z : Int32) : g4_ (d + 1) 0 (nI 0) x y z g = some (vO K0 K0 (nI n) x - vR K0 K0 (nI n) 1, rm (2 :: (lO K0 K0 ++ lR K0 K0)) g) := by
  have h1 := (h.one (by omega) 2)
  have hl := (l_len K0 hK0 K0 hK0).2.2.1
  have h2 := h1.run (L := lO K0 K0) (by omega) (by omega)
  rw [g4_s, m_X10_tellsOf, if_neg (show ¬ nI 0 = (5 : Int32) by decide), if_neg (show ¬ nI 0 = (7 : Int32) by decide), if_pos (show nI 0 = (0 : Int32) from rfl), show (2 : Int32) = nI 2 from rfl, runs_m h (by omega), bdd_some, h1.2.1, show (12 : Nat) = 8 + 4 from rfl, mO (d := 8) h1 (by omega) hK0 hK0, bdd_some, h2.2.1, show (10 : Nat) = 6 + 4 from rfl, mR (d := 6) h2 (by omega) hK0 hK0, bdd_some,
    show rm (2 :: (lO K0 K0 ++ lR K0 K0)) g = rm (lR K0 K0) (rm (lO K0 K0) (r1 57 40 42 2 g)) from rr_app 57 40 42 (lO K0 K0) (lR K0 K0) _]
theorem mTu {K d : Nat} {g : Mm} (hK : K < 8) (h0 : K ≠ 0) (h1 : K ≠ 5) (h6 : K ≠ 7) (x y z : Int32) : g4_ (d + 1) 0 (nI K) x y z g = g4_ d 0 (nI (ab K)) x 0 0 g := by
  rw [g4_s, m_X10_tellsOf, if_neg (show ¬ nI K = (5 : Int32) from e_n (b := 5) (by omega) (by omega) h1), if_neg (show ¬ nI K = (7 : Int32) from e_n (b := 7) (by omega) (by omega) h6), if_neg (show ¬ nI K = (0 : Int32) from e_n (b := 0) (by omega) (by omega) h0), ab_m hK h0, bdd_some, bdd_eta]
theorem mT3 {b K0 n d : Nat} {g : Mm} (h : okm b K0 n g) (hb : b ≤ 7500) (hK0 : K0 < 8) (x y z : Int32) : g4_ (d + 3) 0 (nI 3) x y z g = some (vO K0 K0 (nI n) x - vR K0 K0 (nI n) 1, rm (2 :: (lO K0 K0 ++ lR K0 K0)) g) := by
  rw [mTu (d := d + 2) (by decide) (by decide) (by decide) (by decide), show ab 3 = 2 from rfl, mTu (d := d + 1) (by decide) (by decide) (by decide) (by decide)]
  exact mT0 (d := d) h hb hK0 x 0 0
theorem mT {b K0 n K d : Nat} {g : Mm} (h : okm b K0 n g) (hb : b ≤ 7000) (hK0 : K0 < 8) (hK : K < 8) (x y z : Int32) : g4_ (d + 4) 0 (nI K) x y z g = some (vT K0 K (nI n) x, rm (lT K0 K) g) := by
  rcases (by omega : K = 0 ∨ K = 1 ∨ K = 2 ∨ K = 3 ∨ K = 4 ∨ K = 5 ∨ K = 6 ∨ K = 7) with rfl | rfl | rfl | rfl | rfl | rfl | rfl | rfl
  · exact mT0 (d := d + 3) h (by omega) hK0 x y z
  · rw [mTu (d := d + 3) hK (by decide) (by decide) (by decide)]
    exact mT0 (d := d + 2) h (by omega) hK0 x 0 0
  · rw [mTu (d := d + 3) hK (by decide) (by decide) (by decide)]
    exact mT0 (d := d + 2) h (by omega) hK0 x 0 0
  · exact mT3 (d := d + 1) h (by omega) hK0 x y z
  · rw [mTu (d := d + 3) hK (by decide) (by decide) (by decide)]
    exact mT0 (d := d + 2) h (by omega) hK0 x 0 0
  · rw [g4_s, m_X10_tellsOf, if_pos (show nI 5 = (5 : Int32) from rfl), show (60 : Int32) = nI 60 from rfl, runs_m h (by omega), bdd_some, show (1 : Int32) = nI 1 from rfl, mTu (d := d + 2) (K := 1) (by decide) (by decide) (by decide) (by decide), show ab 1 = 0 from rfl, mT0 (d := d + 1) (h.one (by omega) 60) (by omega) hK0, bdd_some]
    rfl
  · rw [mTu (d := d + 3) hK (by decide) (by decide) (by decide)]
    exact mT0 (d := d + 2) h (by omega) hK0 x 0 0
  · rw [g4_s, m_X10_tellsOf, if_neg (show ¬ nI 7 = (5 : Int32) by decide), if_pos (show nI 7 = (7 : Int32) from rfl), show (81 : Int32) = nI 81 from rfl, runs_m h (by omega), bdd_some, show (3 : Int32) = nI 3 from rfl, mT3 (d := d) (h.one (by omega) 81) (by omega) hK0, bdd_some]
    rfl
theorem act_kp {g : Mm} {L : List Nat} {n K0 : Nat} (hL : L.length ≤ 100) : ∀ x k, rdI (rm L (wrI (wrI (wrI (rc L (wrI (wrI g 32 3 0) 32 4 (nI n))) 40 42 0) 40 43 (nI K0)) 40 44 (nI n))) x k =
    if x = 40 ∧ k = 42 then nI L.length else if x = 57 ∧ k < L.length ∧ k < 24 then nI (L.getD k 0) else if x = 40 ∧ k = 44 then nI n else if x = 40 ∧ k = 43 then nI K0 else if x = 32 ∧ k = 3 then nI L.length else if x = 34 ∧ k < L.length ∧ k < 24 then nI (L.getD k 0) else if x = 32 ∧ k = 4 then nI n else rdI g x k := by
  intro x k
  obtain ⟨e, -⟩ := rr_read (T := 57) (cc := 40) (ci := 42) (by decide) L 0 (wrI (wrI (wrI (rc L (wrI (wrI g 32 3 0) 32 4 (nI n))) 40 42 0) 40 43 (nI K0)) 40 44 (nI n)) (by rw [rI_wI, if_neg (by omega), rI_wI, if_neg (by omega), rI_wI, if_pos ⟨rfl, rfl⟩]; rfl) (by omega)
  obtain ⟨e2, -⟩ := rr_read (T := 34) (cc := 32) (ci := 3) (by decide) L 0 (wrI (wrI g 32 3 0) 32 4 (nI n)) (by rw [rI_wI, if_neg (by omega), rI_wI, if_pos ⟨rfl, rfl⟩]; rfl) (by omega)
  rw [e, Nat.zero_add]
  by_cases z1 : x = 40 ∧ k = 42
  · rw [if_pos z1, if_pos z1]
  · rw [if_neg z1, if_neg z1]
    by_cases z2 : x = 57 ∧ k < L.length ∧ k < 24
    · rw [if_pos (by omega), if_pos z2]
      rfl
    · rw [if_neg (by omega), if_neg z2, rI_wI]
      by_cases z3 : x = 40 ∧ k = 44
      · rw [if_pos z3, if_pos z3]
      · rw [if_neg z3, if_neg z3, rI_wI]
        by_cases z4 : x = 40 ∧ k = 43
        · rw [if_pos z4, if_pos z4]
        · rw [if_neg z4, if_neg z4, rI_wI, if_neg z1, e2, Nat.zero_add]
          by_cases z5 : x = 32 ∧ k = 3
          · rw [if_pos z5, if_pos z5]
          · rw [if_neg z5, if_neg z5]
            by_cases z6 : x = 34 ∧ k < L.length ∧ k < 24
            · rw [if_pos (by omega), if_pos z6]
              rfl
            · rw [if_neg (by omega), if_neg z6, rI_wI]
              by_cases z7 : x = 32 ∧ k = 4
              · rw [if_pos z7, if_pos z7]
              · rw [if_neg z7, if_neg z7, rI_wI, if_neg z5]
theorem act_gv {g : Mm} {L : List Nat} {n K0 : Nat} (hLn : L.length ≤ 100) (hg : gv_ g) : gv_ (rm L (wrI (wrI (wrI (rc L (wrI (wrI g 32 3 0) 32 4 (nI n))) 40 42 0) 40 43 (nI K0)) 40 44 (nI n))) := by
  obtain ⟨nb, nh, hd, cd, ck, tl, rt, nn, na, ra, f, hT, hX, hC, hP, hL, hE, hA, hS⟩ := hg
  have hk := act_kp (g := g) (n := n) (K0 := K0) hLn
  have h2 : (rm L (wrI (wrI (wrI (rc L (wrI (wrI g 32 3 0) 32 4 (nI n))) 40 42 0) 40 43 (nI K0)) 40 44 (nI n))).2 = g.2 := by
    rw [(rr_read (T := 57) (cc := 40) (ci := 42) (by decide) L 0 (wrI (wrI (wrI (rc L (wrI (wrI g 32 3 0) 32 4 (nI n))) 40 42 0) 40 43 (nI K0)) 40 44 (nI n)) (by rw [rI_wI, if_neg (by omega), rI_wI, if_neg (by omega), rI_wI, if_pos ⟨rfl, rfl⟩]; rfl) (by omega)).2]
    show (rc L (wrI (wrI g 32 3 0) 32 4 (nI n))).2 = g.2
    rw [(rr_read (T := 34) (cc := 32) (ci := 3) (by decide) L 0 (wrI (wrI g 32 3 0) 32 4 (nI n)) (by rw [rI_wI, if_neg (by omega), rI_wI, if_pos ⟨rfl, rfl⟩]; rfl) (by omega)).2]
    rfl
  generalize rm L (wrI (wrI (wrI (rc L (wrI (wrI g 32 3 0) 32 4 (nI n))) 40 42 0) 40 43 (nI K0)) 40 44 (nI n)) = g2 at hk h2
  have kp : ∀ P : Nat → Nat → Bool, (∀ i, P 57 i = false) → (∀ i, P 34 i = false) → P 40 42 = false → P 40 43 = false → P 40 44 = false → (∀ i, P 32 i = false) → kp_ P g g2 := fun P q1 q2 q3 q4 q5 q6 x k hc => by
    have r1 : x ≠ 57 := by rintro rfl; rw [q1] at hc; cases hc
    have r2 : x ≠ 34 := by rintro rfl; rw [q2] at hc; cases hc
    have r3 : ¬ (x = 40 ∧ k = 42) := by rintro ⟨rfl, rfl⟩; rw [q3] at hc; cases hc
    have r4 : ¬ (x = 40 ∧ k = 43) := by rintro ⟨rfl, rfl⟩; rw [q4] at hc; cases hc
    have r5 : ¬ (x = 40 ∧ k = 44) := by rintro ⟨rfl, rfl⟩; rw [q5] at hc; cases hc
    have r6 : x ≠ 32 := by rintro rfl; rw [q6] at hc; cases hc
    rw [hk, if_neg r3, if_neg (by omega), if_neg r5, if_neg r4, if_neg (by omega), if_neg (by omega), if_neg (by omega)]
  refine ⟨nb, nh, hd, cd, ck, tl, rt, nn, na, L.length, f, hT.cong (kp _ (fun _ => rfl) (fun _ => rfl) rfl rfl rfl (fun _ => rfl)), hX.cong (kp _ (fun _ => rfl) (fun _ => rfl) rfl rfl rfl (fun _ => rfl)), hC.cong (kp _ (fun _ => rfl) (fun _ => rfl) rfl rfl rfl (fun _ => rfl)), hP.cong (kp _ (fun _ => rfl) (fun _ => rfl) rfl rfl rfl (fun _ => rfl)), ?_, hE.cong (kp _ (fun _ => rfl) (fun _ => rfl) rfl rfl rfl (fun _ => rfl)), ?_, hS.cong (kp _ (fun _ => rfl) (fun _ => rfl) rfl rfl rfl (fun _ => rfl)) (fun i => by unfold rdL; rw [h2]; exact ⟨rfl, rfl⟩)⟩
  · refine hL.cong ?_
    rcases hL.1 with ⟨rfl, -⟩ | ⟨rfl, -⟩ <;> exact kp _ (fun _ => rfl) (fun _ => rfl) rfl rfl rfl (fun _ => rfl)
  · obtain ⟨⟨hna, hra⟩, ⟨e1, e2, e3, e4⟩, e5, e6⟩ := hA
    refine ⟨⟨hna, by omega⟩, ⟨?_, ?_, ?_, ?_⟩, fun k hk1 => ?_, fun k hk1 hk2 => ?_⟩
    · rw [hk, if_neg (by omega), if_neg (by omega), if_neg (by omega), if_neg (by omega), if_neg (by omega), if_neg (by omega), if_neg (by omega), e1]
    · rw [hk, if_neg (by omega), if_neg (by omega), if_neg (by omega), if_neg (by omega), if_neg (by omega), if_neg (by omega), if_neg (by omega), e2]
    · rw [hk, if_neg (by omega), if_neg (by omega), if_neg (by omega), if_neg (by omega), if_pos (by omega)]
    · rw [hk, if_pos (by omega)]
    · rw [hk 56, if_neg (by omega), if_neg (by omega), if_neg (by omega), if_neg (by omega), if_neg (by omega), if_neg (by omega), if_neg (by omega), hk 33, if_neg (by omega), if_neg (by omega), if_neg (by omega), if_neg (by omega), if_neg (by omega), if_neg (by omega), if_neg (by omega)]
      exact e5 k hk1
    · rw [hk 57, if_neg (by omega), if_pos (by omega), hk 34, if_neg (by omega), if_neg (by omega), if_neg (by omega), if_neg (by omega), if_neg (by omega), if_pos (by omega)]
theorem act_none {g : Mm} (hg : gv_ g) : gv_ (wrI (wrI g 32 3 0) 40 42 0) := by
  obtain ⟨nb, nh, hd, cd, ck, tl, rt, nn, na, ra, f, hT, hX, hC, hP, hL, hE, hA, hS⟩ := hg
  refine ⟨nb, nh, hd, cd, ck, tl, rt, nn, na, 0, f, hT.cong (kp_w rfl (kp_w rfl kp_rf)), hX.cong (kp_w rfl (kp_w rfl kp_rf)), hC.cong (kp_w rfl (kp_w rfl kp_rf)), hP.cong (kp_w rfl (kp_w rfl kp_rf)), ?_, hE.cong (kp_w rfl (kp_w rfl kp_rf)), ?_, hS.cong (kp_w rfl (kp_w rfl kp_rf)) (fun i => ⟨rfl, rfl⟩)⟩
  · refine hL.cong ?_
    rcases hL.1 with ⟨rfl, -⟩ | ⟨rfl, -⟩ <;> exact (kp_w rfl (kp_w rfl kp_rf))
  · obtain ⟨⟨hna, hra⟩, ⟨e1, e2, e3, e4⟩, e5, e6⟩ := hA
    refine ⟨⟨hna, by omega⟩, ⟨?_, ?_, ?_, ?_⟩, fun k hk1 => ?_, fun k hk1 hk2 => by omega⟩
    · rw [rI_wI, if_neg (by omega), rI_wI, if_neg (by omega), e1]
    · rw [rI_wI, if_neg (by omega), rI_wI, if_neg (by omega), e2]
    · rw [rI_wI, if_neg (by omega), rI_wI, if_pos ⟨rfl, rfl⟩]; rfl
    · rw [rI_wI, if_pos ⟨rfl, rfl⟩]; rfl
    · rw [rI_wI, if_neg (by omega), rI_wI, if_neg (by omega), rI_wI, if_neg (by omega), rI_wI, if_neg (by omega)]
      exact e5 k hk1
theorem op_act (a0 a1 a2 : Int32) {g : Mm} (hg : gv_ g) : al_ (m_X9_act a0 a1 a2) (m_X10_act a0 a1 a2) g := by
  have hg0 := hg
  obtain ⟨nb, nh, hd, cd, ck, tl, rt, nn, na, ra, f, hT, hX, hC, hP, hL, hE, hA, hS⟩ := hg
  obtain ⟨⟨hna, hra⟩, ⟨e1, e2, e3, e4⟩, e5, e6⟩ := id hA
  have c1 : rdI (wrI g 32 3 0) 32 2 = nI na := by rw [rI_wI, if_neg (by omega), e1]
  have m1 : rdI (wrI (wrI g 32 3 0) 40 42 0) 40 40 = nI na := by rw [rI_wI, if_neg (by omega), rI_wI, if_neg (by omega), e2]
  have none_ : m_X0_perform a0 a1 a2 g = some (0, wrI g 32 3 0) → m_X10_act a0 a1 a2 (wrI g 32 3 0) = some (0, wrI (wrI g 32 3 0) 40 42 0) → al_ (m_X9_act a0 a1 a2) (m_X10_act a0 a1 a2) g := fun h1 h2 => ⟨0, _, _, by rw [m_X9_act, h1, bdd_some], h2, act_none hg0⟩
  cases hb : lt_n a0 na with
  | false =>
    refine none_ ?_ ?_
    · rw [m_X0_perform, c1]
      rcases i_cases a0 with h | ⟨k, hk, rfl⟩
      · rw [if_pos (neg_lt0 h)]
      · rw [lt_n_nI hk, decide_eq_false_iff_not] at hb
        rw [if_neg (show ¬ nI k < (0 : Int32) from nI_pos hk), if_pos (by rw [nI_leI (by omega) hk]; omega)]
    · rw [m_X10_act, m1, in_lt (by omega), hb, bdd_some, if_pos (show bz false = 0 from rfl)]
  | true =>
    obtain ⟨n, hn, rfl⟩ := lt_nI hb (by omega)
    cases ht : lt_n a1 4 with
    | false =>
      refine none_ ?_ ?_
      · rw [m_X0_perform, c1, if_neg (show ¬ nI n < (0 : Int32) from nI_pos (by omega)), if_neg (by rw [nI_leI (by omega) (by omega)]; omega)]
        rcases i_cases a1 with h | ⟨k, hk, rfl⟩
        · rw [if_pos (neg_lt0 h)]
        · rw [lt_n_nI hk, decide_eq_false_iff_not] at ht
          rw [if_neg (show ¬ nI k < (0 : Int32) from nI_pos hk), if_neg (show ¬ nI k < (4 : Int32) from fun z => ht ((nI_ltI (b := 4) hk (by omega)).mp z))]
      · rw [m_X10_act, m1, in_lt (by omega), hb, bdd_some, if_neg (show ¬ bz true = 0 by decide), show m_X10_in a1.toInt64 0 3 (wrI (wrI g 32 3 0) 40 42 0) = some (bz (lt_n a1 4), wrI (wrI g 32 3 0) 40 42 0) from in_lt (n := 4) (by decide) a1 _, ht, bdd_some, if_pos (show bz false = 0 from rfl)]
    | true =>
      obtain ⟨t, ht4, rfl⟩ := lt_nI ht (by omega)
      obtain ⟨k1, K0, hK0, k2⟩ := e5 n hn
      have hokc : okc 0 K0 n (wrI (wrI g 32 3 0) 32 4 (nI n)) := by
        refine ⟨⟨0, Nat.le_refl _, ?_⟩, ?_, ?_⟩
        · rw [rI_wI, if_neg (by omega), rI_wI, if_pos ⟨rfl, rfl⟩]; rfl
        · rw [rI_wI, if_pos ⟨rfl, rfl⟩]
        · rw [rI_wI, if_neg (by omega), rI_wI, if_neg (by omega), k2]
      have hokm : ∀ g1 : Mm, okm 0 K0 n (wrI (wrI (wrI g1 40 42 0) 40 43 (nI K0)) 40 44 (nI n)) := fun g1 => by
        refine ⟨⟨0, Nat.le_refl _, ?_⟩, ?_, ?_⟩
        · rw [rI_wI, if_neg (by omega), rI_wI, if_neg (by omega), rI_wI, if_pos ⟨rfl, rfl⟩]; rfl
        · rw [rI_wI, if_neg (by omega), rI_wI, if_pos ⟨rfl, rfl⟩]
        · rw [rI_wI, if_pos ⟨rfl, rfl⟩]
      have fin : ∀ (v : Int32) (L : List Nat), L.length ≤ 100 → ga_ 60 0 (nI K0) (nI t) a2 0 (wrI (wrI g 32 3 0) 32 4 (nI n)) = some (v, rc L (wrI (wrI g 32 3 0) 32 4 (nI n))) →
          (∀ gm : Mm, okm 0 K0 n gm → (if nI t = (0 : Int32) then bdd (g1_ 8 0 (nI K0) a2 0 0 gm) (fun r g5 => some (r, g5)) else if nI t = (1 : Int32) then bdd (g2_ 12 0 (nI K0) a2 0 0 gm) (fun r g5 => some (r, g5)) else if nI t = (2 : Int32) then bdd (g3_ 10 0 (nI K0) a2 0 0 gm) (fun r g5 => some (r, g5)) else bdd (g4_ 12 0 (nI K0) a2 0 0 gm) (fun r g5 => some (r, g5))) = some (v, rm L gm)) → al_ (m_X9_act (nI n) (nI t) a2) (m_X10_act (nI n) (nI t) a2) g := by
        intro v L hL h1 h2
        have r33 : rdI (wrI (wrI g 32 3 0) 32 4 (nI n)) 33 n = nI K0 := hokc.2.2
        obtain ⟨er, -⟩ := rr_read (T := 34) (cc := 32) (ci := 3) (by decide) L 0 (wrI (wrI g 32 3 0) 32 4 (nI n)) (by rw [rI_wI, if_neg (by omega), rI_wI, if_pos ⟨rfl, rfl⟩]; rfl) (by omega)
        have rd : ∀ x k, x ≠ 32 → x ≠ 34 → rdI (rc L (wrI (wrI g 32 3 0) 32 4 (nI n))) x k = rdI g x k := fun x k q1 q2 => by
          rw [er, if_neg (by omega), if_neg (by omega), rI_wI, if_neg (by omega), rI_wI, if_neg (by omega)]
        refine ⟨v, rc L (wrI (wrI g 32 3 0) 32 4 (nI n)), _, ?_, ?_, act_gv (K0 := K0) (n := n) hL hg0⟩
        · rw [m_X9_act, m_X0_perform, c1, if_neg (show ¬ nI n < (0 : Int32) from nI_pos (by omega)), if_neg (by rw [nI_leI (by omega) (by omega)]; omega), if_neg (show ¬ nI t < (0 : Int32) from nI_pos (by omega)), if_pos (show nI t < (4 : Int32) from (nI_ltI (b := 4) (by omega) (by omega)).mpr ht4), ix_nI (by omega) (by omega), gdd_true, nI_clamp (by omega), r33, h1, bdd_some, bdd_some]
        · have h3 := h2 _ (hokm (rc L (wrI (wrI g 32 3 0) 32 4 (nI n))))
          have m40 : rdI (wrI (rc L (wrI (wrI g 32 3 0) 32 4 (nI n))) 40 42 0) 40 40 = nI na := by rw [rI_wI, if_neg (by omega), rd _ _ (by omega) (by omega), e2]
          have m56 : rdI (wrI (rc L (wrI (wrI g 32 3 0) 32 4 (nI n))) 40 42 0) 56 n = nI K0 := by rw [rI_wI, if_neg (by omega), rd _ _ (by omega) (by omega), k1, k2]
          generalize rc L (wrI (wrI g 32 3 0) 32 4 (nI n)) = g1 at *
          have m43 : rdI (wrI (wrI (wrI g1 40 42 0) 40 43 (nI K0)) 40 44 (nI n)) 40 43 = nI K0 := (hokm g1).2.1
          rw [m_X10_act, m40, in_lt (by omega), hb, bdd_some, if_neg (show ¬ bz true = 0 by decide), show m_X10_in (nI t).toInt64 0 3 (wrI g1 40 42 0) = some (bz (lt_n (nI t) 4), wrI g1 40 42 0) from in_lt (n := 4) (by decide) _ _, ht, bdd_some, if_neg (show ¬ bz true = 0 by decide), ix_nI (by omega) (by omega), gdd_true, nI_clamp (by omega), m56, m43]
          exact h3
      have hl := l_len K0 hK0 K0 hK0
      rcases (by omega : t = 0 ∨ t = 1 ∨ t = 2 ∨ t = 3) with rfl | rfl | rfl | rfl
      · exact fin _ _ (show (lS K0).length ≤ 100 by omega) (cS (d := 56) (dep := 0) hokc (by omega) (by omega) hK0 (by omega) a2) (fun gm h => by rw [if_pos (show nI 0 = (0 : Int32) from rfl), bdd_eta, show (8 : Nat) = 4 + 4 from rfl, mS (d := 4) h (by omega) hK0])
      · exact fin _ _ (show (lO K0 K0).length ≤ 100 by omega) (cO (d := 48) (dep := 0) hokc (by omega) (by omega) hK0 hK0 (by omega) a2) (fun gm h => by rw [if_neg (show ¬ nI 1 = (0 : Int32) by decide), if_pos (show nI 1 = (1 : Int32) from rfl), bdd_eta, show (12 : Nat) = 8 + 4 from rfl, mO (d := 8) h (by omega) hK0 hK0])
      · exact fin _ _ (show (lR K0 K0).length ≤ 100 by omega) (cR (d := 54) (dep := 0) hokc (by omega) (by omega) hK0 hK0 (by omega) a2) (fun gm h => by rw [if_neg (show ¬ nI 2 = (0 : Int32) by decide), if_neg (show ¬ nI 2 = (1 : Int32) by decide), if_pos (show nI 2 = (2 : Int32) from rfl), bdd_eta, show (10 : Nat) = 6 + 4 from rfl, mR (d := 6) h (by omega) hK0 hK0])
      · exact fin _ _ (show (lT K0 K0).length ≤ 100 by omega) (cT (d := 44) (dep := 0) hokc (by omega) (by omega) hK0 hK0 (by omega) a2) (fun gm h => by rw [if_neg (show ¬ nI 3 = (0 : Int32) by decide), if_neg (show ¬ nI 3 = (1 : Int32) by decide), if_neg (show ¬ nI 3 = (2 : Int32) by decide), bdd_eta, show (12 : Nat) = 8 + 4 from rfl, mT (d := 8) h (by omega) hK0 hK0])
