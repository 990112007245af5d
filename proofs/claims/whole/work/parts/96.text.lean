/-! the law: what a text says -/
def lvI (a : Int32) : Int32 := if a = 37 then 4 else if a = 38 then 1 else if a = 42 then 4 else if a = 43 then 3 else if a = 45 then 3 else if a = 47 then 4 else if a = 60 then 2 else if a = 61 then 2 else if a = 62 then 2 else if a = 124 then 0 else -1
def nmI (a : Int32) : Int32 := if a = 98 then 1 else if a = 99 then -1 else if a = 100 then -1 else if a = 101 then -1 else if a = 102 then -1 else if a = 103 then -1 else if a = 104 then 0 else if a = 105 then -1 else if a = 106 then -1 else if a = 107 then -1 else if a = 108 then -1 else if a = 109 then 2 else if a = 110 then 3 else if a = 111 then -1 else if a = 112 then 4 else if a = 113 then 5 else -1
theorem levelOf_c (a : Int32) (g : Mm) : m_X3_levelOf a g = some (lvI a, g) := by
  rw [m_X3_levelOf, lvI]
  by_cases h37 : a = 37
  · rw [if_pos h37, if_pos h37]
  rw [if_neg h37, if_neg h37]
  by_cases h38 : a = 38
  · rw [if_pos h38, if_pos h38]
  rw [if_neg h38, if_neg h38]
  by_cases h42 : a = 42
  · rw [if_pos h42, if_pos h42]
  rw [if_neg h42, if_neg h42]
  by_cases h43 : a = 43
  · rw [if_pos h43, if_pos h43]
  rw [if_neg h43, if_neg h43]
  by_cases h45 : a = 45
  · rw [if_pos h45, if_pos h45]
  rw [if_neg h45, if_neg h45]
  by_cases h47 : a = 47
  · rw [if_pos h47, if_pos h47]
  rw [if_neg h47, if_neg h47]
  by_cases h60 : a = 60
  · rw [if_pos h60, if_pos h60]
  rw [if_neg h60, if_neg h60]
  by_cases h61 : a = 61
  · rw [if_pos h61, if_pos h61]
  rw [if_neg h61, if_neg h61]
  by_cases h62 : a = 62
  · rw [if_pos h62, if_pos h62]
  rw [if_neg h62, if_neg h62]
  by_cases h124 : a = 124
  · rw [if_pos h124, if_pos h124]
  rw [if_neg h124, if_neg h124]
theorem nameOf_c (a : Int32) (g : Mm) : m_X3_nameOf a g = some (nmI a, g) := by
  rw [m_X3_nameOf, nmI]
  by_cases h98 : a = 98
  · rw [if_pos h98, if_pos h98]
  rw [if_neg h98, if_neg h98]
  by_cases h99 : a = 99
  · rw [if_pos h99, if_pos h99]
  rw [if_neg h99, if_neg h99]
  by_cases h100 : a = 100
  · rw [if_pos h100, if_pos h100]
  rw [if_neg h100, if_neg h100]
  by_cases h101 : a = 101
  · rw [if_pos h101, if_pos h101]
  rw [if_neg h101, if_neg h101]
  by_cases h102 : a = 102
  · rw [if_pos h102, if_pos h102]
  rw [if_neg h102, if_neg h102]
  by_cases h103 : a = 103
  · rw [if_pos h103, if_pos h103]
  rw [if_neg h103, if_neg h103]
  by_cases h104 : a = 104
  · rw [if_pos h104, if_pos h104]
  rw [if_neg h104, if_neg h104]
  by_cases h105 : a = 105
  · rw [if_pos h105, if_pos h105]
  rw [if_neg h105, if_neg h105]
  by_cases h106 : a = 106
  · rw [if_pos h106, if_pos h106]
  rw [if_neg h106, if_neg h106]
  by_cases h107 : a = 107
  · rw [if_pos h107, if_pos h107]
  rw [if_neg h107, if_neg h107]
  by_cases h108 : a = 108
  · rw [if_pos h108, if_pos h108]
  rw [if_neg h108, if_neg h108]
  by_cases h109 : a = 109
  · rw [if_pos h109, if_pos h109]
  rw [if_neg h109, if_neg h109]
  by_cases h110 : a = 110
  · rw [if_pos h110, if_pos h110]
  rw [if_neg h110, if_neg h110]
  by_cases h111 : a = 111
  · rw [if_pos h111, if_pos h111]
  rw [if_neg h111, if_neg h111]
  by_cases h112 : a = 112
  · rw [if_pos h112, if_pos h112]
  rw [if_neg h112, if_neg h112]
  by_cases h113 : a = 113
  · rw [if_pos h113, if_pos h113]
  rw [if_neg h113, if_neg h113]
def lvl (c : Nat) : Nat := if c = 124 then 0 else if c = 38 then 1 else if c = 60 ∨ c = 61 ∨ c = 62 then 2 else if c = 43 ∨ c = 45 then 3 else if c = 42 ∨ c = 47 ∨ c = 37 then 4 else 9
def nmx (c : Nat) : Nat := if c = 104 then 0 else if c = 98 then 1 else if c = 109 then 2 else if c = 110 then 3 else if c = 112 then 4 else if c = 113 then 5 else 9
def dg (c : Nat) : Bool := decide (48 ≤ c) && decide (c ≤ 57)
theorem lv_iff : ∀ c, c < 256 → ∀ k, k < 5 → (lvI (nI c) = nI k ↔ lvl c = k) := by decide +kernel
theorem nm_neg : ∀ c, c < 256 → (nmI (nI c) < (0 : Int32) ↔ nmx c = 9) := by decide +kernel
theorem nm_val : ∀ c, c < 256 → nmx c ≠ 9 → nmI (nI c) = nI (nmx c) ∧ nmx c < 6 := by decide +kernel
theorem ch_dj : ∀ c, c < 256 → (nmx c ≠ 9 → dg c = false ∧ c ≠ 33 ∧ c ≠ 45 ∧ c ≠ 40) ∧ (dg c = true → c ≠ 33 ∧ c ≠ 45 ∧ c ≠ 40) := by decide +kernel
theorem lv_cases {c k : Nat} (h : lvl c = k) (hk : k < 5) : (k = 0 ∧ c = 124) ∨ (k = 1 ∧ c = 38) ∨ (k = 2 ∧ (c = 60 ∨ c = 61 ∨ c = 62)) ∨ (k = 3 ∧ (c = 43 ∨ c = 45)) ∨ (k = 4 ∧ (c = 42 ∨ c = 47 ∨ c = 37)) := by
  unfold lvl at h
  split at h
  · omega
  · split at h
    · omega
    · split at h
      · omega
      · split at h
        · omega
        · split at h
          · omega
          · omega
/-- what a sign makes of two -/
def jv (c : Nat) (a b : Int32) : Int32 :=
  if c = 124 then (if a = 0 then (if b = 0 then 0 else 1) else 1)
  else if c = 38 then (if a = 0 then 0 else if b = 0 then 0 else 1)
  else if c = 60 then (if b ≤ a then 0 else 1)
  else if c = 61 then (if a = b then 1 else 0)
  else if c = 62 then (if a ≤ b then 0 else 1)
  else if c = 43 then a + b
  else if c = 45 then a - b
  else if c = 42 then a * b
  else if c = 47 then (if b = 0 then 0 else a / b)
  else if b = 0 then 0 else rmI a b
theorem jv_124 (a b : Int32) : jv 124 a b = if a = 0 then (if b = 0 then 0 else 1) else 1 := rfl
theorem jv_38 (a b : Int32) : jv 38 a b = if a = 0 then 0 else if b = 0 then 0 else 1 := rfl
theorem jv_60 (a b : Int32) : jv 60 a b = if b ≤ a then 0 else 1 := rfl
theorem jv_61 (a b : Int32) : jv 61 a b = if a = b then 1 else 0 := rfl
theorem jv_62 (a b : Int32) : jv 62 a b = if a ≤ b then 0 else 1 := rfl
theorem jv_43 (a b : Int32) : jv 43 a b = a + b := rfl
theorem jv_45 (a b : Int32) : jv 45 a b = a - b := rfl
theorem jv_42 (a b : Int32) : jv 42 a b = a * b := rfl
theorem jv_47 (a b : Int32) : jv 47 a b = if b = 0 then 0 else a / b := rfl
theorem jv_37 (a b : Int32) : jv 37 a b = if b = 0 then 0 else rmI a b := rfl
theorem nz_dec {b : Int32} (h : ¬ b = 0) : decide (¬ b = (0 : Int32)) = true := decide_eq_true h
theorem join_37 (a b : Int32) (g : Mm) : m_X4_joined (nI 37) a b g = some (jv 37 a b, g) := by
  rw [m_X4_joined, if_pos (by decide), jv_37]
  by_cases hb : b = 0
  · rw [if_pos hb, if_pos hb]
  · rw [if_neg hb, if_neg hb, nz_dec hb, gdd_true]
theorem join_38 (a b : Int32) (g : Mm) : m_X4_joined (nI 38) a b g = some (jv 38 a b, g) := by
  rw [m_X4_joined, if_neg (by decide), if_pos (by decide), jv_38]
  by_cases ha : a = 0
  · rw [if_pos ha, if_pos ha]
    rfl
  · rw [if_neg ha, if_neg ha]
    by_cases hb : b = 0
    · rw [if_pos hb, if_pos hb]
      rfl
    · rw [if_neg hb, if_neg hb]
      rfl
theorem join_42 (a b : Int32) (g : Mm) : m_X4_joined (nI 42) a b g = some (jv 42 a b, g) := by
  rw [m_X4_joined, if_neg (by decide), if_neg (by decide), if_pos (by decide)]
  rfl
theorem join_43 (a b : Int32) (g : Mm) : m_X4_joined (nI 43) a b g = some (jv 43 a b, g) := by
  rw [m_X4_joined, if_neg (by decide), if_neg (by decide), if_neg (by decide), if_pos (by decide)]
  rfl
theorem join_45 (a b : Int32) (g : Mm) : m_X4_joined (nI 45) a b g = some (jv 45 a b, g) := by
  rw [m_X4_joined, if_neg (by decide), if_neg (by decide), if_neg (by decide), if_neg (by decide), if_pos (by decide)]
  rfl
theorem join_47 (a b : Int32) (g : Mm) : m_X4_joined (nI 47) a b g = some (jv 47 a b, g) := by
  rw [m_X4_joined, if_neg (by decide), if_neg (by decide), if_neg (by decide), if_neg (by decide), if_neg (by decide), if_pos (by decide), jv_47]
  by_cases hb : b = 0
  · rw [if_pos hb, if_pos hb]
  · rw [if_neg hb, if_neg hb, nz_dec hb, gdd_true]
theorem join_60 (a b : Int32) (g : Mm) : m_X4_joined (nI 60) a b g = some (jv 60 a b, g) := by
  rw [m_X4_joined, if_neg (by decide), if_neg (by decide), if_neg (by decide), if_neg (by decide), if_neg (by decide), if_neg (by decide), if_pos (by decide), jv_60]
  by_cases h : b ≤ a
  · rw [if_pos h, if_pos h]
    rfl
  · rw [if_neg h, if_neg h]
    rfl
theorem join_61 (a b : Int32) (g : Mm) : m_X4_joined (nI 61) a b g = some (jv 61 a b, g) := by
  rw [m_X4_joined, if_neg (by decide), if_neg (by decide), if_neg (by decide), if_neg (by decide), if_neg (by decide), if_neg (by decide), if_neg (by decide), if_pos (by decide), jv_61]
  by_cases h : a = b
  · rw [if_pos h, if_pos h]
    rfl
  · rw [if_neg h, if_neg h]
    rfl
theorem join_62 (a b : Int32) (g : Mm) : m_X4_joined (nI 62) a b g = some (jv 62 a b, g) := by
  rw [m_X4_joined, if_neg (by decide), if_neg (by decide), if_neg (by decide), if_neg (by decide), if_neg (by decide), if_neg (by decide), if_neg (by decide), if_neg (by decide), if_pos (by decide), jv_62]
  by_cases h : a ≤ b
  · rw [if_pos h, if_pos h]
    rfl
  · rw [if_neg h, if_neg h]
    rfl
theorem join_124 (a b : Int32) (g : Mm) : m_X4_joined (nI 124) a b g = some (jv 124 a b, g) := by
  rw [m_X4_joined, if_neg (by decide), if_neg (by decide), if_neg (by decide), if_neg (by decide), if_neg (by decide), if_neg (by decide), if_neg (by decide), if_neg (by decide), if_neg (by decide), if_pos (by decide), jv_124]
  by_cases ha : a = 0
  · rw [if_pos ha, if_pos ha]
    by_cases hb : b = 0
    · rw [if_pos hb, if_pos hb]
      rfl
    · rw [if_neg hb, if_neg hb]
      rfl
  · rw [if_neg ha, if_neg ha]
    rfl
theorem join_c {c k : Nat} (h : lvl c = k) (hk : k < 5) (a b : Int32) (g : Mm) : m_X4_joined (nI c) a b g = some (jv c a b, g) := by
  rcases lv_cases h hk with ⟨-, rfl⟩ | ⟨-, rfl⟩ | ⟨-, rfl | rfl | rfl⟩ | ⟨-, rfl | rfl⟩ | ⟨-, rfl | rfl | rfl⟩
  · exact join_124 a b g
  · exact join_38 a b g
  · exact join_60 a b g
  · exact join_61 a b g
  · exact join_62 a b g
  · exact join_43 a b g
  · exact join_45 a b g
  · exact join_42 a b g
  · exact join_47 a b g
  · exact join_37 a b g
theorem digit_c {c : Nat} (hc : c < 256) (g : Mm) : m_X3_isDigit (nI c) g = some (bz (dg c), g) := by
  rw [m_X3_isDigit, dg]
  by_cases h1 : c < 48
  · rw [if_pos (show nI c < (48 : Int32) from (nI_ltI (b := 48) (by omega) (by omega)).mpr h1), decide_eq_false (by omega)]
    rfl
  · rw [if_neg (show ¬ nI c < (48 : Int32) from fun w => h1 ((nI_ltI (b := 48) (by omega) (by omega)).mp w)), decide_eq_true (show 48 ≤ c by omega)]
    by_cases h2 : 57 < c
    · rw [if_pos (show (57 : Int32) < nI c from (nI_ltI (a := 57) (by omega) (by omega)).mpr h2), decide_eq_false (by omega)]
      rfl
    · rw [if_neg (show ¬ (57 : Int32) < nI c from fun w => h2 ((nI_ltI (a := 57) (by omega) (by omega)).mp w)), decide_eq_true (by omega)]
      rfl
/-! the text's letters -/
def cc (t : Nat → Nat) (n p : Nat) : Nat := if p < n then t p else 256
def ac (t : Nat → Nat) (n p : Nat) : Int32 := if p < n then nI (t p) else -1
def tb_ (t : Nat → Nat) (n : Nat) : Prop := n ≤ 120 ∧ ∀ i, i < n → t i < 256
theorem ac_iff {t : Nat → Nat} {n p k : Nat} (ht : tb_ t n) (hk : k < 256) : ac t n p = nI k ↔ cc t n p = k := by
  unfold ac cc
  by_cases h : p < n
  · rw [if_pos h, if_pos h, nI_eq (by have := ht.2 p h; omega) (by omega)]
  · rw [if_neg h, if_neg h]
    constructor
    · intro e
      have e := congrArg Int32.toInt e
      rw [nI_toInt (by omega), show (-1 : Int32).toInt = -1 from rfl] at e
      omega
    · intro e; omega
theorem cc_lt {t : Nat → Nat} {n p : Nat} (ht : tb_ t n) (h : cc t n p < 256) : p < n ∧ cc t n p = t p := by
  unfold cc at h ⊢
  by_cases q : p < n
  · exact ⟨q, by rw [if_pos q]⟩
  · rw [if_neg q] at h
    omega
theorem cc_in {t : Nat → Nat} {n p : Nat} (q : p < n) : cc t n p = t p := if_pos q
theorem cc_out {t : Nat → Nat} {n p : Nat} (q : ¬ p < n) : cc t n p = 256 := if_neg q
theorem lvl_lt {c k : Nat} (h : lvl c = k) (hk : k < 5) : c < 256 ∧ 37 ≤ c := by
  have := lv_cases h hk
  omega
/-! the reference's side -/
def tx (t : Nat → Nat) (n : Nat) (g : Mm) : Prop := (rdI g 40 19 = 1 ∧ rdI g 40 15 = nI n ∧ ∀ i, i < n → rdI g 49 i = nI (t i)) ∨ (rdI g 40 19 = 0 ∧ rdI g 40 17 = nI n ∧ ∀ i, i < n → rdI g 50 i = nI (t i))
def wf_ (g g' : Mm) : Prop := (∀ c i, ¬ (c = 40 ∧ 20 ≤ i ∧ i ≤ 22) → rdI g' c i = rdI g c i) ∧ g'.2 = g.2
theorem wf_.rf {g : Mm} : wf_ g g := ⟨fun _ _ _ => rfl, rfl⟩
theorem wf_.tr {g g' g2 : Mm} (h : wf_ g g') (h2 : wf_ g' g2) : wf_ g g2 := ⟨fun c i q => (h2.1 c i q).trans (h.1 c i q), h2.2.trans h.2⟩
theorem wf_.w {g g' : Mm} (h : wf_ g g') {i : Nat} (v : Int32) (h1 : 20 ≤ i) (h2 : i ≤ 22) : wf_ g (wrI g' 40 i v) := by
  refine ⟨fun d j z => ?_, h.2⟩
  rw [rI_wI, if_neg (by omega)]
  exact h.1 d j z
theorem tx.wf {t : Nat → Nat} {n : Nat} {g g' : Mm} (h : tx t n g) (hf : wf_ g g') : tx t n g' := by
  unfold tx
  rw [hf.1 40 19 (by omega), hf.1 40 15 (by omega), hf.1 40 17 (by omega)]
  rcases h with ⟨h1, h2, h3⟩ | ⟨h1, h2, h3⟩
  · exact Or.inl ⟨h1, h2, fun i hi => by rw [hf.1 49 i (by omega)]; exact h3 i hi⟩
  · exact Or.inr ⟨h1, h2, fun i hi => by rw [hf.1 50 i (by omega)]; exact h3 i hi⟩
def wg (t : Nat → Nat) (n o p : Nat) (g : Mm) : Prop := tx t n g ∧ rdI g 40 20 = nI p ∧ rdI g 40 21 = 0 ∧ rdI g 40 22 = nI o
theorem at_m {t : Nat → Nat} {n p : Nat} {g : Mm} (ht : tb_ t n) (h : tx t n g) (hp : rdI g 40 20 = nI p) (hpn : p ≤ n) : m_X10_at g = some (ac t n p, g) := by
  have hn := ht.1
  rw [m_X10_at]
  rcases h with ⟨h1, h2, h3⟩ | ⟨h1, h2, h3⟩
  · rw [h1, if_neg (by decide), h2, hp, m_X10_at_22, ac]
    by_cases q : p < n
    · rw [if_neg (by rw [nI_leI (by omega) (by omega)]; omega), if_pos q, h1, if_neg (by decide), hp, ix_nI (by omega) (by omega), gdd_true, nI_clamp (by omega), h3 p q]
    · rw [if_pos (by rw [nI_leI (by omega) (by omega)]; omega), if_neg q]
  · rw [h1, if_pos rfl, h2, hp, m_X10_at_22, ac]
    by_cases q : p < n
    · rw [if_neg (by rw [nI_leI (by omega) (by omega)]; omega), if_pos q, h1, if_pos rfl, hp, ix_nI (by omega) (by omega), gdd_true, nI_clamp (by omega), h3 p q]
    · rw [if_pos (by rw [nI_leI (by omega) (by omega)]; omega), if_neg q]
theorem wg.at {t : Nat → Nat} {n o p : Nat} {g : Mm} (h : wg t n o p g) (ht : tb_ t n) (hpn : p ≤ n) : m_X10_at g = some (ac t n p, g) := at_m ht h.1 h.2.1 hpn
theorem wg.go {t : Nat → Nat} {n o p : Nat} {g : Mm} (h : wg t n o p g) (q : Nat) : wg t n o q (wrI g 40 20 (nI q)) := by
  refine ⟨h.1.wf (wf_.rf.w _ (by omega) (by omega)), ?_, ?_, ?_⟩
  · rw [rI_wI, if_pos ⟨rfl, rfl⟩]
  · rw [rI_wI, if_neg (by omega)]; exact h.2.2.1
  · rw [rI_wI, if_neg (by omega)]; exact h.2.2.2
theorem in_dg {t : Nat → Nat} {n p : Nat} (ht : tb_ t n) (g : Mm) : m_X10_in (ac t n p).toInt64 48 57 g = some (bz (dg (cc t n p)), g) := by
  unfold ac cc dg
  by_cases q : p < n
  · have := ht.2 p q
    rw [if_pos q, if_pos q, in_nI 48 57 48 57 (by omega) rfl rfl, Bool.decide_and]
  · rw [if_neg q, if_neg q, in_neg (by decide) (by decide), decide_eq_false (show ¬ 256 ≤ 57 by omega), Bool.and_false]
/-- a level's loop -/
def mc2 (C : Nat → Int32 → Int32 → Int32 → Int32 → Mm → Option (Int32 × Mm)) (x : Int32) (g : Mm) : Option (Int32 × Mm) := (if (rdI g 40 21) = (0 : Int32) then bdd (m_X10_at g) (fun ra5 ga6 => (if ra5 = (60 : Int32) then m_X10_compared_41 C x ga6 else bdd (m_X10_at ga6) (fun ra9 ga10 => (if ra9 = (61 : Int32) then m_X10_compared_41 C x ga10 else bdd (m_X10_at ga10) (fun ra13 ga14 => (if ra13 = (62 : Int32) then m_X10_compared_41 C x ga14 else some (x, ga14))))))) else some (x, g))
def mL (k : Nat) (C : Nat → Int32 → Int32 → Int32 → Int32 → Mm → Option (Int32 × Mm)) (n : Nat) (x : Int32) (g : Mm) : Option (Int32 × Mm) := match k with
  | 0 => m_X10_either_5 C n x g
  | 1 => m_X10_both_5 C n x g
  | 2 => mc2 C x g
  | 3 => m_X10_added_5 C n x g
  | _ => m_X10_product_5 C n x g
theorem gm_k {k : Nat} (hk : k < 5) (N : Nat) (a b c d : Int32) (g : Mm) : gm_ (N + 1) (5 - k) a b c d g = bdd (gm_ N (4 - k) 0 0 0 0 g) (fun v g2 => mL k (gm_ N) fuL v g2) := by
  match k, hk with
  | 0, _ => show gm_ (N + 1) 5 a b c d g = bdd (gm_ N 4 0 0 0 0 g) (fun v g2 => m_X10_either_5 (gm_ N) fuL v g2); rw [gm_, if_neg (by decide), if_neg (by decide), if_neg (by decide), if_neg (by decide), if_neg (by decide), if_pos rfl, m_X10_either]
  | 1, _ => show gm_ (N + 1) 4 a b c d g = bdd (gm_ N 3 0 0 0 0 g) (fun v g2 => m_X10_both_5 (gm_ N) fuL v g2); rw [gm_, if_neg (by decide), if_neg (by decide), if_neg (by decide), if_neg (by decide), if_pos rfl, m_X10_both]
  | 2, _ => show gm_ (N + 1) 3 a b c d g = bdd (gm_ N 2 0 0 0 0 g) (fun v g2 => mc2 (gm_ N) v g2); rw [gm_, if_neg (by decide), if_neg (by decide), if_neg (by decide), if_pos rfl, m_X10_compared]; rfl
  | 3, _ => show gm_ (N + 1) 2 a b c d g = bdd (gm_ N 1 0 0 0 0 g) (fun v g2 => m_X10_added_5 (gm_ N) fuL v g2); rw [gm_, if_neg (by decide), if_neg (by decide), if_pos rfl, m_X10_added]
  | 4, _ => show gm_ (N + 1) 1 a b c d g = bdd (gm_ N 0 0 0 0 0 g) (fun v g2 => m_X10_product_5 (gm_ N) fuL v g2); rw [gm_, if_neg (by decide), if_pos rfl, m_X10_product]
theorem mL_bad {k m : Nat} (hk : k < 5) {C : Nat → Int32 → Int32 → Int32 → Int32 → Mm → Option (Int32 × Mm)} {g : Mm} (h : rdI g 40 21 = 1) (x : Int32) : mL k C (m + 1) x g = some (x, g) := by
  match k, hk with
  | 0, _ => show m_X10_either_5 C (m + 1) x g = _; rw [m_X10_either_5, h, if_neg (by decide)]
  | 1, _ => show m_X10_both_5 C (m + 1) x g = _; rw [m_X10_both_5, h, if_neg (by decide)]
  | 2, _ => show mc2 C x g = _; rw [mc2, h, if_neg (by decide)]
  | 3, _ => show m_X10_added_5 C (m + 1) x g = _; rw [m_X10_added_5, h, if_neg (by decide)]
  | 4, _ => show m_X10_product_5 C (m + 1) x g = _; rw [m_X10_product_5, h, if_neg (by decide)]
/-- the loop's next step, where the level's sign stands -/
theorem mL_step {t : Nat → Nat} {n o p k m : Nat} (hk : k < 5) {C : Nat → Int32 → Int32 → Int32 → Int32 → Mm → Option (Int32 × Mm)} {g : Mm} (ht : tb_ t n) (hw : wg t n o p g) (hp : p ≤ n) (x : Int32) (h : lvl (cc t n p) = k) :
    mL k C (m + 1) x g = bdd (C (4 - k) 0 0 0 0 (wrI g 40 20 (nI (p + 1)))) (fun w g5 => if k = 2 then some (jv (cc t n p) x w, g5) else mL k C m (jv (cc t n p) x w) g5) := by
  have ha := hw.at ht hp
  obtain ⟨-, h20, h21, -⟩ := hw
  have inc : nI p + (1 : Int32) = nI (p + 1) := nI_1 p
  have ac_eq : ∀ c, c < 256 → cc t n p = c → ac t n p = nI c := fun c hc e => (ac_iff ht hc).mpr e
  rcases lv_cases h hk with ⟨rfl, e⟩ | ⟨rfl, e⟩ | ⟨rfl, e⟩ | ⟨rfl, e⟩ | ⟨rfl, e⟩
  · show m_X10_either_5 C (m + 1) x g = bdd _ (fun w g5 => m_X10_either_5 C m (jv (cc t n p) x w) g5)
    rw [ac_eq 124 (by omega) e] at ha
    rw [m_X10_either_5, h21, if_pos rfl, ha, bdd_some, if_pos (show nI 124 = (124 : Int32) from rfl), h20, inc, e]
    refine congrArg (bdd _) (funext fun w => funext fun g5 => ?_)
    rw [jv_124]
    by_cases z : x = 0
    · rw [if_pos z, if_pos z]
      split <;> rfl
    · rw [if_neg z, if_neg z]
  · show m_X10_both_5 C (m + 1) x g = bdd _ (fun w g5 => m_X10_both_5 C m (jv (cc t n p) x w) g5)
    rw [ac_eq 38 (by omega) e] at ha
    rw [m_X10_both_5, h21, if_pos rfl, ha, bdd_some, if_pos (show nI 38 = (38 : Int32) from rfl), h20, inc, e]
    refine congrArg (bdd _) (funext fun w => funext fun g5 => ?_)
    rw [jv_38]
    by_cases z : x = 0
    · rw [if_pos z, if_pos z]
    · rw [if_neg z, if_neg z]
      split <;> rfl
  · show mc2 C x g = bdd _ (fun w g5 => some (jv (cc t n p) x w, g5))
    rcases e with e | e | e
    · rw [ac_eq 60 (by omega) e] at ha
      rw [mc2, h21, if_pos rfl, ha, bdd_some, if_pos (show nI 60 = (60 : Int32) from rfl), m_X10_compared_41, ha, bdd_some, h20, inc, e]
      refine congrArg (bdd _) (funext fun w => funext fun g5 => ?_)
      rw [if_pos (show nI 60 = (60 : Int32) from rfl), jv_60]
      split <;> rfl
    · rw [ac_eq 61 (by omega) e] at ha
      rw [mc2, h21, if_pos rfl, ha, bdd_some, if_neg (show ¬ nI 61 = (60 : Int32) by decide), ha, bdd_some, if_pos (show nI 61 = (61 : Int32) from rfl), m_X10_compared_41, ha, bdd_some, h20, inc, e]
      refine congrArg (bdd _) (funext fun w => funext fun g5 => ?_)
      rw [if_neg (show ¬ nI 61 = (60 : Int32) by decide), if_pos (show nI 61 = (61 : Int32) from rfl), jv_61]
      split <;> rfl
    · rw [ac_eq 62 (by omega) e] at ha
      rw [mc2, h21, if_pos rfl, ha, bdd_some, if_neg (show ¬ nI 62 = (60 : Int32) by decide), ha, bdd_some, if_neg (show ¬ nI 62 = (61 : Int32) by decide), ha, bdd_some, if_pos (show nI 62 = (62 : Int32) from rfl), m_X10_compared_41, ha, bdd_some, h20, inc, e]
      refine congrArg (bdd _) (funext fun w => funext fun g5 => ?_)
      rw [if_neg (show ¬ nI 62 = (60 : Int32) by decide), if_neg (show ¬ nI 62 = (61 : Int32) by decide), jv_62]
      split <;> rfl
  · show m_X10_added_5 C (m + 1) x g = bdd _ (fun w g5 => m_X10_added_5 C m (jv (cc t n p) x w) g5)
    rcases e with e | e
    · rw [ac_eq 43 (by omega) e] at ha
      rw [m_X10_added_5, h21, if_pos rfl, ha, bdd_some, if_pos (show nI 43 = (43 : Int32) from rfl), m_X10_added_30, ha, bdd_some, h20, inc, e]
      refine congrArg (bdd _) (funext fun w => funext fun g5 => ?_)
      rw [if_pos (show nI 43 = (43 : Int32) from rfl), jv_43]
    · rw [ac_eq 45 (by omega) e] at ha
      rw [m_X10_added_5, h21, if_pos rfl, ha, bdd_some, if_neg (show ¬ nI 45 = (43 : Int32) by decide), ha, bdd_some, if_pos (show nI 45 = (45 : Int32) from rfl), m_X10_added_30, ha, bdd_some, h20, inc, e]
      refine congrArg (bdd _) (funext fun w => funext fun g5 => ?_)
      rw [if_neg (show ¬ nI 45 = (43 : Int32) by decide), jv_45]
  · show m_X10_product_5 C (m + 1) x g = bdd _ (fun w g5 => m_X10_product_5 C m (jv (cc t n p) x w) g5)
    rcases e with e | e | e
    · rw [ac_eq 42 (by omega) e] at ha
      rw [m_X10_product_5, h21, if_pos rfl, ha, bdd_some, if_pos (show nI 42 = (42 : Int32) from rfl), m_X10_product_39, ha, bdd_some, h20, inc, e]
      refine congrArg (bdd _) (funext fun w => funext fun g5 => ?_)
      rw [if_pos (show nI 42 = (42 : Int32) from rfl), jv_42]
    · rw [ac_eq 47 (by omega) e] at ha
      rw [m_X10_product_5, h21, if_pos rfl, ha, bdd_some, if_neg (show ¬ nI 47 = (42 : Int32) by decide), ha, bdd_some, if_pos (show nI 47 = (47 : Int32) from rfl), m_X10_product_39, ha, bdd_some, h20, inc, e]
      refine congrArg (bdd _) (funext fun w => funext fun g5 => ?_)
      rw [if_neg (show ¬ nI 47 = (42 : Int32) by decide), jv_47]
      by_cases z : w = 0
      · rw [if_pos z, if_pos z]
      · rw [if_neg z, if_neg z, if_pos (show nI 47 = (47 : Int32) from rfl), nz_dec z, gdd_true]
    · rw [ac_eq 37 (by omega) e] at ha
      rw [m_X10_product_5, h21, if_pos rfl, ha, bdd_some, if_neg (show ¬ nI 37 = (42 : Int32) by decide), ha, bdd_some, if_neg (show ¬ nI 37 = (47 : Int32) by decide), ha, bdd_some, if_pos (show nI 37 = (37 : Int32) from rfl), m_X10_product_39, ha, bdd_some, h20, inc, e]
      refine congrArg (bdd _) (funext fun w => funext fun g5 => ?_)
      rw [if_neg (show ¬ nI 37 = (42 : Int32) by decide), jv_37]
      by_cases z : w = 0
      · rw [if_pos z, if_pos z]
      · rw [if_neg z, if_neg z, if_neg (show ¬ nI 37 = (47 : Int32) by decide), nz_dec z, gdd_true]
theorem mL_stop {t : Nat → Nat} {n o p k m : Nat} (hk : k < 5) {C : Nat → Int32 → Int32 → Int32 → Int32 → Mm → Option (Int32 × Mm)} {g : Mm} (ht : tb_ t n) (hw : wg t n o p g) (hp : p ≤ n) (x : Int32) (h : ¬ lvl (cc t n p) = k) : mL k C (m + 1) x g = some (x, g) := by
  have ha := hw.at ht hp
  obtain ⟨-, h20, h21, -⟩ := hw
  have no : ∀ c, c < 256 → lvl c = k → ¬ ac t n p = nI c := fun c hc e w => h (by rw [(ac_iff ht hc).mp w]; exact e)
  match k, hk with
  | 0, _ =>
    show m_X10_either_5 C (m + 1) x g = _
    rw [m_X10_either_5, h21, if_pos rfl, ha, bdd_some, if_neg (show ¬ ac t n p = (124 : Int32) from no 124 (by omega) rfl)]
  | 1, _ =>
    show m_X10_both_5 C (m + 1) x g = _
    rw [m_X10_both_5, h21, if_pos rfl, ha, bdd_some, if_neg (show ¬ ac t n p = (38 : Int32) from no 38 (by omega) rfl)]
  | 2, _ =>
    show mc2 C x g = _
    rw [mc2, h21, if_pos rfl, ha, bdd_some, if_neg (show ¬ ac t n p = (60 : Int32) from no 60 (by omega) rfl), ha, bdd_some, if_neg (show ¬ ac t n p = (61 : Int32) from no 61 (by omega) rfl), ha, bdd_some, if_neg (show ¬ ac t n p = (62 : Int32) from no 62 (by omega) rfl)]
  | 3, _ =>
    show m_X10_added_5 C (m + 1) x g = _
    rw [m_X10_added_5, h21, if_pos rfl, ha, bdd_some, if_neg (show ¬ ac t n p = (43 : Int32) from no 43 (by omega) rfl), ha, bdd_some, if_neg (show ¬ ac t n p = (45 : Int32) from no 45 (by omega) rfl)]
  | 4, _ =>
    show m_X10_product_5 C (m + 1) x g = _
    rw [m_X10_product_5, h21, if_pos rfl, ha, bdd_some, if_neg (show ¬ ac t n p = (42 : Int32) from no 42 (by omega) rfl), ha, bdd_some, if_neg (show ¬ ac t n p = (47 : Int32) from no 47 (by omega) rfl), ha, bdd_some, if_neg (show ¬ ac t n p = (37 : Int32) from no 37 (by omega) rfl)]
/-! the class's reader -/
def cd (f : Int32) (g : Mm) : Nat → List (Int32 × Int32) → Prop
  | _, [] => True
  | a, x :: L => rdI g (pgm f + 1) a = x.1 ∧ rdI g (pgm f + 2) a = x.2 ∧ cd f g (a + 1) L
theorem cd_app {f : Int32} {g : Mm} (L : List (Int32 × Int32)) : ∀ (K : List (Int32 × Int32)) (a : Nat), cd f g a (K ++ L) ↔ cd f g a K ∧ cd f g (a + K.length) L := by
  intro K
  induction K with
  | nil => intro a; exact ⟨fun h => ⟨trivial, h⟩, fun h => h.2⟩
  | cons x K ih =>
    intro a
    rw [List.cons_append, cd, cd, ih, List.length_cons, show a + 1 + K.length = a + (K.length + 1) by omega]
    exact ⟨fun h => ⟨⟨h.1, h.2.1, h.2.2.1⟩, h.2.2.2⟩, fun h => ⟨h.1.1, h.1.2.1, h.1.2.2, h.2⟩⟩
theorem cd_cong {f : Int32} {g g' : Mm} : ∀ (K : List (Int32 × Int32)) (a : Nat), cd f g a K → (∀ c i, (c = pgm f + 1 ∨ c = pgm f + 2) → a ≤ i → i < a + K.length → rdI g' c i = rdI g c i) → cd f g' a K := by
  intro K
  induction K with
  | nil => intro a _ _; trivial
  | cons x K ih =>
    intro a h e
    rw [List.length_cons] at e
    refine ⟨?_, ?_, ih (a + 1) h.2.2 (fun c i h1 h2 h3 => e c i h1 (by omega) (by omega))⟩
    · rw [e _ a (Or.inl rfl) (by omega) (by omega)]; exact h.1
    · rw [e _ a (Or.inr rfl) (by omega) (by omega)]; exact h.2.1
/-- what the reader leaves: all but its place and the draft behind its first s steps -/
def rf_ (d : Int32) (s : Nat) (g g' : Mm) : Prop := (∀ c i, ¬ (c = 11 ∧ i = 2) → ¬ (c = pgm d ∧ i = 4) → ¬ ((c = pgm d + 1 ∨ c = pgm d + 2) ∧ s ≤ i) → rdI g' c i = rdI g c i) ∧ g'.2 = g.2
theorem rf_.rf {d : Int32} {s : Nat} {g : Mm} : rf_ d s g g := ⟨fun _ _ _ _ _ => rfl, rfl⟩
theorem rf_.tr {d : Int32} {s s' : Nat} {g g' g2 : Mm} (h : rf_ d s g g') (h2 : rf_ d s' g' g2) (hs : s ≤ s') : rf_ d s g g2 := ⟨fun c i q1 q2 q3 => (h2.1 c i q1 q2 (by omega)).trans (h.1 c i q1 q2 q3), h2.2.trans h.2⟩
theorem rf_.go {d : Int32} {s : Nat} {g g' : Mm} (h : rf_ d s g g') (v : Int32) : rf_ d s g (wrI g' 11 2 v) := by
  refine ⟨fun c i q1 q2 q3 => ?_, h.2⟩
  rw [rI_wI, if_neg q1]
  exact h.1 c i q1 q2 q3
def rg (t : Nat → Nat) (n : Nat) (d : Int32) (s p : Nat) (g : Mm) : Prop := rdI g 11 1 = nI n ∧ rdI g 11 2 = nI p ∧ rdI g 11 4 = d ∧ rdI g (pgm d) 4 = nI s ∧ ∀ i, i < n → rdI g 12 i = nI (t i)
theorem rg.nx {t : Nat → Nat} {n s p s' p' : Nat} {d : Int32} {g g' : Mm} (h : rg t n d s p g) (hf : rf_ d s g g') (h2 : rdI g' 11 2 = nI p') (h4 : rdI g' (pgm d) 4 = nI s') : rg t n d s' p' g' := by
  obtain ⟨h1, -, h3, -, h5⟩ := h
  have hd := pgm_01 d
  refine ⟨?_, h2, ?_, h4, fun i hi => ?_⟩
  · rw [hf.1 11 1 (by omega) (by omega) (by omega)]; exact h1
  · rw [hf.1 11 4 (by omega) (by omega) (by omega)]; exact h3
  · rw [hf.1 12 i (by omega) (by omega) (by omega)]; exact h5 i hi
theorem rg.go {t : Nat → Nat} {n s p : Nat} {d : Int32} {g : Mm} (h : rg t n d s p g) (q : Nat) : rg t n d s q (wrI g 11 2 (nI q)) := by
  have hd := pgm_01 d
  exact h.nx (rf_.rf.go _) (by rw [rI_wI, if_pos ⟨rfl, rfl⟩]) (by rw [rI_wI, if_neg (by omega)]; exact h.2.2.2.1)
theorem add_c {d : Int32} {s : Nat} {g : Mm} (h : rdI g (pgm d) 4 = nI s) (hs : s < 121) (a b : Int32) : m_X4_add d a b g = some (0, wrI (wrI (wrI g (pgm d + 1) s a) (pgm d + 2) s b) (pgm d) 4 (nI (s + 1))) := by
  have e1 : rdI (wrI g (pgm d + 1) s a) (pgm d) 4 = nI s := by rw [rI_wI, if_neg (by omega)]; exact h
  have e2 : rdI (wrI (wrI g (pgm d + 1) s a) (pgm d + 2) s b) (pgm d) 4 = nI s := by rw [rI_wI, if_neg (by omega)]; exact e1
  rw [m_X4_add, h, if_neg (show ¬ (121 : Int32) ≤ nI s from fun w => by have := (nI_leI (a := 121) (by omega) (by omega)).mp w; omega), ix_nI hs (by omega), gdd_true, nI_clamp (by omega), e1, ix_nI hs (by omega), gdd_true, nI_clamp (by omega), e2, nI_1]
theorem rf_add {d : Int32} {s : Nat} (g : Mm) (a b v : Int32) : rf_ d s g (wrI (wrI (wrI g (pgm d + 1) s a) (pgm d + 2) s b) (pgm d) 4 v) := by
  refine ⟨fun c i q1 q2 q3 => ?_, rfl⟩
  rw [rI_wI, if_neg q2, rI_wI, if_neg (by omega), rI_wI, if_neg (by omega)]
theorem cd_add {d : Int32} {s : Nat} (g : Mm) (a b v : Int32) : cd d (wrI (wrI (wrI g (pgm d + 1) s a) (pgm d + 2) s b) (pgm d) 4 v) s [(a, b)] := by
  refine ⟨?_, ?_, trivial⟩
  · rw [rI_wI, if_neg (by omega), rI_wI, if_neg (by omega), rI_wI, if_pos ⟨rfl, rfl⟩]
  · rw [rI_wI, if_neg (by omega), rI_wI, if_pos ⟨rfl, rfl⟩]
theorem cd_rf {d : Int32} {s : Nat} {g g' : Mm} {K : List (Int32 × Int32)} (h : cd d g s K) {s' : Nat} (hf : rf_ d s' g g') (hs : s + K.length ≤ s') : cd d g' s K := cd_cong K s h (fun c i h1 h2 h3 => hf.1 c i (by have := pgm_01 d; omega) (by omega) (by omega))
theorem next_c {t : Nat → Nat} {n s p : Nat} {d : Int32} {g : Mm} (ht : tb_ t n) (hr : rg t n d s p g) (hp : p ≤ n) {k : Nat} (hk : k < 256) : m_X3_isNext (nI k) g = some (bz (decide (cc t n p = k)), g) := by
  obtain ⟨h1, h2, h3, h4, h5⟩ := hr
  have hn := ht.1
  rw [m_X3_isNext, h1, h2]
  by_cases q : p < n
  · have := ht.2 p q
    rw [if_neg (by rw [nI_leI (by omega) (by omega)]; omega), ix_nI (by omega) (by omega), gdd_true, nI_clamp (by omega), h5 p q, cc_in q]
    by_cases z : t p = k
    · rw [if_pos (by rw [z]), decide_eq_true z]
      rfl
    · rw [if_neg (fun w => by exact z ((nI_eq (by omega) (by omega)).mp w)), decide_eq_false z]
      rfl
  · rw [if_pos (by rw [nI_leI (by omega) (by omega)]; omega), cc_out q, decide_eq_false (by omega)]
    rfl
theorem rj_flag {C : Nat → Int32 → Int32 → Int32 → Int32 → Mm → Option (Int32 × Mm)} (m : Nat) (x1 x2 : Int32) (g : Mm) : m_X3_readJoined_15 C (m + 1) x1 x2 0 g = some (1, g) := by
  rw [m_X3_readJoined_15, if_pos rfl]
theorem rj_stop {t : Nat → Nat} {n s p k m : Nat} {d : Int32} (hk : k < 5) {C : Nat → Int32 → Int32 → Int32 → Int32 → Mm → Option (Int32 × Mm)} {g : Mm} (ht : tb_ t n) (hr : rg t n d s p g) (hp : p ≤ n) (o : Int32) (h : ¬ lvl (cc t n p) = k) : m_X3_readJoined_15 C (m + 1) (nI k) o 1 g = some (1, g) := by
  obtain ⟨h1, h2, h3, h4, h5⟩ := hr
  have hn := ht.1
  rw [m_X3_readJoined_15, if_neg (by decide), h1, h2]
  by_cases q : p < n
  · rw [cc_in q] at h
    rw [if_neg (by rw [nI_leI (by omega) (by omega)]; omega), ix_nI (by omega) (by omega), gdd_true, nI_clamp (by omega), h5 p q, levelOf_c, bdd_some, if_neg (fun w => by exact h ((lv_iff _ (ht.2 p q) k hk).mp w))]
  · rw [if_pos (by rw [nI_leI (by omega) (by omega)]; omega)]
theorem rj_step {t : Nat → Nat} {n s p k m : Nat} {d : Int32} (hk : k < 5) {C : Nat → Int32 → Int32 → Int32 → Int32 → Mm → Option (Int32 × Mm)} {g : Mm} (ht : tb_ t n) (hr : rg t n d s p g) (o : Int32) (h : lvl (cc t n p) = k) :
    m_X3_readJoined_15 C (m + 1) (nI k) o 1 g = bdd (C 0 (nI (k + 1)) o 0 0 (wrI g 11 2 (nI (p + 1)))) (fun ra10 ga11 => (if ra10 = (0 : Int32) then some ((0 : Int32), ga11) else bdd (m_X4_add (rdI ga11 11 4) (nI (cc t n p)) 0 ga11) (fun _ ga15 => (if k = 2 then m_X3_readJoined_15 C m (nI k) o 0 ga15 else m_X3_readJoined_15 C m (nI k) o 1 ga15)))) := by
  obtain ⟨h1, h2, h3, h4, h5⟩ := hr
  have hn := ht.1
  obtain ⟨hc, -⟩ := lvl_lt h hk
  obtain ⟨q, e⟩ := cc_lt ht hc
  rw [e] at h ⊢
  rw [m_X3_readJoined_15, if_neg (by decide), h1, h2, if_neg (by rw [nI_leI (by omega) (by omega)]; omega), ix_nI (by omega) (by omega), gdd_true, nI_clamp (by omega), h5 p q, levelOf_c, bdd_some, if_pos ((lv_iff _ (ht.2 p q) k hk).mpr h), h2, ix_nI (by omega) (by omega), gdd_true, nI_clamp (by omega), h5 p q, nI_1, nI_1]
  unfold lti
  refine congrArg (bdd _) (funext fun w => funext fun g5 => ?_)
  split
  · rfl
  · refine congrArg (bdd _) (funext fun w => funext fun g5 => ?_)
    by_cases z : k = 2
    · rw [if_pos z, if_pos (by rw [z]; rfl)]
    · rw [if_neg z, if_neg (show ¬ nI k = (2 : Int32) from fun w => z ((nI_eq (b := 2) (by omega) (by omega)).mp w))]
