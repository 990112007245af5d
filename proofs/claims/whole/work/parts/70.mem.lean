/-! THE MEMORY: reading what was written; ints that are naturals -/
theorem rI_wI (g : Mm) (c i d j : Nat) (v : Int32) : rdI (wrI g c i v) d j = if d = c ∧ j = i then v else rdI g d j := by
  simp only [rdI, wrI, up_f]
  by_cases h : d = c
  · subst h
    by_cases q : j = i <;> simp [q, up_f]
  · simp [h]
theorem rI_wL (g : Mm) (c i d j : Nat) (v : Int64) : rdI (wrL g c i v) d j = rdI g d j := rfl
theorem rL_wI (g : Mm) (c i d j : Nat) (v : Int32) : rdL (wrI g c i v) d j = rdL g d j := rfl
theorem rL_wL (g : Mm) (c i d j : Nat) (v : Int64) : rdL (wrL g c i v) d j = if d = c ∧ j = i then v else rdL g d j := by
  simp only [rdL, wrL, up_f]
  by_cases h : d = c
  · subst h
    by_cases q : j = i <;> simp [q, up_f]
  · simp [h]
theorem rI_cI (g : Mm) (a i b j n d k : Nat) : rdI (cpI g a i b j n) d k = if d = b ∧ j ≤ k ∧ k < j + n then rdI g a (i + (k - j)) else rdI g d k := by
  simp only [rdI, cpI, up_f]
  by_cases h : d = b
  · subst h
    by_cases q : j ≤ k ∧ k < j + n <;> simp [q]
  · simp [h]
theorem rI_cL (g : Mm) (a i b j n d k : Nat) : rdI (cpL g a i b j n) d k = rdI g d k := rfl
theorem rL_cI (g : Mm) (a i b j n d k : Nat) : rdL (cpI g a i b j n) d k = rdL g d k := rfl
theorem rL_cL (g : Mm) (a i b j n d k : Nat) : rdL (cpL g a i b j n) d k = if d = b ∧ j ≤ k ∧ k < j + n then rdL g a (i + (k - j)) else rdL g d k := by
  simp only [rdL, cpL, up_f]
  by_cases h : d = b
  · subst h
    by_cases q : j ≤ k ∧ k < j + n <;> simp [q]
  · simp [h]
/-! numbers -/
theorem fa_lt (a b : Int32) : a < b ↔ a.toInt < b.toInt := Int32.lt_iff_toInt_lt
theorem fa_le (a b : Int32) : a ≤ b ↔ a.toInt ≤ b.toInt := Int32.le_iff_toInt_le
theorem fa_eq (a b : Int32) : a = b ↔ a.toInt = b.toInt := Int32.toInt_inj.symm
theorem fa_lit (n : Nat) : (OfNat.ofNat n : Int32) = nI n := rfl
theorem ix_nI {k n : Nat} (h : k < n) (hn : k < 2 ^ 31) : ixo (nI k) n = true := by
  simp only [ixo, nI_toInt hn, Bool.and_eq_true, decide_eq_true_eq]
  omega
theorem ti_nI {k : Nat} (h : k < 2 ^ 31) : (nI k).toInt = (k : Int) := nI_toInt h
theorem rm_nI {a d : Nat} (ha : a < 2 ^ 31) (h0 : 0 < d) (hd : d < 2 ^ 31) : rmI (nI a) (nI d) = nI (a % d) := pk_rem ha h0 hd
/-- an int that isn't negative, by its number -/
theorem nI_get {x : Int32} (h : 0 ≤ x.toInt) : x = nI x.toInt.toNat ∧ x.toInt.toNat < 2 ^ 31 := by
  obtain ⟨j, hj, e⟩ := nI_of (x := x) (by rw [fa_lt]; show ¬ x.toInt < 0; omega)
  subst e
  rw [nI_toInt hj]
  exact ⟨rfl, hj⟩
theorem nI_rng {x : Int32} {a b : Int32} {m n : Nat} (hm : a.toInt = (m : Int)) (hn : b.toInt = (n : Int)) (h1 : ¬ x < a) (h2 : x ≤ b) : ∃ k, m ≤ k ∧ k ≤ n ∧ x = nI k := by
  rw [fa_lt] at h1
  rw [fa_le] at h2
  obtain ⟨e, -⟩ := nI_get (x := x) (by omega)
  exact ⟨x.toInt.toNat, by omega, by omega, e⟩
/-! THE INVARIANT: both objects well formed, and alike -/
def gv_t (nb nh hd : Nat) (g : Mm) : Prop :=
  (nb ≤ 6 ∧ 2 ≤ nh ∧ nh ≤ 24 ∧ 1 ≤ hd ∧ hd ≤ 6) ∧
  (rdI g 1 0 = nI nb ∧ rdI g 1 1 = nI nh ∧ rdI g 1 2 = nI hd ∧ rdI g 40 4 = nI nb ∧ rdI g 40 5 = nI nh ∧ rdI g 40 6 = nI hd) ∧
  (∀ b, b < 6 → rdI g 41 b = rdI g 2 b ∧ rdI g 42 b = rdI g 3 b ∧ rdI g 43 b = rdI g 4 b) ∧
  (∀ b, b < nb → (∃ k, 1 ≤ k ∧ k ≤ 15 ∧ rdI g 2 b = nI k) ∧ (∃ k, k ≤ 99 ∧ rdI g 3 b = nI k) ∧ ∃ k, k ≤ 100 ∧ rdI g 4 b = nI k) ∧
  (∀ k, k < 144 → rdI g 44 k = rdI g 5 k ∧ ∃ v, v ≤ 15 ∧ rdI g 5 k = nI v) ∧
  (∀ h b, h < 24 → b < 6 → (nh ≤ h ∨ nb ≤ b) → rdI g 5 (6 * h + b) = nI 0)
/-- the bit of two hours in the class's rows -/
def mx_ (g : Mm) (i j : Nat) : Bool := (rdI g 6 i).toNatClampNeg.testBit j
def gv_x (nh : Nat) (g : Mm) : Prop :=
  (∀ h, h < 24 → rdI g 45 h = rdI g 6 h) ∧ (∀ h, h < 24 → ∃ k, k < 2 ^ nh ∧ rdI g 6 h = nI k ∧ (nh ≤ h → k = 0)) ∧ ∀ i j, i < 24 → j < 24 → mx_ g i j = mx_ g j i
/-- a change: where, what it was, what it became -/
def ch_ok (nb nh : Nat) (p v w : Int32) : Prop :=
  (∃ b, b < nb ∧ p = nI (1000 + b) ∧ (∃ a, 1 ≤ a ∧ a ≤ 15 ∧ v = nI a) ∧ ∃ a, 1 ≤ a ∧ a ≤ 15 ∧ w = nI a) ∨ ∃ h b, h < nh ∧ b < nb ∧ p = nI (10 * h + b) ∧ (∃ a, a ≤ 15 ∧ v = nI a) ∧ ∃ a, a ≤ 15 ∧ w = nI a
def gv_c (cd ck nb nh : Nat) (g : Mm) : Prop :=
  (cd ≤ ck ∧ ck ≤ 40) ∧ (rdI g 7 3 = nI cd ∧ rdI g 7 4 = nI ck ∧ rdI g 40 12 = nI cd ∧ rdI g 40 13 = nI (ck - cd)) ∧
  ∀ k, k < ck → (rdI g 46 k = rdI g 8 k ∧ rdI g 47 k = rdI g 9 k ∧ rdI g 48 k = rdI g 10 k) ∧ ch_ok nb nh (rdI g 8 k) (rdI g 9 k) (rdI g 10 k)
def gv_p (tl : Nat) (g : Mm) : Prop :=
  tl ≤ 120 ∧ (rdI g 11 1 = nI tl ∧ rdI g 40 15 = nI tl) ∧ ∀ k, k < tl → rdI g 49 k = rdI g 12 k ∧ ∃ v, v ≤ 255 ∧ rdI g 12 k = nI v
/-- a stroke heard: -1 or a number -/
def er_ok (x : Int32) : Prop := x = -1 ∨ ∃ v, v ≤ 15 ∧ x = nI v
def gv_e (rt nn nb : Nat) (g : Mm) : Prop :=
  (rt ≤ nb ∧ nn ≤ 12) ∧ (rdI g 29 3 = nI rt ∧ rdI g 29 4 = nI nn ∧ rdI g 40 33 = nI rt ∧ rdI g 40 38 = nI nn) ∧
  (∀ k, k < 6 → (k < rt → rdI g 51 k = rdI g 30 k ∧ er_ok (rdI g 30 k)) ∧ (rt ≤ k → rdI g 30 k = -1)) ∧
  ∀ k, k < 6 * nn → rdI g 55 k = rdI g 31 k ∧ er_ok (rdI g 31 k)
def gv_a (na ra : Nat) (g : Mm) : Prop :=
  (na ≤ 50 ∧ ra < 1000) ∧ (rdI g 32 2 = nI na ∧ rdI g 40 40 = nI na ∧ rdI g 32 3 = nI ra ∧ rdI g 40 42 = nI ra) ∧
  (∀ k, k < na → rdI g 56 k = rdI g 33 k ∧ ∃ v, v < 8 ∧ rdI g 33 k = nI v) ∧ ∀ k, k < ra → k < 24 → rdI g 57 k = rdI g 34 k
def sh_ok (na s : Nat) (g : Mm) : Prop :=
  (rdI g 36 s = -1 ∧ rdI g 58 s = nI 0 ∧ rdI g 38 s = nI 0) ∨ (∃ b, b < na ∧ rdI g 36 s = nI 5 ∧ rdI g 58 s = nI 1 ∧ rdI g 38 s = nI 0 ∧ rdI g 37 s = nI b ∧ rdI g 59 s = nI b) ∨
  ∃ t n, t < 5 ∧ n ≤ 60 ∧ rdI g 36 s = nI t ∧ rdI g 58 s = nI 2 ∧ rdI g 60 s = nI t ∧ rdI g 38 s = nI n ∧ rdI g 61 s = nI n ∧ ∀ i, i < n → rdL g 62 (60 * s + i) = rdL g 39 (60 * s + i)
def gv_s (na : Nat) (g : Mm) : Prop := ∀ s, s < 6 → sh_ok na s g
/-! each part rests on its own places alone -/
def pl_t (c i : Nat) : Bool := c == 1 || c == 2 || c == 3 || c == 4 || c == 5 || c == 41 || c == 42 || c == 43 || c == 44 || (c == 40 && (i == 4 || i == 5 || i == 6))
def pl_x (c _ : Nat) : Bool := c == 6 || c == 45
def pl_c (c i : Nat) : Bool := c == 7 || c == 8 || c == 9 || c == 10 || c == 46 || c == 47 || c == 48 || (c == 40 && (i == 12 || i == 13))
def pl_p (c i : Nat) : Bool := (c == 11 && i == 1) || c == 12 || c == 49 || (c == 40 && i == 15)
def pl_e (c i : Nat) : Bool := c == 29 || c == 30 || c == 31 || c == 51 || c == 55 || (c == 40 && (i == 33 || i == 38))
def pl_a (c i : Nat) : Bool := (c == 32 && (i == 2 || i == 3)) || c == 33 || c == 34 || c == 56 || c == 57 || (c == 40 && (i == 40 || i == 42))
def pl_s (c _ : Nat) : Bool := c == 36 || c == 37 || c == 38 || c == 58 || c == 59 || c == 60 || c == 61
theorem gv_t.cong {nb nh hd : Nat} {g g' : Mm} (h : gv_t nb nh hd g) (e : ∀ c i, pl_t c i = true → rdI g' c i = rdI g c i) : gv_t nb nh hd g' := by
  obtain ⟨h1, ⟨a1, a2, a3, a4, a5, a6⟩, h3, h4, h5, h6⟩ := h
  refine ⟨h1, ⟨?_, ?_, ?_, ?_, ?_, ?_⟩, fun b hb => ?_, fun b hb => ?_, fun k hk => ?_, fun x b hx hb q => ?_⟩
  · rw [e 1 0 rfl]; exact a1
  · rw [e 1 1 rfl]; exact a2
  · rw [e 1 2 rfl]; exact a3
  · rw [e 40 4 rfl]; exact a4
  · rw [e 40 5 rfl]; exact a5
  · rw [e 40 6 rfl]; exact a6
  · rw [e 41 b rfl, e 42 b rfl, e 43 b rfl, e 2 b rfl, e 3 b rfl, e 4 b rfl]; exact h3 b hb
  · rw [e 2 b rfl, e 3 b rfl, e 4 b rfl]; exact h4 b hb
  · rw [e 44 k rfl, e 5 k rfl]; exact h5 k hk
  · rw [e 5 _ rfl]; exact h6 x b hx hb q
theorem gv_x.cong {nh : Nat} {g g' : Mm} (h : gv_x nh g) (e : ∀ c i, pl_x c i = true → rdI g' c i = rdI g c i) : gv_x nh g' := by
  obtain ⟨h1, h2, h3⟩ := h
  refine ⟨fun x hx => ?_, fun x hx => ?_, fun i j hi hj => ?_⟩
  · rw [e 45 x rfl, e 6 x rfl]; exact h1 x hx
  · rw [e 6 x rfl]; exact h2 x hx
  · unfold mx_; rw [e 6 i rfl, e 6 j rfl]; exact h3 i j hi hj
theorem gv_c.cong {cd ck nb nh : Nat} {g g' : Mm} (h : gv_c cd ck nb nh g) (e : ∀ c i, pl_c c i = true → rdI g' c i = rdI g c i) : gv_c cd ck nb nh g' := by
  obtain ⟨h1, ⟨a1, a2, a3, a4⟩, h3⟩ := h
  refine ⟨h1, ⟨?_, ?_, ?_, ?_⟩, fun k hk => ?_⟩
  · rw [e 7 3 rfl]; exact a1
  · rw [e 7 4 rfl]; exact a2
  · rw [e 40 12 rfl]; exact a3
  · rw [e 40 13 rfl]; exact a4
  · rw [e 46 k rfl, e 47 k rfl, e 48 k rfl, e 8 k rfl, e 9 k rfl, e 10 k rfl]; exact h3 k hk
theorem gv_p.cong {tl : Nat} {g g' : Mm} (h : gv_p tl g) (e : ∀ c i, pl_p c i = true → rdI g' c i = rdI g c i) : gv_p tl g' := by
  obtain ⟨h1, ⟨a1, a2⟩, h3⟩ := h
  refine ⟨h1, ⟨?_, ?_⟩, fun k hk => ?_⟩
  · rw [e 11 1 rfl]; exact a1
  · rw [e 40 15 rfl]; exact a2
  · rw [e 49 k rfl, e 12 k rfl]; exact h3 k hk
theorem gv_e.cong {rt nn nb : Nat} {g g' : Mm} (h : gv_e rt nn nb g) (e : ∀ c i, pl_e c i = true → rdI g' c i = rdI g c i) : gv_e rt nn nb g' := by
  obtain ⟨h1, ⟨a1, a2, a3, a4⟩, h3, h4⟩ := h
  refine ⟨h1, ⟨?_, ?_, ?_, ?_⟩, fun k hk => ?_, fun k hk => ?_⟩
  · rw [e 29 3 rfl]; exact a1
  · rw [e 29 4 rfl]; exact a2
  · rw [e 40 33 rfl]; exact a3
  · rw [e 40 38 rfl]; exact a4
  · rw [e 51 k rfl, e 30 k rfl]; exact h3 k hk
  · rw [e 55 k rfl, e 31 k rfl]; exact h4 k hk
theorem gv_a.cong {na ra : Nat} {g g' : Mm} (h : gv_a na ra g) (e : ∀ c i, pl_a c i = true → rdI g' c i = rdI g c i) : gv_a na ra g' := by
  obtain ⟨h1, ⟨a1, a2, a3, a4⟩, h3, h4⟩ := h
  refine ⟨h1, ⟨?_, ?_, ?_, ?_⟩, fun k hk => ?_, fun k hk hk2 => ?_⟩
  · rw [e 32 2 rfl]; exact a1
  · rw [e 40 40 rfl]; exact a2
  · rw [e 32 3 rfl]; exact a3
  · rw [e 40 42 rfl]; exact a4
  · rw [e 56 k rfl, e 33 k rfl]; exact h3 k hk
  · rw [e 57 k rfl, e 34 k rfl]; exact h4 k hk hk2
theorem sh_ok.cong {na s : Nat} {g g' : Mm} (h : sh_ok na s g) (e : ∀ c, pl_s c s = true → rdI g' c s = rdI g c s) (e2 : ∀ i, i < 60 → rdL g' 39 (60 * s + i) = rdL g 39 (60 * s + i) ∧ rdL g' 62 (60 * s + i) = rdL g 62 (60 * s + i)) : sh_ok na s g' := by
  unfold sh_ok
  rw [e 36 rfl, e 37 rfl, e 38 rfl, e 58 rfl, e 59 rfl, e 60 rfl, e 61 rfl]
  rcases h with h | h | ⟨t, n, h1, h2, h3, h4, h5, h6, h7, h8⟩
  · exact Or.inl h
  · exact Or.inr (Or.inl h)
  · refine Or.inr (Or.inr ⟨t, n, h1, h2, h3, h4, h5, h6, h7, fun i hi => ?_⟩)
    rw [(e2 i (by omega)).1, (e2 i (by omega)).2]
    exact h8 i hi
theorem gv_s.cong {na : Nat} {g g' : Mm} (h : gv_s na g) (e : ∀ c i, pl_s c i = true → rdI g' c i = rdI g c i) (e2 : ∀ i, rdL g' 39 i = rdL g 39 i ∧ rdL g' 62 i = rdL g 62 i) : gv_s na g' :=
  fun s hs => (h s hs).cong (fun c hc => e c s hc) (fun i _ => e2 _)
/-! the law: semantically: over any memory that holds this text and this program, both give the same -/
def pl_l (f : Int32) (c i : Nat) : Bool := (c == pgm f && i == 4) || c == pgm f + 1 || c == pgm f + 2 || c == 50 || (c == 40 && (i == 17 || i == 18)) || (c == 11 && (i == 3 || i == 4))
def tr6 (N : Nat → Int32) (j : Nat) : Int32 := if j < 6 then N j else 0
def lw_run (f : Int32) (g : Mm) : Prop := ∃ res : (Nat → Int32) → Int32,
  (∀ g' : Mm, (∀ c i, pl_l f c i = true → rdI g' c i = rdI g c i) → ∃ ga : Mm, m_X4_work f g' = some (res (tr6 (fun j => rdI g' (pgm f + 4) j)), ga) ∧ (∀ c i, c ≠ pgm f + 3 → rdI ga c i = rdI g' c i) ∧ ga.2 = g'.2) ∧
  ∀ g' : Mm, (∀ c i, pl_l f c i = true → rdI g' c i = rdI g c i) → rdI g' 40 19 = 0 → ∃ gb : Mm, m_X10_walks g' = some (res (tr6 (fun j => rdI g' 40 (23 + j))), gb) ∧ (∀ c i, ¬ (c = 40 ∧ 20 ≤ i ∧ i ≤ 22) → rdI gb c i = rdI g' c i) ∧ gb.2 = g'.2
def gv_l (f : Int32) (g : Mm) : Prop :=
  ((f = 0 ∧ rdI g 11 3 = 0 ∧ rdI g 11 4 = 1) ∨ (f = 1 ∧ rdI g 11 3 = 1 ∧ rdI g 11 4 = 0)) ∧
  ((rdI g 40 18 = 0 ∧ rdI g (pgm f) 4 = 0) ∨ (rdI g 40 18 = 1 ∧ (∃ n, 1 ≤ n ∧ n ≤ 121 ∧ rdI g (pgm f) 4 = nI n) ∧ lw_run f g))
theorem gv_l.cong {f : Int32} {g g' : Mm} (h : gv_l f g) (e : ∀ c i, pl_l f c i = true → rdI g' c i = rdI g c i) : gv_l f g' := by
  obtain ⟨h1, h2⟩ := h
  have e1 : rdI g' 11 3 = rdI g 11 3 := e 11 3 (by simp [pl_l])
  have e2 : rdI g' 11 4 = rdI g 11 4 := e 11 4 (by simp [pl_l])
  have e3 : rdI g' 40 18 = rdI g 40 18 := e 40 18 (by simp [pl_l])
  have e4 : rdI g' (pgm f) 4 = rdI g (pgm f) 4 := e _ 4 (by simp [pl_l])
  unfold gv_l
  rw [e1, e2, e3, e4]
  refine ⟨h1, ?_⟩
  rcases h2 with h2 | ⟨a, b, c⟩
  · exact Or.inl h2
  · obtain ⟨res, c1, c2⟩ := c
    exact Or.inr ⟨a, b, res, fun g2 q => c1 g2 (fun c i hc => (q c i hc).trans (e c i hc)), fun g2 q => c2 g2 (fun c i hc => (q c i hc).trans (e c i hc))⟩
def gv_ (g : Mm) : Prop := ∃ (nb nh hd cd ck tl rt nn na ra : Nat) (f : Int32), gv_t nb nh hd g ∧ gv_x nh g ∧ gv_c cd ck nb nh g ∧ gv_p tl g ∧ gv_l f g ∧ gv_e rt nn nb g ∧ gv_a na ra g ∧ gv_s na g
/-- a call of the class and then the same of the reference: both answer, alike, and the invariant holds -/
def al_ {β : Type} (x y : Mm → Option (β × Mm)) (g : Mm) : Prop := ∃ (r : β) (g1 g2 : Mm), x g = some (r, g1) ∧ y g1 = some (r, g2) ∧ gv_ g2
theorem al_.same {β : Type} {x y : Mm → Option (β × Mm)} {g : Mm} {r : β} (hg : gv_ g) (h1 : x g = some (r, g)) (h2 : y g = some (r, g)) : al_ x y g := ⟨r, g, g, h1, h2, hg⟩
/-! numbers again: toInt of a sum that stays within -/
theorem ti_add {x y : Int32} (h1 : -2147483648 ≤ x.toInt + y.toInt) (h2 : x.toInt + y.toInt < 2147483648) : (x + y).toInt = x.toInt + y.toInt := by
  rw [Int32.toInt_add]
  exact Int.bmod_eq_of_le (by omega) (by omega)
theorem ti_sub {x y : Int32} (h1 : -2147483648 ≤ x.toInt - y.toInt) (h2 : x.toInt - y.toInt < 2147483648) : (x - y).toInt = x.toInt - y.toInt := by
  rw [Int32.toInt_sub]
  exact Int.bmod_eq_of_le (by omega) (by omega)
theorem ti_mul {x y : Int32} (h1 : -2147483648 ≤ x.toInt * y.toInt) (h2 : x.toInt * y.toInt < 2147483648) : (x * y).toInt = x.toInt * y.toInt := by
  rw [Int32.toInt_mul]
  exact Int.bmod_eq_of_le (by omega) (by omega)
theorem ti_rng (x : Int32) : -2147483648 ≤ x.toInt ∧ x.toInt < 2147483648 := ⟨by have := Int32.le_toInt x; simpa using this, by have := Int32.toInt_lt x; simpa using this⟩
def bz (b : Bool) : Int32 := match b with
  | true => 1
  | false => 0
theorem bz_0 (b : Bool) : (bz b = 0) ↔ b = false := by cases b <;> decide
theorem cmp_lt (x y : Int64) : (lg_cmp x y < (0 : Int32)) ↔ x < y := by
  unfold lg_cmp
  split
  · rename_i h
    constructor
    · intro q; exact absurd q (by decide)
    · intro q; rw [gt_iff_lt, Int64.lt_iff_toInt_lt] at h; rw [Int64.lt_iff_toInt_lt] at q; omega
  · split
    · rename_i h
      subst h
      constructor
      · intro q; exact absurd q (by decide)
      · intro q; rw [Int64.lt_iff_toInt_lt] at q; omega
    · rename_i h1 h2
      constructor
      · intro _
        have h3 : x.toInt ≠ y.toInt := fun q => h2 (Int64.toInt_inj.mp q)
        rw [gt_iff_lt, Int64.lt_iff_toInt_lt] at h1
        rw [Int64.lt_iff_toInt_lt]
        omega
      · intro _; decide
theorem cmp_gt (x y : Int64) : ((0 : Int32) < lg_cmp x y) ↔ y < x := by
  unfold lg_cmp
  split
  · rename_i h
    exact ⟨fun _ => h, fun _ => by decide⟩
  · split
    · rename_i h1 h
      exact ⟨fun q => absurd q (by decide), fun q => absurd q h1⟩
    · rename_i h1 h2
      exact ⟨fun q => absurd q (by decide), fun q => absurd q h1⟩
theorem cmp_eq (x y : Int64) : (lg_cmp x y = (0 : Int32)) ↔ x = y := by
  unfold lg_cmp
  split
  · rename_i h
    constructor
    · intro q; exact absurd q (by decide)
    · intro q; subst q; rw [gt_iff_lt, Int64.lt_iff_toInt_lt] at h; omega
  · split
    · rename_i h
      exact ⟨fun _ => h, fun _ => rfl⟩
    · rename_i h
      exact ⟨fun q => absurd q (by decide), fun q => absurd q h⟩
theorem t64 (x : Int32) : x.toInt64.toInt = x.toInt := Int32.toInt_toInt64 x
