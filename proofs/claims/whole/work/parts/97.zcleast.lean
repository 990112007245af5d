/-! least: the class -/
theorem rows_there {nb nh hd : Nat} {mo : Nat → Nat} {g : Mm} (hs : sb_ nb nh hd mo g) : m_X5_rowsThereAre g = some (nI (pw_ mo nb), g) := by
  obtain ⟨⟨a1, a2, a3, a4, a5⟩, ⟨t1, t2, t3⟩, t4⟩ := hs
  have key : ∀ (fu i : Nat), nb < i + fu → i ≤ nb → m_X5_rowsThereAre_4 fu (nI (pw_ mo i)) (nI i) g = some (nI (pw_ mo nb), g) := by
    intro fu
    induction fu with
    | zero => intro i h1 h2; omega
    | succ fu ih =>
      intro i h1 h2
      rw [m_X5_rowsThereAre_4, t1]
      by_cases q : i = nb
      · subst q
        rw [if_pos (by rw [nI_leI (by omega) (by omega)]; omega)]
      · have e := ih (i + 1) (by omega) (by omega)
        rw [pw_] at e
        rw [if_neg (by rw [nI_leI (by omega) (by omega)]; omega), ix_nI (by omega) (by omega), gdd_true, nI_clamp (by omega), (t4 i (by omega)).1, nI_1, pk_mul, nI_1]
        exact e
  obtain ⟨F, eF, hF⟩ := fu_get
  rw [m_X5_rowsThereAre, eF]
  exact key F 0 (by omega) (by omega)
theorem pw_sb {nb nh hd : Nat} {mo : Nat → Nat} {g : Mm} (hs : sb_ nb nh hd mo g) : pw_ mo nb ≤ 4096 := by
  have h1 := pw_le (mo := mo) (M := 15) nb (fun b hb => (hs.2.2 b hb).2)
  have h2 : (15 + 1) ^ nb ≤ (15 + 1) ^ 3 := Nat.pow_le_pow_right (by decide) hs.1.2.1
  omega
theorem tables_c {nb nh hd : Nat} {mo : Nat → Nat} {g : Mm} (hs : sb_ nb nh hd mo g) (h4 : nh ≤ 4) : m_X5_mayTryAllTables g = some (bz (decide (pw_ mo nb ^ nh ≤ 65536)), g) := by
  obtain ⟨⟨a1, a2, a3, a4, a5⟩, ⟨t1, t2, t3⟩, t4⟩ := id hs
  have hpw := pw_sb hs
  have hlim : ∀ i, i ≤ nh → pw_ mo nb ^ i < 2 ^ 62 := fun i hi => by
    have h1 : pw_ mo nb ^ i ≤ 4096 ^ i := Nat.pow_le_pow_left hpw i
    have h2 : 4096 ^ i ≤ 4096 ^ 4 := Nat.pow_le_pow_right (by decide) (by omega)
    omega
  have key : ∀ (fu i : Nat), nh < i + fu → i ≤ nh → m_X5_mayTryAllTables_24 fu (lN (pw_ mo nb ^ i)) (nI i) g = some (bz (decide (pw_ mo nb ^ nh ≤ 65536)), g) := by
    intro fu
    induction fu with
    | zero => intro i h1 h2; omega
    | succ fu ih =>
      intro i h1 h2
      rw [m_X5_mayTryAllTables_24, t2]
      by_cases q : i = nh
      · subst q
        rw [if_pos (by rw [nI_leI (by omega) (by omega)]; omega)]
        by_cases z : 65536 < pw_ mo nb ^ i
        · rw [if_pos ((gt_lN (hlim i h2)).mpr z), decide_eq_false (by omega)]
          rfl
        · rw [if_neg (fun w => z ((gt_lN (hlim i h2)).mp w)), decide_eq_true (by omega)]
          rfl
      · have e := ih (i + 1) (by omega) (by omega)
        rw [Nat.pow_succ] at e
        rw [if_neg (by rw [nI_leI (by omega) (by omega)]; omega), rows_there hs, bdd_some, nI_l (by omega), lN_mul, nI_1]
        exact e
  obtain ⟨F, eF, hF⟩ := fu_get
  rw [m_X5_mayTryAllTables, rows_c t1 (by omega), decide_eq_true ⟨a1, a2⟩, bdd_some, if_neg (show ¬ bz true = 0 by decide), t2, if_pos (show nI nh ≤ (4 : Int32) from (nI_leI (b := 4) (by omega) (by omega)).mpr h4), eF]
  exact key F 0 (by omega) (by omega)
theorem sp15 {nb nh hd : Nat} {mo : Nat → Nat} : ∀ (k fu left s : Nat) (g : Mm), k ≤ nb → k < fu → left < 2 ^ 31 → sb_ nb nh hd mo g →
    ∃ g', fr_ c26 g g' ∧ (∀ j, j < k → rdI g' 26 j = nI (rdig mo k left j)) ∧ (∀ j, k ≤ j → rdI g' 26 j = rdI g 26 j) ∧ m_X5_spell_15 fu (nI left) (nI s) (ii_ k) g = some (nI (s + sm (rdig mo k left) k), g') := by
  intro k
  induction k with
  | zero =>
    intro fu left s g h1 h2 h3 hs
    obtain ⟨fu, rfl⟩ : ∃ f, fu = f + 1 := ⟨fu - 1, by omega⟩
    refine ⟨g, fr_.rf, fun j hj => absurd hj (Nat.not_lt_zero _), fun j _ => rfl, ?_⟩
    rw [m_X5_spell_15, if_pos (show ii_ 0 < (0 : Int32) by decide)]
    rfl
  | succ k ih =>
    intro fu left s g h1 h2 h3 hs
    obtain ⟨fu, rfl⟩ : ∃ f, fu = f + 1 := ⟨fu - 1, by omega⟩
    have hk := hs.1.2.1
    obtain ⟨m1, m2⟩ := hs.2.2 k (by omega)
    have hm := Nat.mod_lt left (show 0 < mo k + 1 by omega)
    have hdv := Nat.div_le_self left (mo k + 1)
    have f1 : fr_ c26 g (wrI g 26 k (nI (left % (mo k + 1)))) := fr_.rf.w _ rfl
    obtain ⟨g', e1, e2, e3, e4⟩ := ih fu (left / (mo k + 1)) (s + left % (mo k + 1)) _ (by omega) (by omega) (by omega) (hs.fr f1 (fun _ => rfl) (fun _ => rfl))
    refine ⟨g', f1.tr e1, fun j hj => ?_, fun j hj => ?_, ?_⟩
    · rw [rdig]
      by_cases q : j = k
      · rw [if_pos q, e3 j (by omega), rI_wI, if_pos ⟨rfl, q⟩]
      · rw [if_neg q, e2 j (by omega)]
    · rw [e3 j (by omega), rI_wI, if_neg (by omega)]
    · have d0 : decide (¬ nI (mo k + 1) = (0 : Int32)) = true := decide_eq_true (fun w => by have := (nI_eq (b := 0) (by omega) (by omega)).mp w; omega)
      have r54 : rdI (wrI g 26 k (nI (left % (mo k + 1)))) 26 k = nI (left % (mo k + 1)) := by rw [rI_wI, if_pos ⟨rfl, rfl⟩]
      rw [rdig_sum, ← Nat.add_assoc, ← e4, m_X5_spell_15, if_neg (show ¬ ii_ (k + 1) < (0 : Int32) from fun w => by have := (ii_0 (by omega)).mp w; omega), ii_p, show ii_ (k + 1) = nI k from rfl, ix_nI (by omega) (by omega), gdd_true, nI_clamp (by omega), m1, nI_1]
      dsimp only [lti]
      rw [d0, gdd_true, gdd_true, gdd_true, gdd_true, rm_nI h3 (by omega) (by omega), r54, pk_div h3 (by omega) (by omega), nI_add]
/-! rows of a number of tables -/
def RW (nb : Nat) (mo : Nat → Nat) (h p a b : Nat) : Nat := rdig mo nb (cdg (pw_ mo nb) h p a) b
def ps_ (nb : Nat) (mo : Nat → Nat) (h p : Nat) : Nat := sm (fun a => sm (RW nb mo h p a) nb) h
theorem cdg_P {rows h p c a : Nat} (hc : c < rows) : cdg rows (h + 1) (rows * p + c) a = if a = h then c else cdg rows h p a := by
  obtain ⟨d1, d2⟩ := div_pk (m := rows) (q := p) (z := c) hc
  rw [cdg, d1, d2]
theorem chk_congr {nb w a : Nat} {M : Nat → Nat → Bool} {R R' : Nat → Nat → Nat} {r r' : Nat → Nat} (h1 : ∀ i b, i < a → b < nb → R i b = R' i b) (h2 : ∀ b, b < nb → r b = r' b) : alN (chk nb w M R r a) a = alN (chk nb w M R' r' a) a := by
  refine alN_congr (fun i hi => ?_)
  have e : cnt_ (fun b => decide (¬ R i b = r b)) nb = cnt_ (fun b => decide (¬ R' i b = r' b)) nb := cnt_congr (fun b hb => by rw [h1 i b hi hb, h2 b hb])
  rw [chk, chk, e]
/-- the first h hours' rows are told from each other -/
def pv_ (nb w : Nat) (mo : Nat → Nat) (M : Nat → Nat → Bool) (h p : Nat) : Prop := ∀ a, a < h → alN (chk nb w M (RW nb mo h p) (RW nb mo h p a) a) a = true
theorem vq_iff {nb nh hd : Nat} {mo : Nat → Nat} {M : Nat → Nat → Bool} {N : Nat} (hnb : nb ≤ 6) : vq_ nb nh hd mo M N = true ↔ pv_ nb (nb - min hd nb + 1) mo M nh N := by
  have hD : ∀ i j, pc24 (Dm (TN nb nh mo N) nb i j &&& (2 ^ nb - 1)) = cnt_ (fun b => decide (¬ TN nb nh mo N i b = TN nb nh mo N j b)) nb := fun i j => by
    rw [Nat.and_two_pow_sub_one_eq_mod, Nat.mod_eq_of_lt (show Dm (TN nb nh mo N) nb i j < 2 ^ nb from bm_lt _ _)]
    exact pc_bm nb hnb
  rw [vq_, dw_iff]
  constructor
  · intro h a ha
    rw [alN_iff]
    intro i hi
    rw [chk, Bool.or_eq_true, decide_eq_true_eq]
    cases q : M i a with
    | true => exact Or.inl rfl
    | false =>
      have := h i a hi ha q
      rw [hD] at this
      exact Or.inr this
  · intro h i j hi hj hm
    rw [hD]
    have := alN_iff.mp (h j hj) i hi
    rw [chk, hm, Bool.false_or, decide_eq_true_eq] at this
    exact this
def gc_ (nb nh : Nat) (mo : Nat → Nat) : Option Nat → Int32
  | none => -1
  | some X => nI (tot_ nb nh mo X)
def st_ (nb nh hd : Nat) (mo mr : Nat → Nat) (h p : Nat) (r : Option Nat) (g : Mm) : Prop := sb_ nb nh hd mo g ∧ mrv 6 mr g ∧ (∀ a b, a < h → b < nb → rdI g 27 (6 * a + b) = nI (RW nb mo h p a b)) ∧ rdI g 25 4 = gc_ nb nh mo r ∧ ∀ X, r = some X → ∀ a b, a < nh → b < nb → rdI g 28 (6 * a + b) = nI (TN nb nh mo X a b)
def pCl (c i : Nat) : Bool := decide (25 ≤ c ∧ c ≤ 28)
theorem gs_0 (N : Nat) (a b c d : Int32) (g : Mm) : gs_ (N + 1) 0 a b c d g = m_X5_fillFrom (gs_ N) a b g := by rw [gs_, if_pos rfl]
theorem gs_1 (N : Nat) (a b c d : Int32) (g : Mm) : gs_ (N + 1) 1 a b c d g = m_X5_tryRow (gs_ N) a b c g := by rw [gs_, if_neg (by decide), if_pos rfl]
set_option maxHeartbeats 2000000 in
theorem fill_c {nb nh hd : Nat} {mo mr : Nat → Nat} {M : Nat → Nat → Bool} (hmr : ∀ a b, a < 24 → b < 24 → (mr a).testBit b = M a b) (hsym : ∀ i j, i < 24 → j < 24 → M i j = M j i) (h4 : nh ≤ 4) : ∀ (d h p N : Nat) (r : Option Nat) (g : Mm), h + d = nh → 2 * d + 1 ≤ N → p < pw_ mo nb ^ h → st_ nb nh hd mo mr h p r g → pv_ nb (nb - min hd nb + 1) mo M h p → lb_ (vq_ nb nh hd mo M) (tot_ nb nh mo) (p * pw_ mo nb ^ d) r → (d = 0 → ∀ X, r = some X → tot_ nb nh mo p < tot_ nb nh mo X) →
    ∃ r' g', gs_ N 0 (nI h) (nI (ps_ nb mo h p)) 0 0 g = some (0, g') ∧ st_ nb nh hd mo mr h p r' g' ∧ lb_ (vq_ nb nh hd mo M) (tot_ nb nh mo) ((p + 1) * pw_ mo nb ^ d) r' ∧ fr_ pCl g g' := by
  intro d
  induction d with
  | zero =>
    intro h p N r g h1 h2 h3 hst hpv hlb hlt
    obtain ⟨N, rfl⟩ : ∃ N', N = N' + 1 := ⟨N - 1, by omega⟩
    have hh : h = nh := by omega
    subst hh
    obtain ⟨hs, hm, hd1, hb, hf⟩ := hst
    obtain ⟨⟨a1, a2, a3, a4, a5⟩, ⟨t1, t2, t3⟩, t4⟩ := id hs
    rw [Nat.pow_zero, Nat.mul_one] at hlb
    have f1 : fr_ pCl g (cpI (wrI g 25 4 (nI (ps_ nb mo h p))) 27 0 28 0 144) := ⟨fun c i w => by
      unfold pCl at w
      rw [decide_eq_false_iff_not] at w
      rw [rI_cI, if_neg (by omega), rI_wI, if_neg (by omega)], rfl⟩
    refine ⟨some p, _, ?_, ⟨hs.fr f1 (fun _ => rfl) (fun _ => rfl), fun a ha => by rw [f1.1 6 a rfl]; exact hm a ha, fun a b ha hb2 => ?_, ?_, fun X hX a b ha hb2 => ?_⟩, ?_, f1⟩
    · rw [gs_0, m_X5_fillFrom, t2, if_pos (by rw [nI_leI (by omega) (by omega)]; omega), m_X5_fillFrom_16, show acp (0 : Int32) (144 : Int32) 144 = true by decide, gdd_true, gdd_true]
      rfl
    · rw [rI_cI, if_neg (by omega), rI_wI, if_neg (by omega)]
      exact hd1 a b ha hb2
    · rw [rI_cI, if_neg (by omega), rI_wI, if_pos ⟨rfl, rfl⟩]
      rfl
    · cases hX
      rw [rI_cI, if_pos ⟨rfl, Nat.zero_le _, by omega⟩, rI_wI, if_neg (by omega), show 0 + (6 * a + b - 0) = 6 * a + b by omega]
      exact hd1 a b ha hb2
    · rw [Nat.pow_zero, Nat.mul_one]
      exact lb_new hlb ((vq_iff (by omega)).mpr hpv) (hlt rfl)
  | succ d ih =>
    intro h p N r g h1 h2 h3 hst hpv hlb hlt
    obtain ⟨N, rfl⟩ : ∃ N', N = N' + 1 + 1 := ⟨N - 2, by omega⟩
    have hs0 := hst.1
    have hpos := pw_pos mo nb
    have hpw := pw_sb hs0
    obtain ⟨⟨a1, a2, a3, a4, a5⟩, -, t40⟩ := id hs0
    have hh : h < nh := by omega
    have hrow : ∀ c, sm (rdig mo nb c) nb ≤ 45 := fun c => by
      have h5 := sm_le (f := rdig mo nb c) (n := nb) (M := 15) (fun b hb => Nat.le_trans (rdig_le nb c b hb) (t40 b hb).2)
      omega
    have hps : ∀ h' p', ps_ nb mo h' p' ≤ h' * 45 := fun h' p' => sm_le (fun a _ => hrow _)
    have hps1 := hps h p
    have htot : ∀ Y, tot_ nb nh mo Y < 5000 := fun Y => by
      have := tot_le (nh := nh) a2 (fun b hb => (t40 b hb).2) Y
      omega
    -- the rows of a longer number
    have RWP : ∀ c a b, c < pw_ mo nb → RW nb mo (h + 1) (pw_ mo nb * p + c) a b = if a = h then rdig mo nb c b else RW nb mo h p a b := fun c a b hc => by
      rw [RW, cdg_P hc]
      split <;> rfl
    have psP : ∀ c, c < pw_ mo nb → ps_ nb mo (h + 1) (pw_ mo nb * p + c) = ps_ nb mo h p + sm (rdig mo nb c) nb := fun c hc => by
      rw [ps_, sm]
      congr 1
      · refine sm_congr (fun a ha => sm_congr (fun b hb => ?_))
        rw [RWP c a b hc, if_neg (by omega)]
      · refine sm_congr (fun b hb => ?_)
        rw [RWP c h b hc, if_pos rfl]
    -- a table of the block: its first rows
    have blk : ∀ P Y, P * pw_ mo nb ^ d ≤ Y → Y < (P + 1) * pw_ mo nb ^ d → ∀ a b, a < h + 1 → TN nb nh mo Y a b = RW nb mo (h + 1) P a b := fun P Y y1 y2 a b ha => by
      have hB : 0 < pw_ mo nb ^ d := Nat.pow_pos hpos
      have e : Y / pw_ mo nb ^ d = P := by
        have e1 : P ≤ Y / pw_ mo nb ^ d := (Nat.le_div_iff_mul_le hB).mpr y1
        have e2 : Y / pw_ mo nb ^ d < P + 1 := Nat.div_lt_of_lt_mul (by rw [Nat.mul_comm]; exact y2)
        omega
      have e3 := cdg_blk (rows := pw_ mo nb) (n := h + 1) ha d Y
      rw [e, show h + 1 + d = nh by omega] at e3
      rw [TN, e3]
      rfl
    have key : ∀ (fu c : Nat) (r : Option Nat) (g : Mm), pw_ mo nb < c + fu → c ≤ pw_ mo nb → st_ nb nh hd mo mr h p r g → lb_ (vq_ nb nh hd mo M) (tot_ nb nh mo) ((pw_ mo nb * p + c) * pw_ mo nb ^ d) r →
        ∃ r' g', m_X5_fillFrom_48 (gs_ (N + 1)) fu (nI h) (nI (ps_ nb mo h p)) (nI (pw_ mo nb)) (nI c) g = some (0, g') ∧ st_ nb nh hd mo mr h p r' g' ∧ lb_ (vq_ nb nh hd mo M) (tot_ nb nh mo) ((pw_ mo nb * p + pw_ mo nb) * pw_ mo nb ^ d) r' ∧ fr_ pCl g g' := by
      intro fu
      induction fu with
      | zero => intro c r g h1 h2; omega
      | succ fu ihf =>
        intro c r g c1 c2 hst hlb
        rw [m_X5_fillFrom_48]
        by_cases q : c = pw_ mo nb
        · rw [q] at hlb
          exact ⟨r, g, by rw [if_pos (by rw [nI_leI (by omega) (by omega)]; omega)], hst, hlb, fr_.rf⟩
        · have hc : c < pw_ mo nb := by omega
          obtain ⟨F, eF, hF⟩ := fu_get
          obtain ⟨hs, hm, hd1, hb, hf⟩ := hst
          obtain ⟨g1, f1, s1, s2, s3⟩ := sp15 (nb := nb) (nh := nh) (hd := hd) (mo := mo) nb F c 0 g (Nat.le_refl _) (by omega) (by omega) hs
          have f1' : fr_ pCl g g1 := f1.le (fun d i w => by
            unfold c26 at w
            rw [decide_eq_true_eq] at w
            exact decide_eq_true (by omega))
          have hst1 : st_ nb nh hd mo mr h p r g1 := ⟨hs.fr f1 (fun _ => rfl) (fun _ => rfl), fun a ha => by rw [f1.1 6 a rfl]; exact hm a ha, fun a b ha hb2 => by rw [f1.1 27 _ rfl]; exact hd1 a b ha hb2, by rw [f1.1 25 4 rfl]; exact hb, fun X hX a b ha hb2 => by rw [f1.1 28 _ rfl]; exact hf X hX a b ha hb2⟩
          have hsp : m_X5_spell (nI c) g = some (nI (sm (rdig mo nb c) nb), g1) := by
            rw [m_X5_spell, hs.2.1.1, ii_last a1, eF]
            rw [show m_X5_spell_15 F (nI c) 0 (ii_ nb) g = _ from s3, Nat.zero_add]
          have hrc := hrow c
          -- on to the next number
          have next : ∀ (r2 : Option Nat) (g2 : Mm), fr_ pCl g g2 → st_ nb nh hd mo mr h p r2 g2 → lb_ (vq_ nb nh hd mo M) (tot_ nb nh mo) ((pw_ mo nb * p + (c + 1)) * pw_ mo nb ^ d) r2 → ∀ v : Int32,
              ∃ r' g', bdd (some (v, g2)) (fun _ ga3 => m_X5_fillFrom_48 (gs_ (N + 1)) fu (nI h) (nI (ps_ nb mo h p)) (nI (pw_ mo nb)) (nI c + 1) ga3) = some (0, g') ∧ st_ nb nh hd mo mr h p r' g' ∧ lb_ (vq_ nb nh hd mo M) (tot_ nb nh mo) ((pw_ mo nb * p + pw_ mo nb) * pw_ mo nb ^ d) r' ∧ fr_ pCl g g' := by
            intro r2 g2 hf2 hst2 hl2 v
            obtain ⟨r', g', y1, y2, y3, y4⟩ := ihf (c + 1) r2 g2 (by omega) (by omega) hst2 hl2
            exact ⟨r', g', by rw [bdd_some, nI_1]; exact y1, y2, y3, hf2.tr y4⟩
          -- the block of this number is skipped
          have hskip : (∀ Y, (pw_ mo nb * p + c) * pw_ mo nb ^ d ≤ Y → Y < (pw_ mo nb * p + (c + 1)) * pw_ mo nb ^ d → vq_ nb nh hd mo M Y = true → ∃ X, r = some X ∧ tot_ nb nh mo X ≤ tot_ nb nh mo Y) → lb_ (vq_ nb nh hd mo M) (tot_ nb nh mo) ((pw_ mo nb * p + (c + 1)) * pw_ mo nb ^ d) r := fun hsk => lb_skip hlb (Nat.mul_le_mul_right _ (by omega)) hsk
          have htry : gs_ (N + 1) 1 (nI h) (nI c) (nI (ps_ nb mo h p)) 0 g = (if (rdI g1 25 4) < (0 : Int32) then m_X5_tryRow_25 (gs_ N) (nI h) (nI (ps_ nb mo h p + sm (rdig mo nb c) nb)) g1 else (if (rdI g1 25 4) ≤ nI (ps_ nb mo h p + sm (rdig mo nb c) nb) then some ((0 : Int32), g1) else m_X5_tryRow_25 (gs_ N) (nI h) (nI (ps_ nb mo h p + sm (rdig mo nb c) nb)) g1)) := by
            rw [gs_1, m_X5_tryRow, hsp, bdd_some, nI_add]
          -- the row tried
          have h25 : (∀ X, r = some X → ps_ nb mo h p + sm (rdig mo nb c) nb < tot_ nb nh mo X) → ∃ r' g', bdd (m_X5_tryRow_25 (gs_ N) (nI h) (nI (ps_ nb mo h p + sm (rdig mo nb c) nb)) g1) (fun _ ga3 => m_X5_fillFrom_48 (gs_ (N + 1)) fu (nI h) (nI (ps_ nb mo h p)) (nI (pw_ mo nb)) (nI c + 1) ga3) = some (0, g') ∧ st_ nb nh hd mo mr h p r' g' ∧ lb_ (vq_ nb nh hd mo M) (tot_ nb nh mo) ((pw_ mo nb * p + pw_ mo nb) * pw_ mo nb ^ d) r' ∧ fr_ pCl g g' := by
            intro hless
            obtain ⟨hs1, hm1, hd11, hb1, hf1⟩ := id hst1
            have hXA := XA_lt (m := mr h) (h := h) (by omega)
            have htold := told_c hs1 (a := 27) (X := XA (mr h) h) (R := RW nb mo h p) (r := rdig mo nb c) (by omega) (fun a b ha hX hb2 => by
              rw [XA_bit (by omega), Bool.and_eq_true, decide_eq_true_eq] at hX
              exact ⟨hd11 a b hX.1 hb2, by have := rdig_le (mo := mo) nb (cdg (pw_ mo nb) h p a) b hb2; have := (t40 b hb2).2; unfold RW; omega⟩) (fun b hb2 => ⟨s1 b hb2, by have := rdig_le (mo := mo) nb c b hb2; have := (t40 b hb2).2; omega⟩)
            rw [told_ahead hh a3 (fun b hb2 => hmr h b (by omega) hb2) hsym] at htold
            rw [m_X5_tryRow_25, ahead_c hm1 (by omega), bdd_some, htold, bdd_some]
            cases hz : alN (chk nb (nb - min hd nb + 1) M (RW nb mo h p) (rdig mo nb c) h) h with
            | false =>
              rw [if_pos (show bz false = 0 from rfl)]
              refine next r g1 f1' hst1 (hskip (fun Y y1 y2 y3 => ?_)) 0
              exfalso
              have hY := (vq_iff (by omega)).mp y3 h hh
              have e : alN (chk nb (nb - min hd nb + 1) M (RW nb mo nh Y) (RW nb mo nh Y h) h) h = alN (chk nb (nb - min hd nb + 1) M (RW nb mo h p) (rdig mo nb c) h) h := by
                refine chk_congr (fun i b hi hb2 => ?_) (fun b hb2 => ?_)
                · rw [show RW nb mo nh Y i b = TN nb nh mo Y i b from rfl, blk (pw_ mo nb * p + c) Y y1 (by rw [Nat.add_assoc]; exact y2) i b (by omega), RWP c i b hc, if_neg (by omega)]
                · rw [show RW nb mo nh Y h b = TN nb nh mo Y h b from rfl, blk (pw_ mo nb * p + c) Y y1 (by rw [Nat.add_assoc]; exact y2) h b (by omega), RWP c h b hc, if_pos rfl]
              rw [e, hz] at hY
              cases hY
            | true =>
              have e6 : (nI h * (6 : Int32)).toNatClampNeg = 6 * h := by rw [show (6 : Int32) = nI 6 from rfl, pk_mul, nI_clamp (by omega), Nat.mul_comm]
              have f2 : fr_ pCl g1 (cpI g1 26 0 27 (6 * h) 6) := ⟨fun d i w => by
                unfold pCl at w
                rw [decide_eq_false_iff_not] at w
                rw [rI_cI, if_neg (by omega)], rfl⟩
              have hst2 : st_ nb nh hd mo mr (h + 1) (pw_ mo nb * p + c) r (cpI g1 26 0 27 (6 * h) 6) := by
                refine ⟨hs1.fr f2 (fun _ => rfl) (fun _ => rfl), fun a ha => by rw [f2.1 6 a rfl]; exact hm1 a ha, fun a b ha hb2 => ?_, ?_, fun X hX a b ha hb2 => ?_⟩
                · rw [rI_cI, RWP c a b hc]
                  by_cases w : a = h
                  · rw [if_pos (by omega), if_pos w, show 0 + (6 * a + b - 6 * h) = b by omega]
                    exact s1 b hb2
                  · rw [if_neg (by omega), if_neg w]
                    exact hd11 a b (by omega) hb2
                · rw [rI_cI, if_neg (by omega)]; exact hb1
                · rw [rI_cI, if_neg (by omega)]; exact hf1 X hX a b ha hb2
              have hpv2 : pv_ nb (nb - min hd nb + 1) mo M (h + 1) (pw_ mo nb * p + c) := by
                intro a ha
                by_cases w : a = h
                · subst w
                  rw [← hz]
                  exact chk_congr (fun i b hi hb2 => by rw [RWP c i b hc, if_neg (by omega)]) (fun b hb2 => by rw [RWP c a b hc, if_pos rfl])
                · rw [← hpv a (by omega)]
                  exact chk_congr (fun i b hi hb2 => by rw [RWP c i b hc, if_neg (by omega)]) (fun b hb2 => by rw [RWP c a b hc, if_neg w])
              have hP : pw_ mo nb * p + c < pw_ mo nb ^ (h + 1) := by
                have : pw_ mo nb * (p + 1) ≤ pw_ mo nb * pw_ mo nb ^ h := Nat.mul_le_mul_left _ h3
                rw [Nat.pow_succ, Nat.mul_comm (pw_ mo nb ^ h)]
                rw [Nat.mul_add, Nat.mul_one] at this
                omega
              obtain ⟨r', g', y1, y2, y3, y4⟩ := ih (h + 1) (pw_ mo nb * p + c) N r _ (by omega) (by omega) hP hst2 hpv2 hlb (fun hd0 X hX => by
                have e1 := hless X hX
                rw [← psP c hc] at e1
                have e2 : ps_ nb mo (h + 1) (pw_ mo nb * p + c) = tot_ nb nh mo (pw_ mo nb * p + c) := by
                  rw [show h + 1 = nh by omega]
                  rfl
                rw [← e2]
                exact e1)
              have hst3 : st_ nb nh hd mo mr h p r' g' := by
                obtain ⟨z1, z2, z3, z4, z5⟩ := y2
                refine ⟨z1, z2, fun a b ha hb2 => ?_, z4, z5⟩
                rw [z3 a b (by omega) hb2, RWP c a b hc, if_neg (by omega)]
              rw [if_neg (show ¬ bz true = 0 by decide), show acp (0 : Int32) (6 : Int32) 6 = true by decide, gdd_true, acp6 h (by omega), gdd_true, nI_1, show (0 : Int32).toNatClampNeg = 0 from rfl, show (6 : Int32).toNatClampNeg = 6 from rfl, e6, ← psP c hc, y1, bdd_some]
              exact next r' g' ((f1'.tr f2).tr y4) hst3 (by rw [← Nat.add_assoc]; exact y3) 0
          have hb1 := hst1.2.2.2.1
          rw [if_neg (by rw [nI_leI (by omega) (by omega)]; omega), htry, hb1]
          cases r with
          | none =>
            rw [if_pos (show gc_ nb nh mo none < (0 : Int32) from (by decide : (-1 : Int32) < 0))]
            exact h25 (fun X hX => by cases hX)
          | some X =>
            have hX := htot X
            rw [show gc_ nb nh mo (some X) = nI (tot_ nb nh mo X) from rfl, if_neg (nI_pos (by omega))]
            by_cases z : tot_ nb nh mo X ≤ ps_ nb mo h p + sm (rdig mo nb c) nb
            · rw [if_pos (by rw [nI_leI (by omega) (by omega)]; exact z)]
              refine next (some X) g1 f1' hst1 (hskip (fun Y y1 y2 y3 => ⟨X, rfl, Nat.le_trans z ?_⟩)) 0
              rw [← psP c hc, tot_]
              have e1 : ps_ nb mo (h + 1) (pw_ mo nb * p + c) = sm (fun a => sm (fun b => TN nb nh mo Y a b) nb) (h + 1) := sm_congr (fun a ha => sm_congr (fun b hb2 => (blk (pw_ mo nb * p + c) Y y1 (by rw [Nat.add_assoc]; exact y2) a b ha).symm))
              rw [e1]
              exact sm_mono _ (by omega)
            · rw [if_neg (by rw [nI_leI (by omega) (by omega)]; exact z)]
              exact h25 (fun X' hX' => by cases hX'; omega)
    obtain ⟨F, eF, hF⟩ := fu_get
    have hlb0 : lb_ (vq_ nb nh hd mo M) (tot_ nb nh mo) ((pw_ mo nb * p + 0) * pw_ mo nb ^ d) r := by
      rw [Nat.add_zero, Nat.mul_comm (pw_ mo nb) p, Nat.mul_assoc, ← Nat.pow_succ']
      exact hlb
    obtain ⟨r', g', y1, y2, y3, y4⟩ := key F 0 r g (by omega) (Nat.zero_le _) hst hlb0
    refine ⟨r', g', ?_, y2, ?_, y4⟩
    · rw [gs_0, m_X5_fillFrom, hs0.2.1.2.1, if_neg (by rw [nI_leI (by omega) (by omega)]; omega), if_pos (show nI h < (4 : Int32) from (nI_ltI (b := 4) (by omega) (by omega)).mpr (by omega)), rows_there hs0, bdd_some, eF]
      exact y1
    · rw [show (p + 1) * pw_ mo nb ^ (d + 1) = (pw_ mo nb * p + pw_ mo nb) * pw_ mo nb ^ d by
        rw [Nat.pow_succ', ← Nat.mul_assoc, Nat.add_mul, Nat.one_mul, Nat.mul_comm p]]
      exact y3
