/-! mix -/
theorem nI_or (a b : Nat) : nI a ||| nI b = nI (a ||| b) := by
  apply Int32.toBitVec_inj.mp
  rw [Int32.toBitVec_or]
  show BitVec.ofNat 32 a ||| BitVec.ofNat 32 b = BitVec.ofNat 32 (a ||| b)
  apply BitVec.eq_of_getLsbD_eq
  intro i hi
  simp [BitVec.getLsbD_ofNat, hi]
theorem nI_and (a b : Nat) : nI a &&& nI b = nI (a &&& b) := by
  apply Int32.toBitVec_inj.mp
  rw [Int32.toBitVec_and]
  show BitVec.ofNat 32 a &&& BitVec.ofNat 32 b = BitVec.ofNat 32 (a &&& b)
  apply BitVec.eq_of_getLsbD_eq
  intro i hi
  simp [BitVec.getLsbD_ofNat, hi]
theorem nI_xor (a b : Nat) : nI a ^^^ nI b = nI (a ^^^ b) := by
  apply Int32.toBitVec_inj.mp
  rw [Int32.toBitVec_xor]
  show BitVec.ofNat 32 a ^^^ BitVec.ofNat 32 b = BitVec.ofNat 32 (a ^^^ b)
  apply BitVec.eq_of_getLsbD_eq
  intro i hi
  simp [BitVec.getLsbD_ofNat, hi]
/-- a row with bit k told -/
def mset (m k : Nat) (v : Bool) : Nat := (m &&& (2 ^ k ^^^ (2 ^ 32 - 1))) ||| (if v = true then 2 ^ k else 0)
theorem mset_bit {m k : Nat} (v : Bool) {j : Nat} (hm : m < 2 ^ 32) (hk : k < 32) : (mset m k v).testBit j = if j = k then v else m.testBit j := by
  unfold mset
  rw [Nat.testBit_or, Nat.testBit_and, Nat.testBit_xor, Nat.testBit_two_pow, Nat.testBit_two_pow_sub_one]
  by_cases h : j < 32
  · rw [decide_eq_true h]
    by_cases q : j = k
    · subst q
      rw [if_pos rfl, decide_eq_true rfl]
      cases v <;> simp [Nat.testBit_two_pow]
    · rw [if_neg q, decide_eq_false (fun z => q z.symm)]
      cases v
      · simp
      · simp [Nat.testBit_two_pow, show ¬ k = j from fun z => q z.symm]
  · have hz : m.testBit j = false := Nat.testBit_lt_two_pow (Nat.lt_of_lt_of_le hm (Nat.pow_le_pow_right (by decide) (by omega)))
    rw [hz, if_neg (show ¬ j = k by omega)]
    cases v
    · simp
    · simp [Nat.testBit_two_pow, show ¬ k = j by omega, show ¬ j = k by omega]
theorem mset_lt {m k n : Nat} (v : Bool) (hm : m < 2 ^ n) (hk : k < n) (hn : n ≤ 32) : mset m k v < 2 ^ n := by
  refine Nat.lt_pow_two_of_testBit _ (fun j hj => ?_)
  rw [mset_bit v (Nat.lt_of_lt_of_le hm (Nat.pow_le_pow_right (by decide) hn)) (by omega), if_neg (by omega)]
  exact Nat.testBit_lt_two_pow (Nat.lt_of_lt_of_le hm (Nat.pow_le_pow_right (by decide) hj))
theorem mset_0 {m k : Nat} (hk : k < 32) : nI m &&& (shlI (1 : Int32) (nI k) ^^^ (-1 : Int32)) = nI (mset m k false) := by
  rw [shl_1 hk, show (-1 : Int32) = nI (2 ^ 32 - 1) by decide, nI_xor, nI_and]
  congr 1
  simp [mset]
theorem mset_1 {m k : Nat} (hm : m < 2 ^ 32) (hk : k < 32) : nI m ||| shlI (1 : Int32) (nI k) = nI (mset m k true) := by
  rw [shl_1 hk, nI_or]
  congr 1
  refine Nat.eq_of_testBit_eq (fun j => ?_)
  rw [mset_bit true hm hk, Nat.testBit_or, Nat.testBit_two_pow]
  by_cases q : j = k
  · subst q
    rw [if_pos rfl, decide_eq_true rfl, Bool.or_true]
  · rw [if_neg q, decide_eq_false (fun z => q z.symm), Bool.or_false]
theorem mset_m {m k v : Nat} (hk : k < 31) (hv : v ≤ 1) : (nI m &&& (shlI (1 : Int32) (nI k) ^^^ (-1 : Int32))) ||| shlI (nI v) (nI k) = nI (mset m k (decide (v = 1))) := by
  rcases (by omega : v = 0 ∨ v = 1) with rfl | rfl
  · rw [mset_0 (by omega), shl_nI (m := 0) (by omega) (by omega), nI_or, Nat.zero_mul, Nat.or_zero]
    rfl
  · rw [show nI 1 = (1 : Int32) from rfl, shl_1 (by omega), show (-1 : Int32) = nI (2 ^ 32 - 1) by decide, nI_xor, nI_and, nI_or]
    rfl
theorem nI_lt2 {k : Nat} {n : Nat} (h : k < 2 ^ n) (hn : n ≤ 24) : k < 2 ^ 24 := Nat.lt_of_lt_of_le h (Nat.pow_le_pow_right (by decide) hn)
set_option maxHeartbeats 1000000 in
theorem op_mix (a0 a1 : Int32) {g : Mm} (hg : gv_ g) : al_ (m_X9_mix a0 a1) (m_X10_mix a0 a1) g := by
  have hg0 := hg
  obtain ⟨nb, nh, hd, cd, ck, tl, rt, nn, na, ra, f, hT, hX, hC, hP, hL, hE, hA, hS⟩ := hg
  obtain ⟨⟨b1, b2, b3, b4, b5⟩, ⟨t1, t2, t3, t4, t5, t6⟩, t7, t8, t9, t10⟩ := id hT
  cases hcl : pair_ nh a0 with
  | false =>
    refine al_.same (r := -1) hg0 ?_ ?_
    · simp (disch := omega) only [m_X9_mix, m8_hasPair t2 b3, hcl, fa_lit, nI_nm1, nm1_nI, nI_nm1l, Nat.mul_comm _ 6, Nat.mul_comm _ 60, nI_ltI, nI_leI, nI_eq, nI_add, pk_mul, pk_sub, rm_nI, pk_div, nI_clamp, gdd_true, ix_nI, bdd_some, if_pos, if_neg, rI_wI, rI_wL, rL_wI, rL_wL, rI_cI, rI_cL, rL_cI, rL_cL, false_and, and_false, true_and, and_true, if_true, if_false, not_true_eq_false, not_false_eq_true, reduceCtorEq, zb_bz, bz_t, bz_f, Bool.true_eq_false, Bool.false_eq_true]
    · simp (disch := omega) only [m_X10_mix, m10_isPair t5 b3, hcl, fa_lit, nI_nm1, nm1_nI, nI_nm1l, Nat.mul_comm _ 6, Nat.mul_comm _ 60, nI_ltI, nI_leI, nI_eq, nI_add, pk_mul, pk_sub, rm_nI, pk_div, nI_clamp, gdd_true, ix_nI, bdd_some, if_pos, if_neg, rI_wI, rI_wL, rL_wI, rL_wL, rI_cI, rI_cL, rL_cI, rL_cL, false_and, and_false, true_and, and_true, if_true, if_false, not_true_eq_false, not_false_eq_true, reduceCtorEq, zb_bz, bz_t, bz_f, Bool.true_eq_false, Bool.false_eq_true]
  | true =>
    obtain ⟨a, b, ha, hb, hne, rfl, hlt, hb100⟩ := pair_get hcl
    have d1 : (100 * a + b) / 100 = a := by omega
    have d2 : (100 * a + b) % 100 = b := by omega
    rcases i_cases a1 with h | ⟨v, hv, rfl⟩
    · refine al_.same (r := -1) hg0 ?_ ?_
      · rw [m_X9_mix, m8_hasPair t2 b3, hcl, bdd_some, if_neg (show ¬ bz true = 0 by decide), if_pos (neg_lt0 h)]
      · rw [m_X10_mix, m10_isPair t5 b3, hcl, bdd_some, if_neg (show ¬ bz true = 0 by decide), in_neg h (by decide), bdd_some, if_pos (show bz false = 0 from rfl)]
    · by_cases hv1 : v ≤ 1
      · obtain ⟨x1, x2, x3⟩ := id hX
        obtain ⟨m, hm, em, -⟩ := x2 a (by omega)
        obtain ⟨p, hp, ep, -⟩ := x2 b (by omega)
        have hm24 := nI_lt2 hm b3
        have hp24 := nI_lt2 hp b3
        have hm31 : m < 2 ^ 31 := by omega
        have hp31 : p < 2 ^ 31 := by omega
        have emx : mx_ g a b = m.testBit b := by rw [mx_, em, nI_clamp hm31]
        have eV : (decide (v = 1)) = decide (v = 1) := rfl
        have w1 : m_X8_makeMixed (nI a) (nI b) (nI v) g = some (nI 0, wrI (wrI g 6 a (nI (mset m b (decide (v = 1))))) 6 b (nI (mset p a (decide (v = 1))))) := by
          rcases (by omega : v = 0 ∨ v = 1) with rfl | rfl
          · simp (disch := omega) only [m_X8_makeMixed, nI_eq, if_true, ix_nI, gdd_true, nI_clamp, em, show (0 : Int32) = nI 0 from rfl]
            rw [mset_0 (by omega), rI_wI, if_neg (by omega), ep, mset_0 (by omega)]
            rfl
          · simp (disch := omega) only [m_X8_makeMixed, if_neg (show ¬ nI 1 = 0 by decide), ix_nI, gdd_true, nI_clamp, em]
            rw [mset_1 (by omega) (by omega), rI_wI, if_neg (by omega), ep, mset_1 (by omega) (by omega)]
            rfl
        generalize hG : wrI (wrI g 6 a (nI (mset m b (decide (v = 1))))) 6 b (nI (mset p a (decide (v = 1)))) = g1 at w1
        have z1 : rdI g1 45 a = nI m := by rw [← hG, rI_wI, if_neg (by omega), rI_wI, if_neg (by omega), x1 a (by omega), em]
        have z2 : rdI g1 45 b = nI p := by rw [← hG, rI_wI, if_neg (by omega), rI_wI, if_neg (by omega), x1 b (by omega), ep]
        have y4 : rdI g1 40 4 = nI nb := by rw [← hG, rI_wI, if_neg (by omega), rI_wI, if_neg (by omega), t4]
        have y5 : rdI g1 40 5 = nI nh := by rw [← hG, rI_wI, if_neg (by omega), rI_wI, if_neg (by omega), t5]
        have kp : ∀ P : Nat → Nat → Bool, (∀ i, P 6 i = false) → (∀ i, P 45 i = false) → kp_ P g (wrI (wrI g1 45 a (nI (mset m b (decide (v = 1))))) 45 b (nI (mset p a (decide (v = 1))))) := fun P q1 q2 => by
          rw [← hG]
          exact kp_w (q2 _) (kp_w (q2 _) (kp_w (q1 _) (kp_w (q1 _) kp_rf)))
        have k6 : ∀ i, rdI (wrI (wrI g1 45 a (nI (mset m b (decide (v = 1))))) 45 b (nI (mset p a (decide (v = 1))))) 6 i = if i = b then nI (mset p a (decide (v = 1))) else if i = a then nI (mset m b (decide (v = 1))) else rdI g 6 i := fun i => by
          rw [← hG]
          simp only [rI_wI, true_and, Nat.reduceEqDiff, false_and, if_false]
        have k45 : ∀ i, rdI (wrI (wrI g1 45 a (nI (mset m b (decide (v = 1))))) 45 b (nI (mset p a (decide (v = 1))))) 45 i = if i = b then nI (mset p a (decide (v = 1))) else if i = a then nI (mset m b (decide (v = 1))) else rdI g 45 i := fun i => by
          rw [← hG]
          simp only [rI_wI, true_and, Nat.reduceEqDiff, false_and, if_false]
        have l1 : ∀ x, mset x b (decide (v = 1)) < 2 ^ nh ∨ ¬ x < 2 ^ nh := fun x => by
          by_cases z : x < 2 ^ nh
          · exact Or.inl (mset_lt _ z hb (by omega))
          · exact Or.inr z
        have la : mset m b (decide (v = 1)) < 2 ^ nh := mset_lt _ hm hb (by omega)
        have lb : mset p a (decide (v = 1)) < 2 ^ nh := mset_lt _ hp ha (by omega)
        have la24 := nI_lt2 la b3
        have lb24 := nI_lt2 lb b3
        refine ⟨bz (mx_ g a b), g1, wrI (wrI g1 45 a (nI (mset m b (decide (v = 1))))) 45 b (nI (mset p a (decide (v = 1)))), ?_, ?_, nb, nh, hd, cd, ck, tl, rt, nn, na, ra, f, ?_, ?_, ?_, ?_, ?_, ?_, ?_, ?_⟩
        · rcases (by omega : v = 0 ∨ v = 1) with rfl | rfl <;> simp (disch := omega) only [m_X9_mix, m8_hasPair t2 b3, hcl, m8_areMixed hX, d1, d2, m_X9_mix_45, m_X9_mix_68, w1, fa_lit, nI_nm1, nm1_nI, nI_nm1l, Nat.mul_comm _ 6, Nat.mul_comm _ 60, nI_ltI, nI_leI, nI_eq, nI_add, pk_mul, pk_sub, rm_nI, pk_div, nI_clamp, gdd_true, ix_nI, bdd_some, if_pos, if_neg, rI_wI, rI_wL, rL_wI, rL_wL, rI_cI, rI_cL, rL_cI, rL_cL, false_and, and_false, true_and, and_true, if_true, if_false, not_true_eq_false, not_false_eq_true, reduceCtorEq, zb_bz, bz_t, bz_f, Bool.true_eq_false, Bool.false_eq_true] <;> cases mx_ g a b <;> rfl
        · rw [m_X10_mix, m10_isPair y5 b3, hcl, bdd_some, if_neg (show ¬ bz true = 0 by decide), in_nI 0 1 0 1 hv rfl rfl, decide_eq_true (by omega), bdd_some, if_neg (show ¬ bz true = 0 by decide)]
          have d3 : nI (100 * a + b) / (100 : Int32) = nI a := (pk_div (a := 100 * a + b) (d := 100) (by omega) (by omega) (by omega)).trans (by rw [d1])
          have d4 : rmI (nI (100 * a + b)) (100 : Int32) = nI b := (rm_nI (a := 100 * a + b) (d := 100) (by omega) (by omega) (by omega)).trans (by rw [d2])
          have z3 : rdI (wrI g1 45 a (nI (mset m b (decide (v = 1))))) 45 b = nI p := by rw [rI_wI, if_neg (by omega), z2]
          simp (disch := omega) only [d3, d4, ix_nI, gdd_true, nI_clamp, z1]
          rw [bit_nI (by omega) hm31, mset_m (by omega) hv1, z3, mset_m (by omega) hv1, emx]
          rfl
        · exact hT.cong (kp _ (fun _ => rfl) (fun _ => rfl))
        · refine ⟨fun i hi => ?_, fun i hi => ?_, fun i j hi hj => ?_⟩
          · rw [k6, k45, x1 i hi]
          · rw [k6]
            by_cases q1 : i = b
            · rw [if_pos q1]
              exact ⟨_, lb, rfl, fun z => by omega⟩
            · rw [if_neg q1]
              by_cases q2 : i = a
              · rw [if_pos q2]
                exact ⟨_, la, rfl, fun z => by omega⟩
              · rw [if_neg q2]
                exact x2 i hi
          · have e3 := x3 i j hi hj
            have eab := x3 a b (by omega) (by omega)
            have ma : ∀ y, mx_ g a y = m.testBit y := fun y => by rw [mx_, em, nI_clamp hm31]
            have mb : ∀ y, mx_ g b y = p.testBit y := fun y => by rw [mx_, ep, nI_clamp hp31]
            have key : ∀ x y, x < 24 → y < 24 → mx_ (wrI (wrI g1 45 a (nI (mset m b (decide (v = 1))))) 45 b (nI (mset p a (decide (v = 1))))) x y = if (x = b ∧ y = a) ∨ (x = a ∧ y = b) then decide (v = 1) else mx_ g x y := by
              intro x y hx hy
              rw [mx_, k6]
              by_cases q1 : x = b
              · rw [if_pos q1, nI_clamp (by omega), mset_bit _ (by omega) (by omega), q1, mb]
                by_cases q3 : y = a
                · rw [if_pos q3, if_pos (by omega)]
                · rw [if_neg q3, if_neg (by omega)]
              · rw [if_neg q1]
                by_cases q2 : x = a
                · rw [if_pos q2, nI_clamp (by omega), mset_bit _ (by omega) (by omega), q2, ma]
                  by_cases q3 : y = b
                  · rw [if_pos q3, if_pos (by omega)]
                  · rw [if_neg q3, if_neg (by omega)]
                · rw [if_neg q2, if_neg (by omega)]
                  rfl
            rw [key i j hi hj, key j i hj hi, e3]
            by_cases q : (i = b ∧ j = a) ∨ (i = a ∧ j = b)
            · rw [if_pos q, if_pos (by omega)]
            · rw [if_neg q, if_neg (by omega)]
        · exact hC.cong (kp _ (fun _ => rfl) (fun _ => rfl))
        · exact hP.cong (kp _ (fun _ => rfl) (fun _ => rfl))
        · refine hL.cong ?_
          rcases hL.1 with ⟨rfl, -⟩ | ⟨rfl, -⟩ <;> exact kp _ (fun _ => rfl) (fun _ => rfl)
        · exact hE.cong (kp _ (fun _ => rfl) (fun _ => rfl))
        · exact hA.cong (kp _ (fun _ => rfl) (fun _ => rfl))
        · exact hS.cong (kp _ (fun _ => rfl) (fun _ => rfl)) (fun i => by rw [← hG]; exact ⟨rfl, rfl⟩)
      · refine al_.same (r := -1) hg0 ?_ ?_
        · simp (disch := omega) only [m_X9_mix, m8_hasPair t2 b3, hcl, fa_lit, nI_nm1, nm1_nI, nI_nm1l, Nat.mul_comm _ 6, Nat.mul_comm _ 60, nI_ltI, nI_leI, nI_eq, nI_add, pk_mul, pk_sub, rm_nI, pk_div, nI_clamp, gdd_true, ix_nI, bdd_some, if_pos, if_neg, rI_wI, rI_wL, rL_wI, rL_wL, rI_cI, rI_cL, rL_cI, rL_cL, false_and, and_false, true_and, and_true, if_true, if_false, not_true_eq_false, not_false_eq_true, reduceCtorEq, zb_bz, bz_t, bz_f, Bool.true_eq_false, Bool.false_eq_true]
        · simp (disch := omega) only [m_X10_mix, m10_isPair t5 b3, hcl, in_nI 0 1 0 1 hv rfl rfl, decide_eq_false, fa_lit, nI_nm1, nm1_nI, nI_nm1l, Nat.mul_comm _ 6, Nat.mul_comm _ 60, nI_ltI, nI_leI, nI_eq, nI_add, pk_mul, pk_sub, rm_nI, pk_div, nI_clamp, gdd_true, ix_nI, bdd_some, if_pos, if_neg, rI_wI, rI_wL, rL_wI, rL_wL, rI_cI, rI_cL, rL_cI, rL_cL, false_and, and_false, true_and, and_true, if_true, if_false, not_true_eq_false, not_false_eq_true, reduceCtorEq, zb_bz, bz_t, bz_f, Bool.true_eq_false, Bool.false_eq_true]
