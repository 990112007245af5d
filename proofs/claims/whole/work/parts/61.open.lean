/-! THE CLAIM, but for the memory's own run -/
theorem tb_aboveF {args : Array Value} {s : State} (h : ∀ w ∈ flatC (Jvm.Cond.and given_1 narrow_1), w.before args s = true) : ∀ j : Nat, j < 8 → (Term.elem (.static "AnyTwoBells$Acts" "ABOVE" "[I") (.int (Int32.ofNat j))).eval args s none [] s = some (tb_above j) := by
  intro j hj
  have key : (Cond.eq (.elem (.static "AnyTwoBells$Acts" "ABOVE" "[I") (.int (Int32.ofNat j))) (.int (([0, 0, 0, 2, 0, 1, 0, 3] : List Int32).getD j 0))).before args s = true :=
    h _ ((show ∀ j, j < 8 → Cond.eq (.elem (.static "AnyTwoBells$Acts" "ABOVE" "[I") (.int (Int32.ofNat j))) (.int (([0, 0, 0, 2, 0, 1, 0, 3] : List Int32).getD j 0)) ∈ flatC (Jvm.Cond.and given_1 narrow_1) by decide +kernel) j hj)
  exact va_eqt key
theorem tb_ownF {args : Array Value} {s : State} (h : ∀ w ∈ flatC (Jvm.Cond.and given_1 narrow_1), w.before args s = true) : ∀ j : Nat, j < 32 → (Term.elem (.static "AnyTwoBells$Acts" "OWN" "[I") (.int (Int32.ofNat j))).eval args s none [] s = some (tb_own j) := by
  intro j hj
  have key : (Cond.eq (.elem (.static "AnyTwoBells$Acts" "OWN" "[I") (.int (Int32.ofNat j))) (.int (([1, 10, 11, 2, 20, 0, 0, 0, 0, 30, 0, 0, 0, 41, 40, 0, 0, 0, 50, 0, 0, 0, 0, 60, 70, 0, 0, 0, 0, 80, 0, 81] : List Int32).getD j 0))).before args s = true :=
    h _ ((show ∀ j, j < 32 → Cond.eq (.elem (.static "AnyTwoBells$Acts" "OWN" "[I") (.int (Int32.ofNat j))) (.int (([1, 10, 11, 2, 20, 0, 0, 0, 0, 30, 0, 0, 0, 41, 40, 0, 0, 0, 50, 0, 0, 0, 0, 60, 70, 0, 0, 0, 0, 80, 0, 81] : List Int32).getD j 0)) ∈ flatC (Jvm.Cond.and given_1 narrow_1) by decide +kernel) j hj)
  exact va_eqt key
theorem ls_above : Cond.laysStatic "AnyTwoBells$Acts" "ABOVE" "[I" ∈ lw_tbl := List.mem_of_getElem? (i := 1008) (by decide +kernel)
theorem ls_own : Cond.laysStatic "AnyTwoBells$Acts" "OWN" "[I" ∈ lw_tbl := List.mem_of_getElem? (i := 1006) (by decide +kernel)
theorem gw_arr {args : Array Value} {s : State} {ty : FieldType} (hty : ∀ C, ty ≠ .object C) (h : (Cond.arrayClass ty).before args s = true) : ∃ cA : ClassId, ArrOfT s cA ty ∧ va_RA s cA ty := by
  obtain ⟨cA, kA, comp, h1, h2, h3⟩ := Cond.arrayClass_spec h
  refine ⟨cA, fun n z => ⟨fun k h => (by cases h), kA, h2, comp, h3⟩, ?_⟩
  cases ty with
  | object C => exact absurd rfl (hty C)
  | _ => exact h1
set_option maxHeartbeats 8000000 in
set_option maxRecDepth 100000 in
theorem whole_open {p : Program} {e : Env} {s : State} {m : MethodId} {below : List Frame} {meth : Method} {c : Code} (l : Launch) {b L : Nat} {xs : Nat → Int32} {g2 : Mm} (hrun : m_L_law_18 xs L fuL 0 mm0 = some ((1 : Int32), g2)) (C0 : lw_At p s m meth c b L xs) : W p l e room_1 s m #[Value.ref b] below meth c s.heap [] 0 0 (lw_Z below #[Value.ref b] s) (entryFrame m ([Value.ref b] : List Value).toArray 4) := by
  obtain ⟨hx, hb, hr, hml, hown, hts, hX, hbl, hlocks, hgv⟩ := id C0
  have hg : ∀ w ∈ gg_l, w.before #[Value.ref b] s = true := fun w hw => hts w (gg_tbl w hw)
  have hflat := flat_of_before _ hgv
  have hA0 : ∀ a : Nat, a < s.heap.size → ¬ (fun q : Nat => s.heap.size ≤ q) a := fun a h1 h2 => by have h2 : s.heap.size ≤ a := h2; omega
  obtain ⟨c0, i0, hK0⟩ := u_known (C := RX0) (T := TX0) (N := 5) (n := 5) hg gg_X0 (hg _ (gg_in 370 (by decide +kernel) (by decide +kernel) : Cond.instantiable RX0 5 ∈ gg_l))
  obtain ⟨c1, i1, hK1⟩ := u_known (C := RX1) (T := TX1) (N := 5) (n := 5) hg gg_X1 (hg _ (gg_in 228 (by decide +kernel) (by decide +kernel) : Cond.instantiable RX1 5 ∈ gg_l))
  obtain ⟨c2, i2, hK2⟩ := u_known (C := RX2) (T := TX2) (N := 5) (n := 5) hg gg_X2 (hg _ (gg_in 342 (by decide +kernel) (by decide +kernel) : Cond.instantiable RX2 5 ∈ gg_l))
  obtain ⟨c3, i3, hK3⟩ := u_known (C := RX3) (T := TX3) (N := 5) (n := 5) hg gg_X3 (hg _ (gg_in 255 (by decide +kernel) (by decide +kernel) : Cond.instantiable RX3 5 ∈ gg_l))
  obtain ⟨c4, i4, hK4⟩ := u_known (C := RX4) (T := TX4) (N := 5) (n := 5) hg gg_X4 (hg _ (gg_in 261 (by decide +kernel) (by decide +kernel) : Cond.instantiable RX4 5 ∈ gg_l))
  obtain ⟨c5, i5, hK5⟩ := u_known (C := RX5) (T := TX5) (N := 5) (n := 5) hg gg_X5 (hg _ (gg_in 319 (by decide +kernel) (by decide +kernel) : Cond.instantiable RX5 5 ∈ gg_l))
  obtain ⟨c6, i6, hK6⟩ := u_known (C := RX6) (T := TX6) (N := 4) (n := 4) hg gg_X6 (hg _ (gg_in 395 (by decide +kernel) (by decide +kernel) : Cond.instantiable RX6 4 ∈ gg_l))
  obtain ⟨c7, i7, hK7⟩ := u_known (C := RX7) (T := TX7) (N := 3) (n := 3) hg gg_X7 (hg _ (gg_in 303 (by decide +kernel) (by decide +kernel) : Cond.instantiable RX7 3 ∈ gg_l))
  obtain ⟨c8, i8, hK8⟩ := u_known (C := RX8) (T := TX8) (N := 8) (n := 8) hg gg_X8 (hg _ (gg_in 179 (by decide +kernel) (by decide +kernel) : Cond.instantiable RX8 8 ∈ gg_l))
  obtain ⟨c9, i9, hK9⟩ := u_known (C := RX9) (T := TX9) (N := 8) (n := 8) hg gg_X9 (hg _ (gg_in 171 (by decide +kernel) (by decide +kernel) : Cond.instantiable RX9 8 ∈ gg_l))
  obtain ⟨c10, i10, hK10⟩ := u_known (C := RX10) (T := TX10) (N := 50) (n := 50) hg gg_X10 (hg _ (gg_in 1107 (by decide +kernel) (by decide +kernel) : Cond.instantiable RX10 50 ∈ gg_l))
  obtain ⟨cI, aI⟩ := gw_arr (ty := .int) (fun _ h => by cases h) (hg _ lar_int)
  obtain ⟨cJ, aJ⟩ := gw_arr (ty := .long) (fun _ h => by cases h) (hg _ lar_long)
  obtain ⟨dC, dI, hKc⟩ : ∃ (dC : Nat → ClassId) (dI : Nat → Nat → Nat), ∀ (k : Nat) (q : vw_C), classes[k]? = some q → u_Kn s q.1 q.2.1 q.2.2 (dC k) (dI k) := by
    refine ⟨fun k => ([c0, c1, c2, c3, c4, c5, c6, c7, c8, c9, c10] : List ClassId).getD k 0, fun k => ([i0, i1, i2, i3, i4, i5, i6, i7, i8, i9, i10] : List (Nat → Nat)).getD k (fun _ => 0), ?_⟩
    intro k q hq
    match k, hq with
    | 0, hq => cases hq; exact hK0
    | 1, hq => cases hq; exact hK1
    | 2, hq => cases hq; exact hK2
    | 3, hq => cases hq; exact hK3
    | 4, hq => cases hq; exact hK4
    | 5, hq => cases hq; exact hK5
    | 6, hq => cases hq; exact hK6
    | 7, hq => cases hq; exact hK7
    | 8, hq => cases hq; exact hK8
    | 9, hq => cases hq; exact hK9
    | 10, hq => cases hq; exact hK10
    | k + 11, hq => simp [classes] at hq
  have hK : va_K (dC, dI) classes (tysW cI cJ) s := by
    refine ⟨hKc, fun k q hq => ?_⟩
    match k, hq with
    | 0, hq => cases hq; exact aI
    | 1, hq => cases hq; exact aJ
    | k + 2, hq => simp [tysW] at hq
  have hN1 : ∀ w ∈ nw_m, va_Nw (.methodLinkNest w.1 w.2.1 w.2.2.1 w.2.2.2) s := fun w hw => va_Nw.of rfl (hts _ (nw_m_in w hw))
  have hN2 : ∀ w ∈ nw_f, va_Nw (.fieldLinkNest w.1 w.2.1 w.2.2.1 w.2.2.2.1 w.2.2.2.2.1 w.2.2.2.2.2) s := fun w hw => va_Nw.of rfl (hts _ (nw_f_in w hw))
  obtain ⟨tA, eA, hTA⟩ := va_Tof (N := 8) (f := tb_above) (A := fun q : Nat => s.heap.size ≤ q) (by decide) (hflat (.arrayOf (.static "AnyTwoBells$Acts" "ABOVE" "[I") .int) (by decide +kernel)) (va_eqt (z := Int32.ofNat 8) (hflat (.eq (.length (.static "AnyTwoBells$Acts" "ABOVE" "[I")) (.int 8)) (by decide +kernel))) (tb_aboveF hflat) hA0
  obtain ⟨tO, eO, hTO⟩ := va_Tof (N := 32) (f := tb_own) (A := fun q : Nat => s.heap.size ≤ q) (by decide) (hflat (.arrayOf (.static "AnyTwoBells$Acts" "OWN" "[I") .int) (by decide +kernel)) (va_eqt (z := Int32.ofNat 32) (hflat (.eq (.length (.static "AnyTwoBells$Acts" "OWN" "[I")) (.int 32)) (by decide +kernel))) (tb_ownF hflat) hA0
  have hZA := va_Zref (A := fun q : Nat => s.heap.size ≤ q) (hts _ ls_above) (hg _ lit_X0) eA hA0
  have hZO := va_Zref (A := fun q : Nat => s.heap.size ≤ q) (hts _ ls_own) (hg _ lit_X0) eO hA0
  have hR : 63 ≤ room_1.cells ∧ 3748 ≤ room_1.slots := ⟨by decide, by decide⟩
  have hd : 1400 ≤ room_1.frames ∧ 60 * 1400 ≤ room_1.locals := ⟨by decide, by decide⟩
  have XK : gk_X p room_1 s m #[Value.ref b] meth c (dC, dI) cI cJ (fun q : Nat => s.heap.size ≤ q) RL cL_law 4 1400 ret := ⟨hx, hb, hml, hown, hg, hK, hN1, hd, fun _ h => h, hr, hlocks⟩
  have hP : va_P (dC, dI) classes [] s.heap := fun k q h => by simp at h
  have hD : va_D (fun q : Nat => s.heap.size ≤ q) [] := ⟨fun i j p q h => by simp at h, fun k q h => by simp at h⟩
  have hl := lv_entry ([.ref b]) (n := 4) (Nat.le_of_ble_eq_true rfl)
  rw [lg_entry_eq]
  refine gl_start (tA := tA) (tO := tO) (b := b) XK hR (fun al e1 e2 hDj => ?_) _ _ _ hP hD va_S.rf hl
  have XG : gx_X p room_1 s m #[Value.ref b] meth c (dC, dI) al cI cJ (fun q : Nat => s.heap.size ≤ q) RL cL_law 4 ret 1400 63 3748 :=
    ⟨hx, hb, hml, hown, hg, hK, ⟨hN1, hN2, by rw [e1]; exact hZA, by rw [e1]; exact hTA, by rw [e2]; exact hZO, by rw [e2]; exact hTO⟩, hd, hR, fun _ h => h, hDj, hr, hlocks⟩
  refine t_L_law_18 (d := 1400) XG (Nat.le_refl _) hX hbl (Nat.not_le.mpr hbl) (fun pc ls g hdg => ?_) fuL 0 mm0 hrun
  intro H lo la hP hS h
  refine va_forget hS.2.2 ?_
  refine W.widen (k := 600000) (n := 7302250) (by decide) (by decide) ?_
  exact lw_ret hx hb hr hlocks hdg
