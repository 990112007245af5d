section LW
variable {p : Program} {l : Launch} {e : Env} {R : Room} {s : State} {m : MethodId} {args : Array Value} {below : List Frame} {meth : Method} {c : Code} {Q : State → Prop} {D : va_G} {al : Nat → Nat} {cI cJ : ClassId} {A : Nat → Prop} {own : String} {cc : ByteArray} {nL d : Nat} {rt : Option FieldType} {cells slots : Nat} {pc : Nat} {ls : List (Nat × Value)} {st : List Value} {g : Mm}
theorem gx_sld (X : gx_X p R s m args meth c D al cI cJ A own cc nL rt d cells slots) {b L : Nat} {xs : Nat → Int32} {i : Int32} (hX : va_X b L xs s s.heap) (hbl : b < s.heap.size) (hbA : ¬ A b) (hi : ixo i L = true) (hdg : decode cc pc = .ok (.iaload, 1)) (k : gx_G p l e R s m args below meth c Q D al cI cJ A nL cells slots (pc + 1) (ls) (.int (xs i.toNatClampNeg) :: st) (g)) : gx_G p l e R s m args below meth c Q D al cI cJ A nL cells slots (pc) (ls) (.int i :: .ref b :: st) (g) := fun H lo la hP hS h => va_sld X.1 X.2.1 hX hbl hbA hS (ixo_in hi) hdg (k H lo la hP hS h)
theorem gx_slen (X : gx_X p R s m args meth c D al cI cJ A own cc nL rt d cells slots) {b L : Nat} {xs : Nat → Int32} (hX : va_X b L xs s s.heap) (hbl : b < s.heap.size) (hbA : ¬ A b) (hdg : decode cc pc = .ok (.arraylength, 1)) (k : gx_G p l e R s m args below meth c Q D al cI cJ A nL cells slots (pc + 1) (ls) (.int (Int32.ofNat L) :: st) (g)) : gx_G p l e R s m args below meth c Q D al cI cJ A nL cells slots (pc) (ls) (.ref b :: st) (g) := fun H lo la hP hS h => va_slen X.1 X.2.1 hX hbl hbA hS hdg (k H lo la hP hS h)
def m_L_law_18 (xs : Nat → Int32) (L : Nat) : Nat → Int32 → Mm → Option (Int32 × Mm)
  | 0, _, _ => none
  | n + 1, x3, g => (if ((Int32.ofNat L) - (6 : Int32)) < x3 then some ((1 : Int32), g) else gdd (ixo x3 L) ((if ((xs x3.toNatClampNeg) &&& (63 : Int32)) = (0 : Int32) then gdd (ixo (x3 + (1 : Int32)) L) (gdd (ixo (x3 + (2 : Int32)) L) (bdd (m_X9_bell (xs (x3 + (1 : Int32)).toNatClampNeg) (xs (x3 + (2 : Int32)).toNatClampNeg) g) (fun ra6 ga7 => gdd (ixo (x3 + (1 : Int32)) L) (gdd (ixo (x3 + (2 : Int32)) L) (bdd (m_X10_bell (xs (x3 + (1 : Int32)).toNatClampNeg) (xs (x3 + (2 : Int32)).toNatClampNeg) ga7) (fun ra11 ga12 => (if ra6 = ra11 then m_L_law_18 xs L n (x3 + (6 : Int32)) ga12 else some ((0 : Int32), ga12)))))))) else if ((xs x3.toNatClampNeg) &&& (63 : Int32)) = (1 : Int32) then gdd (ixo (x3 + (1 : Int32)) L) (gdd (ixo (x3 + (2 : Int32)) L) (bdd (m_X9_set (xs (x3 + (1 : Int32)).toNatClampNeg) (xs (x3 + (2 : Int32)).toNatClampNeg) g) (fun ra18 ga19 => gdd (ixo (x3 + (1 : Int32)) L) (gdd (ixo (x3 + (2 : Int32)) L) (bdd (m_X10_set (xs (x3 + (1 : Int32)).toNatClampNeg) (xs (x3 + (2 : Int32)).toNatClampNeg) ga19) (fun ra23 ga24 => (if ra18 = ra23 then m_L_law_18 xs L n (x3 + (6 : Int32)) ga24 else some ((0 : Int32), ga24)))))))) else if ((xs x3.toNatClampNeg) &&& (63 : Int32)) = (2 : Int32) then gdd (ixo (x3 + (1 : Int32)) L) (gdd (ixo (x3 + (2 : Int32)) L) (bdd (m_X9_strike (xs (x3 + (1 : Int32)).toNatClampNeg) (xs (x3 + (2 : Int32)).toNatClampNeg) g) (fun ra30 ga31 => gdd (ixo (x3 + (1 : Int32)) L) (gdd (ixo (x3 + (2 : Int32)) L) (bdd (m_X10_strike (xs (x3 + (1 : Int32)).toNatClampNeg) (xs (x3 + (2 : Int32)).toNatClampNeg) ga31) (fun ra35 ga36 => (if ra30 = ra35 then m_L_law_18 xs L n (x3 + (6 : Int32)) ga36 else some ((0 : Int32), ga36)))))))) else if ((xs x3.toNatClampNeg) &&& (63 : Int32)) = (3 : Int32) then gdd (ixo (x3 + (1 : Int32)) L) (gdd (ixo (x3 + (2 : Int32)) L) (gdd (ixo (x3 + (3 : Int32)) L) (gdd (ixo (x3 + (4 : Int32)) L) (bdd (m_X9_strikes (xs (x3 + (1 : Int32)).toNatClampNeg) (xs (x3 + (2 : Int32)).toNatClampNeg) (xs (x3 + (3 : Int32)).toNatClampNeg) (xs (x3 + (4 : Int32)).toNatClampNeg) g) (fun ra44 ga45 => gdd (ixo (x3 + (1 : Int32)) L) (gdd (ixo (x3 + (2 : Int32)) L) (gdd (ixo (x3 + (3 : Int32)) L) (gdd (ixo (x3 + (4 : Int32)) L) (bdd (m_X10_strikes (xs (x3 + (1 : Int32)).toNatClampNeg) (xs (x3 + (2 : Int32)).toNatClampNeg) (xs (x3 + (3 : Int32)).toNatClampNeg) (xs (x3 + (4 : Int32)).toNatClampNeg) ga45) (fun ra51 ga52 => (if ra44 = ra51 then m_L_law_18 xs L n (x3 + (6 : Int32)) ga52 else some ((0 : Int32), ga52)))))))))))) else if ((xs x3.toNatClampNeg) &&& (63 : Int32)) = (4 : Int32) then gdd (ixo (x3 + (1 : Int32)) L) (gdd (ixo (x3 + (2 : Int32)) L) (bdd (m_X9_most (xs (x3 + (1 : Int32)).toNatClampNeg) (xs (x3 + (2 : Int32)).toNatClampNeg) g) (fun ra58 ga59 => gdd (ixo (x3 + (1 : Int32)) L) (gdd (ixo (x3 + (2 : Int32)) L) (bdd (m_X10_most (xs (x3 + (1 : Int32)).toNatClampNeg) (xs (x3 + (2 : Int32)).toNatClampNeg) ga59) (fun ra63 ga64 => (if ra58 = ra63 then m_L_law_18 xs L n (x3 + (6 : Int32)) ga64 else some ((0 : Int32), ga64)))))))) else if ((xs x3.toNatClampNeg) &&& (63 : Int32)) = (5 : Int32) then gdd (ixo (x3 + (1 : Int32)) L) (gdd (ixo (x3 + (2 : Int32)) L) (bdd (m_X9_mix (xs (x3 + (1 : Int32)).toNatClampNeg) (xs (x3 + (2 : Int32)).toNatClampNeg) g) (fun ra70 ga71 => gdd (ixo (x3 + (1 : Int32)) L) (gdd (ixo (x3 + (2 : Int32)) L) (bdd (m_X10_mix (xs (x3 + (1 : Int32)).toNatClampNeg) (xs (x3 + (2 : Int32)).toNatClampNeg) ga71) (fun ra75 ga76 => (if ra70 = ra75 then m_L_law_18 xs L n (x3 + (6 : Int32)) ga76 else some ((0 : Int32), ga76)))))))) else if ((xs x3.toNatClampNeg) &&& (63 : Int32)) = (6 : Int32) then gdd (ixo (x3 + (1 : Int32)) L) (bdd (m_X9_feed (xs (x3 + (1 : Int32)).toNatClampNeg) g) (fun ra81 ga82 => gdd (ixo (x3 + (1 : Int32)) L) (bdd (m_X10_feed (xs (x3 + (1 : Int32)).toNatClampNeg) ga82) (fun ra85 ga86 => (if ra81 = ra85 then m_L_law_18 xs L n (x3 + (6 : Int32)) ga86 else some ((0 : Int32), ga86)))))) else if ((xs x3.toNatClampNeg) &&& (63 : Int32)) = (7 : Int32) then bdd (m_X9_law  g) (fun ra90 ga91 => bdd (m_X10_law  ga91) (fun ra93 ga94 => (if ra90 = ra93 then m_L_law_18 xs L n (x3 + (6 : Int32)) ga94 else some ((0 : Int32), ga94)))) else if ((xs x3.toNatClampNeg) &&& (63 : Int32)) = (8 : Int32) then bdd (m_X9_lay  g) (fun ra98 ga99 => bdd (m_X10_lay  ga99) (fun ra101 ga102 => (if ra98 = ra101 then m_L_law_18 xs L n (x3 + (6 : Int32)) ga102 else some ((0 : Int32), ga102)))) else if ((xs x3.toNatClampNeg) &&& (63 : Int32)) = (9 : Int32) then gdd (ixo (x3 + (1 : Int32)) L) (gdd (ixo (x3 + (2 : Int32)) L) (bdd (m_X9_line (xs (x3 + (1 : Int32)).toNatClampNeg) (xs (x3 + (2 : Int32)).toNatClampNeg) g) (fun ra108 ga109 => gdd (ixo (x3 + (1 : Int32)) L) (gdd (ixo (x3 + (2 : Int32)) L) (bdd (m_X10_line (xs (x3 + (1 : Int32)).toNatClampNeg) (xs (x3 + (2 : Int32)).toNatClampNeg) ga109) (fun ra113 ga114 => (if ra108 = ra113 then m_L_law_18 xs L n (x3 + (6 : Int32)) ga114 else some ((0 : Int32), ga114)))))))) else if ((xs x3.toNatClampNeg) &&& (63 : Int32)) = (10 : Int32) then gdd (ixo (x3 + (1 : Int32)) L) (gdd (ixo (x3 + (2 : Int32)) L) (bdd (m_X9_sum (xs (x3 + (1 : Int32)).toNatClampNeg) (xs (x3 + (2 : Int32)).toNatClampNeg) g) (fun ra120 ga121 => gdd (ixo (x3 + (1 : Int32)) L) (gdd (ixo (x3 + (2 : Int32)) L) (bdd (m_X10_sum (xs (x3 + (1 : Int32)).toNatClampNeg) (xs (x3 + (2 : Int32)).toNatClampNeg) ga121) (fun ra125 ga126 => (if ra120 = ra125 then m_L_law_18 xs L n (x3 + (6 : Int32)) ga126 else some ((0 : Int32), ga126)))))))) else if ((xs x3.toNatClampNeg) &&& (63 : Int32)) = (11 : Int32) then gdd (ixo (x3 + (1 : Int32)) L) (gdd (ixo (x3 + (2 : Int32)) L) (bdd (m_X9_of (xs (x3 + (1 : Int32)).toNatClampNeg) (xs (x3 + (2 : Int32)).toNatClampNeg) g) (fun ra132 ga133 => gdd (ixo (x3 + (1 : Int32)) L) (gdd (ixo (x3 + (2 : Int32)) L) (bdd (m_X10_of (xs (x3 + (1 : Int32)).toNatClampNeg) (xs (x3 + (2 : Int32)).toNatClampNeg) ga133) (fun ra137 ga138 => (if ra132 = ra137 then m_L_law_18 xs L n (x3 + (6 : Int32)) ga138 else some ((0 : Int32), ga138)))))))) else if ((xs x3.toNatClampNeg) &&& (63 : Int32)) = (12 : Int32) then gdd (ixo (x3 + (1 : Int32)) L) (bdd (m_X9_tells (xs (x3 + (1 : Int32)).toNatClampNeg) g) (fun ra143 ga144 => gdd (ixo (x3 + (1 : Int32)) L) (bdd (m_X10_tells (xs (x3 + (1 : Int32)).toNatClampNeg) ga144) (fun ra147 ga148 => (if ra143 = ra147 then m_L_law_18 xs L n (x3 + (6 : Int32)) ga148 else some ((0 : Int32), ga148)))))) else if ((xs x3.toNatClampNeg) &&& (63 : Int32)) = (13 : Int32) then gdd (ixo (x3 + (1 : Int32)) L) (bdd (m_X9_gap (xs (x3 + (1 : Int32)).toNatClampNeg) g) (fun ra153 ga154 => gdd (ixo (x3 + (1 : Int32)) L) (bdd (m_X10_gap (xs (x3 + (1 : Int32)).toNatClampNeg) ga154) (fun ra157 ga158 => (if ra153 = ra157 then m_L_law_18 xs L n (x3 + (6 : Int32)) ga158 else some ((0 : Int32), ga158)))))) else if ((xs x3.toNatClampNeg) &&& (63 : Int32)) = (14 : Int32) then bdd (m_X9_bears  g) (fun ra162 ga163 => bdd (m_X10_bears  ga163) (fun ra165 ga166 => (if ra162 = ra165 then m_L_law_18 xs L n (x3 + (6 : Int32)) ga166 else some ((0 : Int32), ga166)))) else if ((xs x3.toNatClampNeg) &&& (63 : Int32)) = (15 : Int32) then gdd (ixo (x3 + (1 : Int32)) L) (bdd (m_X9_hear (xs (x3 + (1 : Int32)).toNatClampNeg) g) (fun ra171 ga172 => gdd (ixo (x3 + (1 : Int32)) L) (bdd (m_X10_hear (xs (x3 + (1 : Int32)).toNatClampNeg) ga172) (fun ra175 ga176 => (if ra171 = ra175 then m_L_law_18 xs L n (x3 + (6 : Int32)) ga176 else some ((0 : Int32), ga176)))))) else if ((xs x3.toNatClampNeg) &&& (63 : Int32)) = (16 : Int32) then bdd (m_X9_which  g) (fun ra180 ga181 => bdd (m_X10_which  ga181) (fun ra183 ga184 => (if ra180 = ra183 then m_L_law_18 xs L n (x3 + (6 : Int32)) ga184 else some ((0 : Int32), ga184)))) else if ((xs x3.toNatClampNeg) &&& (63 : Int32)) = (17 : Int32) then gdd (ixo (x3 + (1 : Int32)) L) (gdd (ixo (x3 + (2 : Int32)) L) (bdd (m_X9_alone (xs (x3 + (1 : Int32)).toNatClampNeg) (xs (x3 + (2 : Int32)).toNatClampNeg) g) (fun ra190 ga191 => gdd (ixo (x3 + (1 : Int32)) L) (gdd (ixo (x3 + (2 : Int32)) L) (bdd (m_X10_alone (xs (x3 + (1 : Int32)).toNatClampNeg) (xs (x3 + (2 : Int32)).toNatClampNeg) ga191) (fun ra195 ga196 => (if ra190 = ra195 then m_L_law_18 xs L n (x3 + (6 : Int32)) ga196 else some ((0 : Int32), ga196)))))))) else if ((xs x3.toNatClampNeg) &&& (63 : Int32)) = (18 : Int32) then gdd (ixo (x3 + (1 : Int32)) L) (bdd (m_X9_strokes (xs (x3 + (1 : Int32)).toNatClampNeg) g) (fun ra201 ga202 => gdd (ixo (x3 + (1 : Int32)) L) (bdd (m_X10_strokes (xs (x3 + (1 : Int32)).toNatClampNeg) ga202) (fun ra205 ga206 => (if ra201 = ra205 then m_L_law_18 xs L n (x3 + (6 : Int32)) ga206 else some ((0 : Int32), ga206)))))) else if ((xs x3.toNatClampNeg) &&& (63 : Int32)) = (19 : Int32) then bdd (m_X9_kept  g) (fun ra210 ga211 => bdd (m_X10_kept  ga211) (fun ra213 ga214 => (if ra210 = ra213 then m_L_law_18 xs L n (x3 + (6 : Int32)) ga214 else some ((0 : Int32), ga214)))) else if ((xs x3.toNatClampNeg) &&& (63 : Int32)) = (20 : Int32) then gdd (ixo (x3 + (1 : Int32)) L) (gdd (ixo (x3 + (2 : Int32)) L) (bdd (m_X9_odds (xs (x3 + (1 : Int32)).toNatClampNeg) (xs (x3 + (2 : Int32)).toNatClampNeg) g) (fun ra220 ga221 => gdd (ixo (x3 + (1 : Int32)) L) (gdd (ixo (x3 + (2 : Int32)) L) (bdd (m_X10_odds (xs (x3 + (1 : Int32)).toNatClampNeg) (xs (x3 + (2 : Int32)).toNatClampNeg) ga221) (fun ra225 ga226 => (if (lg_cmp ra220 ra225) = (0 : Int32) then m_L_law_18 xs L n (x3 + (6 : Int32)) ga226 else some ((0 : Int32), ga226)))))))) else if ((xs x3.toNatClampNeg) &&& (63 : Int32)) = (21 : Int32) then gdd (ixo (x3 + (1 : Int32)) L) (bdd (m_X9_least (xs (x3 + (1 : Int32)).toNatClampNeg) g) (fun ra231 ga232 => gdd (ixo (x3 + (1 : Int32)) L) (bdd (m_X10_least (xs (x3 + (1 : Int32)).toNatClampNeg) ga232) (fun ra235 ga236 => (if ra231 = ra235 then m_L_law_18 xs L n (x3 + (6 : Int32)) ga236 else some ((0 : Int32), ga236)))))) else if ((xs x3.toNatClampNeg) &&& (63 : Int32)) = (22 : Int32) then gdd (ixo (x3 + (1 : Int32)) L) (bdd (m_X9_greedy (xs (x3 + (1 : Int32)).toNatClampNeg) g) (fun ra241 ga242 => gdd (ixo (x3 + (1 : Int32)) L) (bdd (m_X10_greedy (xs (x3 + (1 : Int32)).toNatClampNeg) ga242) (fun ra245 ga246 => (if ra241 = ra245 then m_L_law_18 xs L n (x3 + (6 : Int32)) ga246 else some ((0 : Int32), ga246)))))) else if ((xs x3.toNatClampNeg) &&& (63 : Int32)) = (23 : Int32) then gdd (ixo (x3 + (1 : Int32)) L) (bdd (m_X9_alarm (xs (x3 + (1 : Int32)).toNatClampNeg) g) (fun ra251 ga252 => gdd (ixo (x3 + (1 : Int32)) L) (bdd (m_X10_alarm (xs (x3 + (1 : Int32)).toNatClampNeg) ga252) (fun ra255 ga256 => (if ra251 = ra255 then m_L_law_18 xs L n (x3 + (6 : Int32)) ga256 else some ((0 : Int32), ga256)))))) else if ((xs x3.toNatClampNeg) &&& (63 : Int32)) = (24 : Int32) then gdd (ixo (x3 + (1 : Int32)) L) (bdd (m_X9_night (xs (x3 + (1 : Int32)).toNatClampNeg) g) (fun ra261 ga262 => gdd (ixo (x3 + (1 : Int32)) L) (bdd (m_X10_night (xs (x3 + (1 : Int32)).toNatClampNeg) ga262) (fun ra265 ga266 => (if ra261 = ra265 then m_L_law_18 xs L n (x3 + (6 : Int32)) ga266 else some ((0 : Int32), ga266)))))) else if ((xs x3.toNatClampNeg) &&& (63 : Int32)) = (25 : Int32) then gdd (ixo (x3 + (1 : Int32)) L) (bdd (m_X9_begins (xs (x3 + (1 : Int32)).toNatClampNeg) g) (fun ra271 ga272 => gdd (ixo (x3 + (1 : Int32)) L) (bdd (m_X10_begins (xs (x3 + (1 : Int32)).toNatClampNeg) ga272) (fun ra275 ga276 => (if ra271 = ra275 then m_L_law_18 xs L n (x3 + (6 : Int32)) ga276 else some ((0 : Int32), ga276)))))) else if ((xs x3.toNatClampNeg) &&& (63 : Int32)) = (26 : Int32) then bdd (m_X9_rest  g) (fun ra280 ga281 => bdd (m_X10_rest  ga281) (fun ra283 ga284 => (if ra280 = ra283 then m_L_law_18 xs L n (x3 + (6 : Int32)) ga284 else some ((0 : Int32), ga284)))) else if ((xs x3.toNatClampNeg) &&& (63 : Int32)) = (27 : Int32) then bdd (m_X9_undo  g) (fun ra288 ga289 => bdd (m_X10_undo  ga289) (fun ra291 ga292 => (if ra288 = ra291 then m_L_law_18 xs L n (x3 + (6 : Int32)) ga292 else some ((0 : Int32), ga292)))) else if ((xs x3.toNatClampNeg) &&& (63 : Int32)) = (28 : Int32) then bdd (m_X9_redo  g) (fun ra296 ga297 => bdd (m_X10_redo  ga297) (fun ra299 ga300 => (if ra296 = ra299 then m_L_law_18 xs L n (x3 + (6 : Int32)) ga300 else some ((0 : Int32), ga300)))) else if ((xs x3.toNatClampNeg) &&& (63 : Int32)) = (29 : Int32) then gdd (ixo (x3 + (1 : Int32)) L) (bdd (m_X9_body (xs (x3 + (1 : Int32)).toNatClampNeg) g) (fun ra305 ga306 => gdd (ixo (x3 + (1 : Int32)) L) (bdd (m_X10_body (xs (x3 + (1 : Int32)).toNatClampNeg) ga306) (fun ra309 ga310 => (if ra305 = ra309 then m_L_law_18 xs L n (x3 + (6 : Int32)) ga310 else some ((0 : Int32), ga310)))))) else if ((xs x3.toNatClampNeg) &&& (63 : Int32)) = (30 : Int32) then gdd (ixo (x3 + (1 : Int32)) L) (gdd (ixo (x3 + (2 : Int32)) L) (gdd (ixo (x3 + (3 : Int32)) L) (bdd (m_X9_act (xs (x3 + (1 : Int32)).toNatClampNeg) (xs (x3 + (2 : Int32)).toNatClampNeg) (xs (x3 + (3 : Int32)).toNatClampNeg) g) (fun ra317 ga318 => gdd (ixo (x3 + (1 : Int32)) L) (gdd (ixo (x3 + (2 : Int32)) L) (gdd (ixo (x3 + (3 : Int32)) L) (bdd (m_X10_act (xs (x3 + (1 : Int32)).toNatClampNeg) (xs (x3 + (2 : Int32)).toNatClampNeg) (xs (x3 + (3 : Int32)).toNatClampNeg) ga318) (fun ra323 ga324 => (if ra317 = ra323 then m_L_law_18 xs L n (x3 + (6 : Int32)) ga324 else some ((0 : Int32), ga324)))))))))) else if ((xs x3.toNatClampNeg) &&& (63 : Int32)) = (31 : Int32) then gdd (ixo (x3 + (1 : Int32)) L) (bdd (m_X9_trace (xs (x3 + (1 : Int32)).toNatClampNeg) g) (fun ra329 ga330 => gdd (ixo (x3 + (1 : Int32)) L) (bdd (m_X10_trace (xs (x3 + (1 : Int32)).toNatClampNeg) ga330) (fun ra333 ga334 => (if ra329 = ra333 then m_L_law_18 xs L n (x3 + (6 : Int32)) ga334 else some ((0 : Int32), ga334)))))) else if ((xs x3.toNatClampNeg) &&& (63 : Int32)) = (32 : Int32) then gdd (ixo (x3 + (1 : Int32)) L) (gdd (ixo (x3 + (2 : Int32)) L) (bdd (m_X9_keep (xs (x3 + (1 : Int32)).toNatClampNeg) (xs (x3 + (2 : Int32)).toNatClampNeg) g) (fun ra340 ga341 => gdd (ixo (x3 + (1 : Int32)) L) (gdd (ixo (x3 + (2 : Int32)) L) (bdd (m_X10_keep (xs (x3 + (1 : Int32)).toNatClampNeg) (xs (x3 + (2 : Int32)).toNatClampNeg) ga341) (fun ra345 ga346 => (if ra340 = ra345 then m_L_law_18 xs L n (x3 + (6 : Int32)) ga346 else some ((0 : Int32), ga346)))))))) else if ((xs x3.toNatClampNeg) &&& (63 : Int32)) = (33 : Int32) then gdd (ixo (x3 + (1 : Int32)) L) (gdd (ixo (x3 + (2 : Int32)) L) (gdd (ixo (x3 + (3 : Int32)) L) (bdd (m_X9_row (xs (x3 + (1 : Int32)).toNatClampNeg) (xs (x3 + (2 : Int32)).toNatClampNeg) (xs (x3 + (3 : Int32)).toNatClampNeg) g) (fun ra353 ga354 => gdd (ixo (x3 + (1 : Int32)) L) (gdd (ixo (x3 + (2 : Int32)) L) (gdd (ixo (x3 + (3 : Int32)) L) (bdd (m_X10_row (xs (x3 + (1 : Int32)).toNatClampNeg) (xs (x3 + (2 : Int32)).toNatClampNeg) (xs (x3 + (3 : Int32)).toNatClampNeg) ga354) (fun ra359 ga360 => (if ra353 = ra359 then m_L_law_18 xs L n (x3 + (6 : Int32)) ga360 else some ((0 : Int32), ga360)))))))))) else if ((xs x3.toNatClampNeg) &&& (63 : Int32)) = (34 : Int32) then gdd (ixo (x3 + (1 : Int32)) L) (gdd (ixo (x3 + (2 : Int32)) L) (gdd (ixo (x3 + (3 : Int32)) L) (gdd (ixo (x3 + (4 : Int32)) L) (bdd (m_X9_put (xs (x3 + (1 : Int32)).toNatClampNeg) (xs (x3 + (2 : Int32)).toNatClampNeg) ((shlL (xs (x3 + (3 : Int32)).toNatClampNeg).toInt64 (32 : Int32)) ||| ((xs (x3 + (4 : Int32)).toNatClampNeg).toInt64 &&& (4294967295 : Int64))) g) (fun ra368 ga369 => gdd (ixo (x3 + (1 : Int32)) L) (gdd (ixo (x3 + (2 : Int32)) L) (gdd (ixo (x3 + (3 : Int32)) L) (gdd (ixo (x3 + (4 : Int32)) L) (bdd (m_X10_put (xs (x3 + (1 : Int32)).toNatClampNeg) (xs (x3 + (2 : Int32)).toNatClampNeg) ((shlL (xs (x3 + (3 : Int32)).toNatClampNeg).toInt64 (32 : Int32)) ||| ((xs (x3 + (4 : Int32)).toNatClampNeg).toInt64 &&& (4294967295 : Int64))) ga369) (fun ra375 ga376 => (if ra368 = ra375 then m_L_law_18 xs L n (x3 + (6 : Int32)) ga376 else some ((0 : Int32), ga376)))))))))))) else if ((xs x3.toNatClampNeg) &&& (63 : Int32)) = (35 : Int32) then gdd (ixo (x3 + (1 : Int32)) L) (gdd (ixo (x3 + (2 : Int32)) L) (bdd (m_X9_element (xs (x3 + (1 : Int32)).toNatClampNeg) (xs (x3 + (2 : Int32)).toNatClampNeg) g) (fun ra382 ga383 => gdd (ixo (x3 + (1 : Int32)) L) (gdd (ixo (x3 + (2 : Int32)) L) (bdd (m_X10_element (xs (x3 + (1 : Int32)).toNatClampNeg) (xs (x3 + (2 : Int32)).toNatClampNeg) ga383) (fun ra387 ga388 => (if (lg_cmp ra382 ra387) = (0 : Int32) then m_L_law_18 xs L n (x3 + (6 : Int32)) ga388 else some ((0 : Int32), ga388)))))))) else if ((xs x3.toNatClampNeg) &&& (63 : Int32)) = (36 : Int32) then gdd (ixo (x3 + (1 : Int32)) L) (gdd (ixo (x3 + (2 : Int32)) L) (gdd (ixo (x3 + (3 : Int32)) L) (gdd (ixo (x3 + (4 : Int32)) L) (gdd (ixo (x3 + (5 : Int32)) L) (bdd (m_X9_shift (xs (x3 + (1 : Int32)).toNatClampNeg) (xs (x3 + (2 : Int32)).toNatClampNeg) (xs (x3 + (3 : Int32)).toNatClampNeg) (xs (x3 + (4 : Int32)).toNatClampNeg) (xs (x3 + (5 : Int32)).toNatClampNeg) g) (fun ra397 ga398 => gdd (ixo (x3 + (1 : Int32)) L) (gdd (ixo (x3 + (2 : Int32)) L) (gdd (ixo (x3 + (3 : Int32)) L) (gdd (ixo (x3 + (4 : Int32)) L) (gdd (ixo (x3 + (5 : Int32)) L) (bdd (m_X10_shift (xs (x3 + (1 : Int32)).toNatClampNeg) (xs (x3 + (2 : Int32)).toNatClampNeg) (xs (x3 + (3 : Int32)).toNatClampNeg) (xs (x3 + (4 : Int32)).toNatClampNeg) (xs (x3 + (5 : Int32)).toNatClampNeg) ga398) (fun ra405 ga406 => (if ra397 = ra405 then m_L_law_18 xs L n (x3 + (6 : Int32)) ga406 else some ((0 : Int32), ga406)))))))))))))) else if ((xs x3.toNatClampNeg) &&& (63 : Int32)) = (37 : Int32) then gdd (ixo (x3 + (1 : Int32)) L) (gdd (ixo (x3 + (2 : Int32)) L) (bdd (m_X9_taken (xs (x3 + (1 : Int32)).toNatClampNeg) (xs (x3 + (2 : Int32)).toNatClampNeg) g) (fun ra412 ga413 => gdd (ixo (x3 + (1 : Int32)) L) (gdd (ixo (x3 + (2 : Int32)) L) (bdd (m_X10_taken (xs (x3 + (1 : Int32)).toNatClampNeg) (xs (x3 + (2 : Int32)).toNatClampNeg) ga413) (fun ra417 ga418 => (if ra412 = ra417 then m_L_law_18 xs L n (x3 + (6 : Int32)) ga418 else some ((0 : Int32), ga418)))))))) else if ((xs x3.toNatClampNeg) &&& (63 : Int32)) = (38 : Int32) then gdd (ixo (x3 + (1 : Int32)) L) (bdd (m_X9_count (xs (x3 + (1 : Int32)).toNatClampNeg) g) (fun ra423 ga424 => gdd (ixo (x3 + (1 : Int32)) L) (bdd (m_X10_count (xs (x3 + (1 : Int32)).toNatClampNeg) ga424) (fun ra427 ga428 => (if ra423 = ra427 then m_L_law_18 xs L n (x3 + (6 : Int32)) ga428 else some ((0 : Int32), ga428)))))) else m_L_law_18 xs L n (x3 + (6 : Int32)) g)))
set_option maxHeartbeats 8000000 in
theorem t_L_law_18 {g2 : Mm} {b L : Nat} {xs : Nat → Int32} (X : gx_X p R s m args meth c D al cI cJ A RL cL_law 4 rt d cells slots) (hd : 1400 ≤ d) (hX : va_X b L xs s s.heap) (hbl : b < s.heap.size) (hbA : ¬ A b) (hZ : ∀ (pc : Nat) (ls : List (Nat × Value)) (g : Mm), decode cL_law pc = .ok (.ireturn, 1) → gx_G p l e R s m args below meth c Q D al cI cJ A 4 cells slots pc ls [.int 1] g) : ∀ (n : Nat) (x3 : Int32) (g : Mm), m_L_law_18 xs L n x3 g = some ((1 : Int32), g2) → gx_G p l e R s m args below meth c Q D al cI cJ A 4 cells slots 18 [(0, .ref b), (1, .ref (al (0))), (2, .ref (al (40))), (3, .int (x3))] [] g := by
  intro n
  induction n with
  | zero => intro x3 g h; cases h
  | succ n ih =>
    intro x3 g h
    rw [m_L_law_18] at h
    refine gx_iload_n X 3 rfl dL_law_18 ?_
    refine gx_aload_n X 0 rfl dL_law_19 ?_
    refine gx_slen X hX hbl hbA dL_law_20 ?_
    refine gx_bipush X (v := (6 : Int32)) dL_law_21 (by decide) ?_
    refine gx_isub X dL_law_23 ?_
    refine gx_icmp_gt X 1319 dL_law_24 (by decide) (fun q1 => ?_) (fun q1 => ?_)
    · replace h := (if_pos q1).symm.trans h
      refine gx_iconst X (v := (1 : Int32)) dL_law_1319 (by decide) ?_
      exact hZ _ _ _ dL_law_1320
    · replace h := (if_neg q1).symm.trans h
      refine gx_aload_n X 0 rfl dL_law_27 ?_
      refine gx_iload_n X 3 rfl dL_law_28 ?_
      obtain ⟨q2, h⟩ := gdd_eq h
      refine gx_sld X hX hbl hbA q2 dL_law_29 ?_
      refine gx_bipush X (v := (63 : Int32)) dL_law_30 (by decide) ?_
      refine gx_iand X dL_law_32 ?_
      by_cases q3 : ((xs x3.toNatClampNeg) &&& (63 : Int32)) = (0 : Int32)
      · replace h := (if_pos q3).symm.trans h
        have eq3 : (((xs x3.toNatClampNeg) &&& (63 : Int32))).toInt = 0 := by rw [q3] <;> decide
        refine gx_tab 204 X dL_law_33 (by rw [eq3] <;> decide) (by rw [eq3] <;> decide) (by rw [eq3] <;> rfl) (by decide) ?_
        refine gx_aload_n X 1 rfl dL_law_204 ?_
        refine gx_aload_n X 0 rfl dL_law_205 ?_
        refine gx_iload_n X 3 rfl dL_law_206 ?_
        refine gx_iconst X (v := (1 : Int32)) dL_law_207 (by decide) ?_
        refine gx_iadd X dL_law_208 ?_
        obtain ⟨q4, h⟩ := gdd_eq h
        refine gx_sld X hX hbl hbA q4 dL_law_209 ?_
        refine gx_aload_n X 0 rfl dL_law_210 ?_
        refine gx_iload_n X 3 rfl dL_law_211 ?_
        refine gx_iconst X (v := (2 : Int32)) dL_law_212 (by decide) ?_
        refine gx_iadd X dL_law_213 ?_
        obtain ⟨q5, h⟩ := gdd_eq h
        refine gx_sld X hX hbl hbA q5 dL_law_214 ?_
        obtain ⟨ra6, ga7, ca8, h⟩ := bdd_eq h
        refine gx_callVi X (0) (c_X9_bell ca8) lc_X9_bell li_X9_bell lm_L_13 (by decide) (cl_0 _ _) rfl rfl rfl (Nat.le_trans (by decide) hd) rfl (Nat.le_of_ble_eq_true rfl) dL_law_215 ?_
        refine gx_aload_n X 2 rfl dL_law_218 ?_
        refine gx_aload_n X 0 rfl dL_law_219 ?_
        refine gx_iload_n X 3 rfl dL_law_220 ?_
        refine gx_iconst X (v := (1 : Int32)) dL_law_221 (by decide) ?_
        refine gx_iadd X dL_law_222 ?_
        obtain ⟨q9, h⟩ := gdd_eq h
        refine gx_sld X hX hbl hbA q9 dL_law_223 ?_
        refine gx_aload_n X 0 rfl dL_law_224 ?_
        refine gx_iload_n X 3 rfl dL_law_225 ?_
        refine gx_iconst X (v := (2 : Int32)) dL_law_226 (by decide) ?_
        refine gx_iadd X dL_law_227 ?_
        obtain ⟨q10, h⟩ := gdd_eq h
        refine gx_sld X hX hbl hbA q10 dL_law_228 ?_
        obtain ⟨ra11, ga12, ca13, h⟩ := bdd_eq h
        refine gx_callVi X (40) (c_X10_bell ca13) lc_X10_bell li_X10_bell lm_L_17 (by decide) (cl_40 _ _) rfl rfl rfl (Nat.le_trans (by decide) hd) rfl (Nat.le_of_ble_eq_true rfl) dL_law_229 ?_
        refine gx_icmp_eq X 1313 dL_law_232 (by decide) (fun q14 => ?_) (fun q14 => ?_)
        · replace h := (if_pos q14).symm.trans h
          refine gx_iinc X [(3, .int ((x3 + (6 : Int32)))), (0, .ref b), (1, .ref (al (0))), (2, .ref (al (40)))] 3 dL_law_1313 rfl rfl (by decide) rfl ?_
          refine gx_goto X 18 dL_law_1316 (by decide) ?_
          exact gx_sub [1, 2, 3, 0] rfl (ih (x3 + (6 : Int32)) ga12 h)
        · replace h := (if_neg q14).symm.trans h
          refine gx_iconst X (v := (0 : Int32)) dL_law_235 (by decide) ?_
          exact absurd (ret_eq h).1 (by decide)
      · replace h := (if_neg q3).symm.trans h
        by_cases q15 : ((xs x3.toNatClampNeg) &&& (63 : Int32)) = (1 : Int32)
        · replace h := (if_pos q15).symm.trans h
          have eq15 : (((xs x3.toNatClampNeg) &&& (63 : Int32))).toInt = 1 := by rw [q15] <;> decide
          refine gx_tab 237 X dL_law_33 (by rw [eq15] <;> decide) (by rw [eq15] <;> decide) (by rw [eq15] <;> rfl) (by decide) ?_
          refine gx_aload_n X 1 rfl dL_law_237 ?_
          refine gx_aload_n X 0 rfl dL_law_238 ?_
          refine gx_iload_n X 3 rfl dL_law_239 ?_
          refine gx_iconst X (v := (1 : Int32)) dL_law_240 (by decide) ?_
          refine gx_iadd X dL_law_241 ?_
          obtain ⟨q16, h⟩ := gdd_eq h
          refine gx_sld X hX hbl hbA q16 dL_law_242 ?_
          refine gx_aload_n X 0 rfl dL_law_243 ?_
          refine gx_iload_n X 3 rfl dL_law_244 ?_
          refine gx_iconst X (v := (2 : Int32)) dL_law_245 (by decide) ?_
          refine gx_iadd X dL_law_246 ?_
          obtain ⟨q17, h⟩ := gdd_eq h
          refine gx_sld X hX hbl hbA q17 dL_law_247 ?_
          obtain ⟨ra18, ga19, ca20, h⟩ := bdd_eq h
          refine gx_callVi X (0) (c_X9_set ca20) lc_X9_set li_X9_set lm_L_18 (by decide) (cl_0 _ _) rfl rfl rfl (Nat.le_trans (by decide) hd) rfl (Nat.le_of_ble_eq_true rfl) dL_law_248 ?_
          refine gx_aload_n X 2 rfl dL_law_251 ?_
          refine gx_aload_n X 0 rfl dL_law_252 ?_
          refine gx_iload_n X 3 rfl dL_law_253 ?_
          refine gx_iconst X (v := (1 : Int32)) dL_law_254 (by decide) ?_
          refine gx_iadd X dL_law_255 ?_
          obtain ⟨q21, h⟩ := gdd_eq h
          refine gx_sld X hX hbl hbA q21 dL_law_256 ?_
          refine gx_aload_n X 0 rfl dL_law_257 ?_
          refine gx_iload_n X 3 rfl dL_law_258 ?_
          refine gx_iconst X (v := (2 : Int32)) dL_law_259 (by decide) ?_
          refine gx_iadd X dL_law_260 ?_
          obtain ⟨q22, h⟩ := gdd_eq h
          refine gx_sld X hX hbl hbA q22 dL_law_261 ?_
          obtain ⟨ra23, ga24, ca25, h⟩ := bdd_eq h
          refine gx_callVi X (40) (c_X10_set ca25) lc_X10_set li_X10_set lm_L_21 (by decide) (cl_40 _ _) rfl rfl rfl (Nat.le_trans (by decide) hd) rfl (Nat.le_of_ble_eq_true rfl) dL_law_262 ?_
          refine gx_icmp_eq X 1313 dL_law_265 (by decide) (fun q26 => ?_) (fun q26 => ?_)
          · replace h := (if_pos q26).symm.trans h
            refine gx_iinc X [(3, .int ((x3 + (6 : Int32)))), (0, .ref b), (1, .ref (al (0))), (2, .ref (al (40)))] 3 dL_law_1313 rfl rfl (by decide) rfl ?_
            refine gx_goto X 18 dL_law_1316 (by decide) ?_
            exact gx_sub [1, 2, 3, 0] rfl (ih (x3 + (6 : Int32)) ga24 h)
          · replace h := (if_neg q26).symm.trans h
            refine gx_iconst X (v := (0 : Int32)) dL_law_268 (by decide) ?_
            exact absurd (ret_eq h).1 (by decide)
        · replace h := (if_neg q15).symm.trans h
          by_cases q27 : ((xs x3.toNatClampNeg) &&& (63 : Int32)) = (2 : Int32)
          · replace h := (if_pos q27).symm.trans h
            have eq27 : (((xs x3.toNatClampNeg) &&& (63 : Int32))).toInt = 2 := by rw [q27] <;> decide
            refine gx_tab 270 X dL_law_33 (by rw [eq27] <;> decide) (by rw [eq27] <;> decide) (by rw [eq27] <;> rfl) (by decide) ?_
            refine gx_aload_n X 1 rfl dL_law_270 ?_
            refine gx_aload_n X 0 rfl dL_law_271 ?_
            refine gx_iload_n X 3 rfl dL_law_272 ?_
            refine gx_iconst X (v := (1 : Int32)) dL_law_273 (by decide) ?_
            refine gx_iadd X dL_law_274 ?_
            obtain ⟨q28, h⟩ := gdd_eq h
            refine gx_sld X hX hbl hbA q28 dL_law_275 ?_
            refine gx_aload_n X 0 rfl dL_law_276 ?_
            refine gx_iload_n X 3 rfl dL_law_277 ?_
            refine gx_iconst X (v := (2 : Int32)) dL_law_278 (by decide) ?_
            refine gx_iadd X dL_law_279 ?_
            obtain ⟨q29, h⟩ := gdd_eq h
            refine gx_sld X hX hbl hbA q29 dL_law_280 ?_
            obtain ⟨ra30, ga31, ca32, h⟩ := bdd_eq h
            refine gx_callVi X (0) (c_X9_strike ca32) lc_X9_strike li_X9_strike lm_L_22 (by decide) (cl_0 _ _) rfl rfl rfl (Nat.le_trans (by decide) hd) rfl (Nat.le_of_ble_eq_true rfl) dL_law_281 ?_
            refine gx_aload_n X 2 rfl dL_law_284 ?_
            refine gx_aload_n X 0 rfl dL_law_285 ?_
            refine gx_iload_n X 3 rfl dL_law_286 ?_
            refine gx_iconst X (v := (1 : Int32)) dL_law_287 (by decide) ?_
            refine gx_iadd X dL_law_288 ?_
            obtain ⟨q33, h⟩ := gdd_eq h
            refine gx_sld X hX hbl hbA q33 dL_law_289 ?_
            refine gx_aload_n X 0 rfl dL_law_290 ?_
            refine gx_iload_n X 3 rfl dL_law_291 ?_
            refine gx_iconst X (v := (2 : Int32)) dL_law_292 (by decide) ?_
            refine gx_iadd X dL_law_293 ?_
            obtain ⟨q34, h⟩ := gdd_eq h
            refine gx_sld X hX hbl hbA q34 dL_law_294 ?_
            obtain ⟨ra35, ga36, ca37, h⟩ := bdd_eq h
            refine gx_callVi X (40) (c_X10_strike ca37) lc_X10_strike li_X10_strike lm_L_25 (by decide) (cl_40 _ _) rfl rfl rfl (Nat.le_trans (by decide) hd) rfl (Nat.le_of_ble_eq_true rfl) dL_law_295 ?_
            refine gx_icmp_eq X 1313 dL_law_298 (by decide) (fun q38 => ?_) (fun q38 => ?_)
            · replace h := (if_pos q38).symm.trans h
              refine gx_iinc X [(3, .int ((x3 + (6 : Int32)))), (0, .ref b), (1, .ref (al (0))), (2, .ref (al (40)))] 3 dL_law_1313 rfl rfl (by decide) rfl ?_
              refine gx_goto X 18 dL_law_1316 (by decide) ?_
              exact gx_sub [1, 2, 3, 0] rfl (ih (x3 + (6 : Int32)) ga36 h)
            · replace h := (if_neg q38).symm.trans h
              refine gx_iconst X (v := (0 : Int32)) dL_law_301 (by decide) ?_
              exact absurd (ret_eq h).1 (by decide)
          · replace h := (if_neg q27).symm.trans h
            by_cases q39 : ((xs x3.toNatClampNeg) &&& (63 : Int32)) = (3 : Int32)
            · replace h := (if_pos q39).symm.trans h
              have eq39 : (((xs x3.toNatClampNeg) &&& (63 : Int32))).toInt = 3 := by rw [q39] <;> decide
              refine gx_tab 303 X dL_law_33 (by rw [eq39] <;> decide) (by rw [eq39] <;> decide) (by rw [eq39] <;> rfl) (by decide) ?_
              refine gx_aload_n X 1 rfl dL_law_303 ?_
              refine gx_aload_n X 0 rfl dL_law_304 ?_
              refine gx_iload_n X 3 rfl dL_law_305 ?_
              refine gx_iconst X (v := (1 : Int32)) dL_law_306 (by decide) ?_
              refine gx_iadd X dL_law_307 ?_
              obtain ⟨q40, h⟩ := gdd_eq h
              refine gx_sld X hX hbl hbA q40 dL_law_308 ?_
              refine gx_aload_n X 0 rfl dL_law_309 ?_
              refine gx_iload_n X 3 rfl dL_law_310 ?_
              refine gx_iconst X (v := (2 : Int32)) dL_law_311 (by decide) ?_
              refine gx_iadd X dL_law_312 ?_
              obtain ⟨q41, h⟩ := gdd_eq h
              refine gx_sld X hX hbl hbA q41 dL_law_313 ?_
              refine gx_aload_n X 0 rfl dL_law_314 ?_
              refine gx_iload_n X 3 rfl dL_law_315 ?_
              refine gx_iconst X (v := (3 : Int32)) dL_law_316 (by decide) ?_
              refine gx_iadd X dL_law_317 ?_
              obtain ⟨q42, h⟩ := gdd_eq h
              refine gx_sld X hX hbl hbA q42 dL_law_318 ?_
              refine gx_aload_n X 0 rfl dL_law_319 ?_
              refine gx_iload_n X 3 rfl dL_law_320 ?_
              refine gx_iconst X (v := (4 : Int32)) dL_law_321 (by decide) ?_
              refine gx_iadd X dL_law_322 ?_
              obtain ⟨q43, h⟩ := gdd_eq h
              refine gx_sld X hX hbl hbA q43 dL_law_323 ?_
              obtain ⟨ra44, ga45, ca46, h⟩ := bdd_eq h
              refine gx_callVi X (0) (c_X9_strikes ca46) lc_X9_strikes li_X9_strikes lm_L_26 (by decide) (cl_0 _ _) rfl rfl rfl (Nat.le_trans (by decide) hd) rfl (Nat.le_of_ble_eq_true rfl) dL_law_324 ?_
              refine gx_aload_n X 2 rfl dL_law_327 ?_
              refine gx_aload_n X 0 rfl dL_law_328 ?_
              refine gx_iload_n X 3 rfl dL_law_329 ?_
              refine gx_iconst X (v := (1 : Int32)) dL_law_330 (by decide) ?_
              refine gx_iadd X dL_law_331 ?_
              obtain ⟨q47, h⟩ := gdd_eq h
              refine gx_sld X hX hbl hbA q47 dL_law_332 ?_
              refine gx_aload_n X 0 rfl dL_law_333 ?_
              refine gx_iload_n X 3 rfl dL_law_334 ?_
              refine gx_iconst X (v := (2 : Int32)) dL_law_335 (by decide) ?_
              refine gx_iadd X dL_law_336 ?_
              obtain ⟨q48, h⟩ := gdd_eq h
              refine gx_sld X hX hbl hbA q48 dL_law_337 ?_
              refine gx_aload_n X 0 rfl dL_law_338 ?_
              refine gx_iload_n X 3 rfl dL_law_339 ?_
              refine gx_iconst X (v := (3 : Int32)) dL_law_340 (by decide) ?_
              refine gx_iadd X dL_law_341 ?_
              obtain ⟨q49, h⟩ := gdd_eq h
              refine gx_sld X hX hbl hbA q49 dL_law_342 ?_
              refine gx_aload_n X 0 rfl dL_law_343 ?_
              refine gx_iload_n X 3 rfl dL_law_344 ?_
              refine gx_iconst X (v := (4 : Int32)) dL_law_345 (by decide) ?_
              refine gx_iadd X dL_law_346 ?_
              obtain ⟨q50, h⟩ := gdd_eq h
              refine gx_sld X hX hbl hbA q50 dL_law_347 ?_
              obtain ⟨ra51, ga52, ca53, h⟩ := bdd_eq h
              refine gx_callVi X (40) (c_X10_strikes ca53) lc_X10_strikes li_X10_strikes lm_L_30 (by decide) (cl_40 _ _) rfl rfl rfl (Nat.le_trans (by decide) hd) rfl (Nat.le_of_ble_eq_true rfl) dL_law_348 ?_
              refine gx_icmp_eq X 1313 dL_law_351 (by decide) (fun q54 => ?_) (fun q54 => ?_)
              · replace h := (if_pos q54).symm.trans h
                refine gx_iinc X [(3, .int ((x3 + (6 : Int32)))), (0, .ref b), (1, .ref (al (0))), (2, .ref (al (40)))] 3 dL_law_1313 rfl rfl (by decide) rfl ?_
                refine gx_goto X 18 dL_law_1316 (by decide) ?_
                exact gx_sub [1, 2, 3, 0] rfl (ih (x3 + (6 : Int32)) ga52 h)
              · replace h := (if_neg q54).symm.trans h
                refine gx_iconst X (v := (0 : Int32)) dL_law_354 (by decide) ?_
                exact absurd (ret_eq h).1 (by decide)
            · replace h := (if_neg q39).symm.trans h
              by_cases q55 : ((xs x3.toNatClampNeg) &&& (63 : Int32)) = (4 : Int32)
              · replace h := (if_pos q55).symm.trans h
                have eq55 : (((xs x3.toNatClampNeg) &&& (63 : Int32))).toInt = 4 := by rw [q55] <;> decide
                refine gx_tab 356 X dL_law_33 (by rw [eq55] <;> decide) (by rw [eq55] <;> decide) (by rw [eq55] <;> rfl) (by decide) ?_
                refine gx_aload_n X 1 rfl dL_law_356 ?_
                refine gx_aload_n X 0 rfl dL_law_357 ?_
                refine gx_iload_n X 3 rfl dL_law_358 ?_
                refine gx_iconst X (v := (1 : Int32)) dL_law_359 (by decide) ?_
                refine gx_iadd X dL_law_360 ?_
                obtain ⟨q56, h⟩ := gdd_eq h
                refine gx_sld X hX hbl hbA q56 dL_law_361 ?_
                refine gx_aload_n X 0 rfl dL_law_362 ?_
                refine gx_iload_n X 3 rfl dL_law_363 ?_
                refine gx_iconst X (v := (2 : Int32)) dL_law_364 (by decide) ?_
                refine gx_iadd X dL_law_365 ?_
                obtain ⟨q57, h⟩ := gdd_eq h
                refine gx_sld X hX hbl hbA q57 dL_law_366 ?_
                obtain ⟨ra58, ga59, ca60, h⟩ := bdd_eq h
                refine gx_callVi X (0) (c_X9_most ca60) lc_X9_most li_X9_most lm_L_31 (by decide) (cl_0 _ _) rfl rfl rfl (Nat.le_trans (by decide) hd) rfl (Nat.le_of_ble_eq_true rfl) dL_law_367 ?_
                refine gx_aload_n X 2 rfl dL_law_370 ?_
                refine gx_aload_n X 0 rfl dL_law_371 ?_
                refine gx_iload_n X 3 rfl dL_law_372 ?_
                refine gx_iconst X (v := (1 : Int32)) dL_law_373 (by decide) ?_
                refine gx_iadd X dL_law_374 ?_
                obtain ⟨q61, h⟩ := gdd_eq h
                refine gx_sld X hX hbl hbA q61 dL_law_375 ?_
                refine gx_aload_n X 0 rfl dL_law_376 ?_
                refine gx_iload_n X 3 rfl dL_law_377 ?_
                refine gx_iconst X (v := (2 : Int32)) dL_law_378 (by decide) ?_
                refine gx_iadd X dL_law_379 ?_
                obtain ⟨q62, h⟩ := gdd_eq h
                refine gx_sld X hX hbl hbA q62 dL_law_380 ?_
                obtain ⟨ra63, ga64, ca65, h⟩ := bdd_eq h
                refine gx_callVi X (40) (c_X10_most ca65) lc_X10_most li_X10_most lm_L_34 (by decide) (cl_40 _ _) rfl rfl rfl (Nat.le_trans (by decide) hd) rfl (Nat.le_of_ble_eq_true rfl) dL_law_381 ?_
                refine gx_icmp_eq X 1313 dL_law_384 (by decide) (fun q66 => ?_) (fun q66 => ?_)
                · replace h := (if_pos q66).symm.trans h
                  refine gx_iinc X [(3, .int ((x3 + (6 : Int32)))), (0, .ref b), (1, .ref (al (0))), (2, .ref (al (40)))] 3 dL_law_1313 rfl rfl (by decide) rfl ?_
                  refine gx_goto X 18 dL_law_1316 (by decide) ?_
                  exact gx_sub [1, 2, 3, 0] rfl (ih (x3 + (6 : Int32)) ga64 h)
                · replace h := (if_neg q66).symm.trans h
                  refine gx_iconst X (v := (0 : Int32)) dL_law_387 (by decide) ?_
                  exact absurd (ret_eq h).1 (by decide)
              · replace h := (if_neg q55).symm.trans h
                by_cases q67 : ((xs x3.toNatClampNeg) &&& (63 : Int32)) = (5 : Int32)
                · replace h := (if_pos q67).symm.trans h
                  have eq67 : (((xs x3.toNatClampNeg) &&& (63 : Int32))).toInt = 5 := by rw [q67] <;> decide
                  refine gx_tab 389 X dL_law_33 (by rw [eq67] <;> decide) (by rw [eq67] <;> decide) (by rw [eq67] <;> rfl) (by decide) ?_
                  refine gx_aload_n X 1 rfl dL_law_389 ?_
                  refine gx_aload_n X 0 rfl dL_law_390 ?_
                  refine gx_iload_n X 3 rfl dL_law_391 ?_
                  refine gx_iconst X (v := (1 : Int32)) dL_law_392 (by decide) ?_
                  refine gx_iadd X dL_law_393 ?_
                  obtain ⟨q68, h⟩ := gdd_eq h
                  refine gx_sld X hX hbl hbA q68 dL_law_394 ?_
                  refine gx_aload_n X 0 rfl dL_law_395 ?_
                  refine gx_iload_n X 3 rfl dL_law_396 ?_
                  refine gx_iconst X (v := (2 : Int32)) dL_law_397 (by decide) ?_
                  refine gx_iadd X dL_law_398 ?_
                  obtain ⟨q69, h⟩ := gdd_eq h
                  refine gx_sld X hX hbl hbA q69 dL_law_399 ?_
                  obtain ⟨ra70, ga71, ca72, h⟩ := bdd_eq h
                  refine gx_callVi X (0) (c_X9_mix ca72) lc_X9_mix li_X9_mix lm_L_35 (by decide) (cl_0 _ _) rfl rfl rfl (Nat.le_trans (by decide) hd) rfl (Nat.le_of_ble_eq_true rfl) dL_law_400 ?_
                  refine gx_aload_n X 2 rfl dL_law_403 ?_
                  refine gx_aload_n X 0 rfl dL_law_404 ?_
                  refine gx_iload_n X 3 rfl dL_law_405 ?_
                  refine gx_iconst X (v := (1 : Int32)) dL_law_406 (by decide) ?_
                  refine gx_iadd X dL_law_407 ?_
                  obtain ⟨q73, h⟩ := gdd_eq h
                  refine gx_sld X hX hbl hbA q73 dL_law_408 ?_
                  refine gx_aload_n X 0 rfl dL_law_409 ?_
                  refine gx_iload_n X 3 rfl dL_law_410 ?_
                  refine gx_iconst X (v := (2 : Int32)) dL_law_411 (by decide) ?_
                  refine gx_iadd X dL_law_412 ?_
                  obtain ⟨q74, h⟩ := gdd_eq h
                  refine gx_sld X hX hbl hbA q74 dL_law_413 ?_
                  obtain ⟨ra75, ga76, ca77, h⟩ := bdd_eq h
                  refine gx_callVi X (40) (c_X10_mix ca77) lc_X10_mix li_X10_mix lm_L_38 (by decide) (cl_40 _ _) rfl rfl rfl (Nat.le_trans (by decide) hd) rfl (Nat.le_of_ble_eq_true rfl) dL_law_414 ?_
                  refine gx_icmp_eq X 1313 dL_law_417 (by decide) (fun q78 => ?_) (fun q78 => ?_)
                  · replace h := (if_pos q78).symm.trans h
                    refine gx_iinc X [(3, .int ((x3 + (6 : Int32)))), (0, .ref b), (1, .ref (al (0))), (2, .ref (al (40)))] 3 dL_law_1313 rfl rfl (by decide) rfl ?_
                    refine gx_goto X 18 dL_law_1316 (by decide) ?_
                    exact gx_sub [1, 2, 3, 0] rfl (ih (x3 + (6 : Int32)) ga76 h)
                  · replace h := (if_neg q78).symm.trans h
                    refine gx_iconst X (v := (0 : Int32)) dL_law_420 (by decide) ?_
                    exact absurd (ret_eq h).1 (by decide)
                · replace h := (if_neg q67).symm.trans h
                  by_cases q79 : ((xs x3.toNatClampNeg) &&& (63 : Int32)) = (6 : Int32)
                  · replace h := (if_pos q79).symm.trans h
                    have eq79 : (((xs x3.toNatClampNeg) &&& (63 : Int32))).toInt = 6 := by rw [q79] <;> decide
                    refine gx_tab 422 X dL_law_33 (by rw [eq79] <;> decide) (by rw [eq79] <;> decide) (by rw [eq79] <;> rfl) (by decide) ?_
                    refine gx_aload_n X 1 rfl dL_law_422 ?_
                    refine gx_aload_n X 0 rfl dL_law_423 ?_
                    refine gx_iload_n X 3 rfl dL_law_424 ?_
                    refine gx_iconst X (v := (1 : Int32)) dL_law_425 (by decide) ?_
                    refine gx_iadd X dL_law_426 ?_
                    obtain ⟨q80, h⟩ := gdd_eq h
                    refine gx_sld X hX hbl hbA q80 dL_law_427 ?_
                    obtain ⟨ra81, ga82, ca83, h⟩ := bdd_eq h
                    refine gx_callVi X (0) (c_X9_feed ca83) lc_X9_feed li_X9_feed lm_L_39 (by decide) (cl_0 _ _) rfl rfl rfl (Nat.le_trans (by decide) hd) rfl (Nat.le_of_ble_eq_true rfl) dL_law_428 ?_
                    refine gx_aload_n X 2 rfl dL_law_431 ?_
                    refine gx_aload_n X 0 rfl dL_law_432 ?_
                    refine gx_iload_n X 3 rfl dL_law_433 ?_
                    refine gx_iconst X (v := (1 : Int32)) dL_law_434 (by decide) ?_
                    refine gx_iadd X dL_law_435 ?_
                    obtain ⟨q84, h⟩ := gdd_eq h
                    refine gx_sld X hX hbl hbA q84 dL_law_436 ?_
                    obtain ⟨ra85, ga86, ca87, h⟩ := bdd_eq h
                    refine gx_callVi X (40) (c_X10_feed ca87) lc_X10_feed li_X10_feed lm_L_43 (by decide) (cl_40 _ _) rfl rfl rfl (Nat.le_trans (by decide) hd) rfl (Nat.le_of_ble_eq_true rfl) dL_law_437 ?_
                    refine gx_icmp_eq X 1313 dL_law_440 (by decide) (fun q88 => ?_) (fun q88 => ?_)
                    · replace h := (if_pos q88).symm.trans h
                      refine gx_iinc X [(3, .int ((x3 + (6 : Int32)))), (0, .ref b), (1, .ref (al (0))), (2, .ref (al (40)))] 3 dL_law_1313 rfl rfl (by decide) rfl ?_
                      refine gx_goto X 18 dL_law_1316 (by decide) ?_
                      exact gx_sub [1, 2, 3, 0] rfl (ih (x3 + (6 : Int32)) ga86 h)
                    · replace h := (if_neg q88).symm.trans h
                      refine gx_iconst X (v := (0 : Int32)) dL_law_443 (by decide) ?_
                      exact absurd (ret_eq h).1 (by decide)
                  · replace h := (if_neg q79).symm.trans h
                    by_cases q89 : ((xs x3.toNatClampNeg) &&& (63 : Int32)) = (7 : Int32)
                    · replace h := (if_pos q89).symm.trans h
                      have eq89 : (((xs x3.toNatClampNeg) &&& (63 : Int32))).toInt = 7 := by rw [q89] <;> decide
                      refine gx_tab 445 X dL_law_33 (by rw [eq89] <;> decide) (by rw [eq89] <;> decide) (by rw [eq89] <;> rfl) (by decide) ?_
                      refine gx_aload_n X 1 rfl dL_law_445 ?_
                      obtain ⟨ra90, ga91, ca92, h⟩ := bdd_eq h
                      refine gx_callVi X (0) (c_X9_law ca92) lc_X9_law li_X9_law lm_L_44 (by decide) (cl_0 _ _) rfl rfl rfl (Nat.le_trans (by decide) hd) rfl (Nat.le_of_ble_eq_true rfl) dL_law_446 ?_
                      refine gx_aload_n X 2 rfl dL_law_449 ?_
                      obtain ⟨ra93, ga94, ca95, h⟩ := bdd_eq h
                      refine gx_callVi X (40) (c_X10_law ca95) lc_X10_law li_X10_law lm_L_48 (by decide) (cl_40 _ _) rfl rfl rfl (Nat.le_trans (by decide) hd) rfl (Nat.le_of_ble_eq_true rfl) dL_law_450 ?_
                      refine gx_icmp_eq X 1313 dL_law_453 (by decide) (fun q96 => ?_) (fun q96 => ?_)
                      · replace h := (if_pos q96).symm.trans h
                        refine gx_iinc X [(3, .int ((x3 + (6 : Int32)))), (0, .ref b), (1, .ref (al (0))), (2, .ref (al (40)))] 3 dL_law_1313 rfl rfl (by decide) rfl ?_
                        refine gx_goto X 18 dL_law_1316 (by decide) ?_
                        exact gx_sub [1, 2, 3, 0] rfl (ih (x3 + (6 : Int32)) ga94 h)
                      · replace h := (if_neg q96).symm.trans h
                        refine gx_iconst X (v := (0 : Int32)) dL_law_456 (by decide) ?_
                        exact absurd (ret_eq h).1 (by decide)
                    · replace h := (if_neg q89).symm.trans h
                      by_cases q97 : ((xs x3.toNatClampNeg) &&& (63 : Int32)) = (8 : Int32)
                      · replace h := (if_pos q97).symm.trans h
                        have eq97 : (((xs x3.toNatClampNeg) &&& (63 : Int32))).toInt = 8 := by rw [q97] <;> decide
                        refine gx_tab 458 X dL_law_33 (by rw [eq97] <;> decide) (by rw [eq97] <;> decide) (by rw [eq97] <;> rfl) (by decide) ?_
                        refine gx_aload_n X 1 rfl dL_law_458 ?_
                        obtain ⟨ra98, ga99, ca100, h⟩ := bdd_eq h
                        refine gx_callVi X (0) (c_X9_lay ca100) lc_X9_lay li_X9_lay lm_L_49 (by decide) (cl_0 _ _) rfl rfl rfl (Nat.le_trans (by decide) hd) rfl (Nat.le_of_ble_eq_true rfl) dL_law_459 ?_
                        refine gx_aload_n X 2 rfl dL_law_462 ?_
                        obtain ⟨ra101, ga102, ca103, h⟩ := bdd_eq h
                        refine gx_callVi X (40) (c_X10_lay ca103) lc_X10_lay li_X10_lay lm_L_52 (by decide) (cl_40 _ _) rfl rfl rfl (Nat.le_trans (by decide) hd) rfl (Nat.le_of_ble_eq_true rfl) dL_law_463 ?_
                        refine gx_icmp_eq X 1313 dL_law_466 (by decide) (fun q104 => ?_) (fun q104 => ?_)
                        · replace h := (if_pos q104).symm.trans h
                          refine gx_iinc X [(3, .int ((x3 + (6 : Int32)))), (0, .ref b), (1, .ref (al (0))), (2, .ref (al (40)))] 3 dL_law_1313 rfl rfl (by decide) rfl ?_
                          refine gx_goto X 18 dL_law_1316 (by decide) ?_
                          exact gx_sub [1, 2, 3, 0] rfl (ih (x3 + (6 : Int32)) ga102 h)
                        · replace h := (if_neg q104).symm.trans h
                          refine gx_iconst X (v := (0 : Int32)) dL_law_469 (by decide) ?_
                          exact absurd (ret_eq h).1 (by decide)
                      · replace h := (if_neg q97).symm.trans h
                        by_cases q105 : ((xs x3.toNatClampNeg) &&& (63 : Int32)) = (9 : Int32)
                        · replace h := (if_pos q105).symm.trans h
                          have eq105 : (((xs x3.toNatClampNeg) &&& (63 : Int32))).toInt = 9 := by rw [q105] <;> decide
                          refine gx_tab 471 X dL_law_33 (by rw [eq105] <;> decide) (by rw [eq105] <;> decide) (by rw [eq105] <;> rfl) (by decide) ?_
                          refine gx_aload_n X 1 rfl dL_law_471 ?_
                          refine gx_aload_n X 0 rfl dL_law_472 ?_
                          refine gx_iload_n X 3 rfl dL_law_473 ?_
                          refine gx_iconst X (v := (1 : Int32)) dL_law_474 (by decide) ?_
                          refine gx_iadd X dL_law_475 ?_
                          obtain ⟨q106, h⟩ := gdd_eq h
                          refine gx_sld X hX hbl hbA q106 dL_law_476 ?_
                          refine gx_aload_n X 0 rfl dL_law_477 ?_
                          refine gx_iload_n X 3 rfl dL_law_478 ?_
                          refine gx_iconst X (v := (2 : Int32)) dL_law_479 (by decide) ?_
                          refine gx_iadd X dL_law_480 ?_
                          obtain ⟨q107, h⟩ := gdd_eq h
                          refine gx_sld X hX hbl hbA q107 dL_law_481 ?_
                          obtain ⟨ra108, ga109, ca110, h⟩ := bdd_eq h
                          refine gx_callVi X (0) (c_X9_line ca110) lc_X9_line li_X9_line lm_L_53 (by decide) (cl_0 _ _) rfl rfl rfl (Nat.le_trans (by decide) hd) rfl (Nat.le_of_ble_eq_true rfl) dL_law_482 ?_
                          refine gx_aload_n X 2 rfl dL_law_485 ?_
                          refine gx_aload_n X 0 rfl dL_law_486 ?_
                          refine gx_iload_n X 3 rfl dL_law_487 ?_
                          refine gx_iconst X (v := (1 : Int32)) dL_law_488 (by decide) ?_
                          refine gx_iadd X dL_law_489 ?_
                          obtain ⟨q111, h⟩ := gdd_eq h
                          refine gx_sld X hX hbl hbA q111 dL_law_490 ?_
                          refine gx_aload_n X 0 rfl dL_law_491 ?_
                          refine gx_iload_n X 3 rfl dL_law_492 ?_
                          refine gx_iconst X (v := (2 : Int32)) dL_law_493 (by decide) ?_
                          refine gx_iadd X dL_law_494 ?_
                          obtain ⟨q112, h⟩ := gdd_eq h
                          refine gx_sld X hX hbl hbA q112 dL_law_495 ?_
                          obtain ⟨ra113, ga114, ca115, h⟩ := bdd_eq h
                          refine gx_callVi X (40) (c_X10_line ca115) lc_X10_line li_X10_line lm_L_56 (by decide) (cl_40 _ _) rfl rfl rfl (Nat.le_trans (by decide) hd) rfl (Nat.le_of_ble_eq_true rfl) dL_law_496 ?_
                          refine gx_icmp_eq X 1313 dL_law_499 (by decide) (fun q116 => ?_) (fun q116 => ?_)
                          · replace h := (if_pos q116).symm.trans h
                            refine gx_iinc X [(3, .int ((x3 + (6 : Int32)))), (0, .ref b), (1, .ref (al (0))), (2, .ref (al (40)))] 3 dL_law_1313 rfl rfl (by decide) rfl ?_
                            refine gx_goto X 18 dL_law_1316 (by decide) ?_
                            exact gx_sub [1, 2, 3, 0] rfl (ih (x3 + (6 : Int32)) ga114 h)
                          · replace h := (if_neg q116).symm.trans h
                            refine gx_iconst X (v := (0 : Int32)) dL_law_502 (by decide) ?_
                            exact absurd (ret_eq h).1 (by decide)
                        · replace h := (if_neg q105).symm.trans h
                          by_cases q117 : ((xs x3.toNatClampNeg) &&& (63 : Int32)) = (10 : Int32)
                          · replace h := (if_pos q117).symm.trans h
                            have eq117 : (((xs x3.toNatClampNeg) &&& (63 : Int32))).toInt = 10 := by rw [q117] <;> decide
                            refine gx_tab 504 X dL_law_33 (by rw [eq117] <;> decide) (by rw [eq117] <;> decide) (by rw [eq117] <;> rfl) (by decide) ?_
                            refine gx_aload_n X 1 rfl dL_law_504 ?_
                            refine gx_aload_n X 0 rfl dL_law_505 ?_
                            refine gx_iload_n X 3 rfl dL_law_506 ?_
                            refine gx_iconst X (v := (1 : Int32)) dL_law_507 (by decide) ?_
                            refine gx_iadd X dL_law_508 ?_
                            obtain ⟨q118, h⟩ := gdd_eq h
                            refine gx_sld X hX hbl hbA q118 dL_law_509 ?_
                            refine gx_aload_n X 0 rfl dL_law_510 ?_
                            refine gx_iload_n X 3 rfl dL_law_511 ?_
                            refine gx_iconst X (v := (2 : Int32)) dL_law_512 (by decide) ?_
                            refine gx_iadd X dL_law_513 ?_
                            obtain ⟨q119, h⟩ := gdd_eq h
                            refine gx_sld X hX hbl hbA q119 dL_law_514 ?_
                            obtain ⟨ra120, ga121, ca122, h⟩ := bdd_eq h
                            refine gx_callVi X (0) (c_X9_sum ca122) lc_X9_sum li_X9_sum lm_L_57 (by decide) (cl_0 _ _) rfl rfl rfl (Nat.le_trans (by decide) hd) rfl (Nat.le_of_ble_eq_true rfl) dL_law_515 ?_
                            refine gx_aload_n X 2 rfl dL_law_518 ?_
                            refine gx_aload_n X 0 rfl dL_law_519 ?_
                            refine gx_iload_n X 3 rfl dL_law_520 ?_
                            refine gx_iconst X (v := (1 : Int32)) dL_law_521 (by decide) ?_
                            refine gx_iadd X dL_law_522 ?_
                            obtain ⟨q123, h⟩ := gdd_eq h
                            refine gx_sld X hX hbl hbA q123 dL_law_523 ?_
                            refine gx_aload_n X 0 rfl dL_law_524 ?_
                            refine gx_iload_n X 3 rfl dL_law_525 ?_
                            refine gx_iconst X (v := (2 : Int32)) dL_law_526 (by decide) ?_
                            refine gx_iadd X dL_law_527 ?_
                            obtain ⟨q124, h⟩ := gdd_eq h
                            refine gx_sld X hX hbl hbA q124 dL_law_528 ?_
                            obtain ⟨ra125, ga126, ca127, h⟩ := bdd_eq h
                            refine gx_callVi X (40) (c_X10_sum ca127) lc_X10_sum li_X10_sum lm_L_60 (by decide) (cl_40 _ _) rfl rfl rfl (Nat.le_trans (by decide) hd) rfl (Nat.le_of_ble_eq_true rfl) dL_law_529 ?_
                            refine gx_icmp_eq X 1313 dL_law_532 (by decide) (fun q128 => ?_) (fun q128 => ?_)
                            · replace h := (if_pos q128).symm.trans h
                              refine gx_iinc X [(3, .int ((x3 + (6 : Int32)))), (0, .ref b), (1, .ref (al (0))), (2, .ref (al (40)))] 3 dL_law_1313 rfl rfl (by decide) rfl ?_
                              refine gx_goto X 18 dL_law_1316 (by decide) ?_
                              exact gx_sub [1, 2, 3, 0] rfl (ih (x3 + (6 : Int32)) ga126 h)
                            · replace h := (if_neg q128).symm.trans h
                              refine gx_iconst X (v := (0 : Int32)) dL_law_535 (by decide) ?_
                              exact absurd (ret_eq h).1 (by decide)
                          · replace h := (if_neg q117).symm.trans h
                            by_cases q129 : ((xs x3.toNatClampNeg) &&& (63 : Int32)) = (11 : Int32)
                            · replace h := (if_pos q129).symm.trans h
                              have eq129 : (((xs x3.toNatClampNeg) &&& (63 : Int32))).toInt = 11 := by rw [q129] <;> decide
                              refine gx_tab 537 X dL_law_33 (by rw [eq129] <;> decide) (by rw [eq129] <;> decide) (by rw [eq129] <;> rfl) (by decide) ?_
                              refine gx_aload_n X 1 rfl dL_law_537 ?_
                              refine gx_aload_n X 0 rfl dL_law_538 ?_
                              refine gx_iload_n X 3 rfl dL_law_539 ?_
                              refine gx_iconst X (v := (1 : Int32)) dL_law_540 (by decide) ?_
                              refine gx_iadd X dL_law_541 ?_
                              obtain ⟨q130, h⟩ := gdd_eq h
                              refine gx_sld X hX hbl hbA q130 dL_law_542 ?_
                              refine gx_aload_n X 0 rfl dL_law_543 ?_
                              refine gx_iload_n X 3 rfl dL_law_544 ?_
                              refine gx_iconst X (v := (2 : Int32)) dL_law_545 (by decide) ?_
                              refine gx_iadd X dL_law_546 ?_
                              obtain ⟨q131, h⟩ := gdd_eq h
                              refine gx_sld X hX hbl hbA q131 dL_law_547 ?_
                              obtain ⟨ra132, ga133, ca134, h⟩ := bdd_eq h
                              refine gx_callVi X (0) (c_X9_of ca134) lc_X9_of li_X9_of lm_L_61 (by decide) (cl_0 _ _) rfl rfl rfl (Nat.le_trans (by decide) hd) rfl (Nat.le_of_ble_eq_true rfl) dL_law_548 ?_
                              refine gx_aload_n X 2 rfl dL_law_551 ?_
                              refine gx_aload_n X 0 rfl dL_law_552 ?_
                              refine gx_iload_n X 3 rfl dL_law_553 ?_
                              refine gx_iconst X (v := (1 : Int32)) dL_law_554 (by decide) ?_
                              refine gx_iadd X dL_law_555 ?_
                              obtain ⟨q135, h⟩ := gdd_eq h
                              refine gx_sld X hX hbl hbA q135 dL_law_556 ?_
                              refine gx_aload_n X 0 rfl dL_law_557 ?_
                              refine gx_iload_n X 3 rfl dL_law_558 ?_
                              refine gx_iconst X (v := (2 : Int32)) dL_law_559 (by decide) ?_
                              refine gx_iadd X dL_law_560 ?_
                              obtain ⟨q136, h⟩ := gdd_eq h
                              refine gx_sld X hX hbl hbA q136 dL_law_561 ?_
                              obtain ⟨ra137, ga138, ca139, h⟩ := bdd_eq h
                              refine gx_callVi X (40) (c_X10_of ca139) lc_X10_of li_X10_of lm_L_64 (by decide) (cl_40 _ _) rfl rfl rfl (Nat.le_trans (by decide) hd) rfl (Nat.le_of_ble_eq_true rfl) dL_law_562 ?_
                              refine gx_icmp_eq X 1313 dL_law_565 (by decide) (fun q140 => ?_) (fun q140 => ?_)
                              · replace h := (if_pos q140).symm.trans h
                                refine gx_iinc X [(3, .int ((x3 + (6 : Int32)))), (0, .ref b), (1, .ref (al (0))), (2, .ref (al (40)))] 3 dL_law_1313 rfl rfl (by decide) rfl ?_
                                refine gx_goto X 18 dL_law_1316 (by decide) ?_
                                exact gx_sub [1, 2, 3, 0] rfl (ih (x3 + (6 : Int32)) ga138 h)
                              · replace h := (if_neg q140).symm.trans h
                                refine gx_iconst X (v := (0 : Int32)) dL_law_568 (by decide) ?_
                                exact absurd (ret_eq h).1 (by decide)
                            · replace h := (if_neg q129).symm.trans h
                              by_cases q141 : ((xs x3.toNatClampNeg) &&& (63 : Int32)) = (12 : Int32)
                              · replace h := (if_pos q141).symm.trans h
                                have eq141 : (((xs x3.toNatClampNeg) &&& (63 : Int32))).toInt = 12 := by rw [q141] <;> decide
                                refine gx_tab 570 X dL_law_33 (by rw [eq141] <;> decide) (by rw [eq141] <;> decide) (by rw [eq141] <;> rfl) (by decide) ?_
                                refine gx_aload_n X 1 rfl dL_law_570 ?_
                                refine gx_aload_n X 0 rfl dL_law_571 ?_
                                refine gx_iload_n X 3 rfl dL_law_572 ?_
                                refine gx_iconst X (v := (1 : Int32)) dL_law_573 (by decide) ?_
                                refine gx_iadd X dL_law_574 ?_
                                obtain ⟨q142, h⟩ := gdd_eq h
                                refine gx_sld X hX hbl hbA q142 dL_law_575 ?_
                                obtain ⟨ra143, ga144, ca145, h⟩ := bdd_eq h
                                refine gx_callVi X (0) (c_X9_tells ca145) lc_X9_tells li_X9_tells lm_L_65 (by decide) (cl_0 _ _) rfl rfl rfl (Nat.le_trans (by decide) hd) rfl (Nat.le_of_ble_eq_true rfl) dL_law_576 ?_
                                refine gx_aload_n X 2 rfl dL_law_579 ?_
                                refine gx_aload_n X 0 rfl dL_law_580 ?_
                                refine gx_iload_n X 3 rfl dL_law_581 ?_
                                refine gx_iconst X (v := (1 : Int32)) dL_law_582 (by decide) ?_
                                refine gx_iadd X dL_law_583 ?_
                                obtain ⟨q146, h⟩ := gdd_eq h
                                refine gx_sld X hX hbl hbA q146 dL_law_584 ?_
                                obtain ⟨ra147, ga148, ca149, h⟩ := bdd_eq h
                                refine gx_callVi X (40) (c_X10_tells ca149) lc_X10_tells li_X10_tells lm_L_68 (by decide) (cl_40 _ _) rfl rfl rfl (Nat.le_trans (by decide) hd) rfl (Nat.le_of_ble_eq_true rfl) dL_law_585 ?_
                                refine gx_icmp_eq X 1313 dL_law_588 (by decide) (fun q150 => ?_) (fun q150 => ?_)
                                · replace h := (if_pos q150).symm.trans h
                                  refine gx_iinc X [(3, .int ((x3 + (6 : Int32)))), (0, .ref b), (1, .ref (al (0))), (2, .ref (al (40)))] 3 dL_law_1313 rfl rfl (by decide) rfl ?_
                                  refine gx_goto X 18 dL_law_1316 (by decide) ?_
                                  exact gx_sub [1, 2, 3, 0] rfl (ih (x3 + (6 : Int32)) ga148 h)
                                · replace h := (if_neg q150).symm.trans h
                                  refine gx_iconst X (v := (0 : Int32)) dL_law_591 (by decide) ?_
                                  exact absurd (ret_eq h).1 (by decide)
                              · replace h := (if_neg q141).symm.trans h
                                by_cases q151 : ((xs x3.toNatClampNeg) &&& (63 : Int32)) = (13 : Int32)
                                · replace h := (if_pos q151).symm.trans h
                                  have eq151 : (((xs x3.toNatClampNeg) &&& (63 : Int32))).toInt = 13 := by rw [q151] <;> decide
                                  refine gx_tab 593 X dL_law_33 (by rw [eq151] <;> decide) (by rw [eq151] <;> decide) (by rw [eq151] <;> rfl) (by decide) ?_
                                  refine gx_aload_n X 1 rfl dL_law_593 ?_
                                  refine gx_aload_n X 0 rfl dL_law_594 ?_
                                  refine gx_iload_n X 3 rfl dL_law_595 ?_
                                  refine gx_iconst X (v := (1 : Int32)) dL_law_596 (by decide) ?_
                                  refine gx_iadd X dL_law_597 ?_
                                  obtain ⟨q152, h⟩ := gdd_eq h
                                  refine gx_sld X hX hbl hbA q152 dL_law_598 ?_
                                  obtain ⟨ra153, ga154, ca155, h⟩ := bdd_eq h
                                  refine gx_callVi X (0) (c_X9_gap ca155) lc_X9_gap li_X9_gap lm_L_69 (by decide) (cl_0 _ _) rfl rfl rfl (Nat.le_trans (by decide) hd) rfl (Nat.le_of_ble_eq_true rfl) dL_law_599 ?_
                                  refine gx_aload_n X 2 rfl dL_law_602 ?_
                                  refine gx_aload_n X 0 rfl dL_law_603 ?_
                                  refine gx_iload_n X 3 rfl dL_law_604 ?_
                                  refine gx_iconst X (v := (1 : Int32)) dL_law_605 (by decide) ?_
                                  refine gx_iadd X dL_law_606 ?_
                                  obtain ⟨q156, h⟩ := gdd_eq h
                                  refine gx_sld X hX hbl hbA q156 dL_law_607 ?_
                                  obtain ⟨ra157, ga158, ca159, h⟩ := bdd_eq h
                                  refine gx_callVi X (40) (c_X10_gap ca159) lc_X10_gap li_X10_gap lm_L_72 (by decide) (cl_40 _ _) rfl rfl rfl (Nat.le_trans (by decide) hd) rfl (Nat.le_of_ble_eq_true rfl) dL_law_608 ?_
                                  refine gx_icmp_eq X 1313 dL_law_611 (by decide) (fun q160 => ?_) (fun q160 => ?_)
                                  · replace h := (if_pos q160).symm.trans h
                                    refine gx_iinc X [(3, .int ((x3 + (6 : Int32)))), (0, .ref b), (1, .ref (al (0))), (2, .ref (al (40)))] 3 dL_law_1313 rfl rfl (by decide) rfl ?_
                                    refine gx_goto X 18 dL_law_1316 (by decide) ?_
                                    exact gx_sub [1, 2, 3, 0] rfl (ih (x3 + (6 : Int32)) ga158 h)
                                  · replace h := (if_neg q160).symm.trans h
                                    refine gx_iconst X (v := (0 : Int32)) dL_law_614 (by decide) ?_
                                    exact absurd (ret_eq h).1 (by decide)
                                · replace h := (if_neg q151).symm.trans h
                                  by_cases q161 : ((xs x3.toNatClampNeg) &&& (63 : Int32)) = (14 : Int32)
                                  · replace h := (if_pos q161).symm.trans h
                                    have eq161 : (((xs x3.toNatClampNeg) &&& (63 : Int32))).toInt = 14 := by rw [q161] <;> decide
                                    refine gx_tab 616 X dL_law_33 (by rw [eq161] <;> decide) (by rw [eq161] <;> decide) (by rw [eq161] <;> rfl) (by decide) ?_
                                    refine gx_aload_n X 1 rfl dL_law_616 ?_
                                    obtain ⟨ra162, ga163, ca164, h⟩ := bdd_eq h
                                    refine gx_callVi X (0) (c_X9_bears ca164) lc_X9_bears li_X9_bears lm_L_73 (by decide) (cl_0 _ _) rfl rfl rfl (Nat.le_trans (by decide) hd) rfl (Nat.le_of_ble_eq_true rfl) dL_law_617 ?_
                                    refine gx_aload_n X 2 rfl dL_law_620 ?_
                                    obtain ⟨ra165, ga166, ca167, h⟩ := bdd_eq h
                                    refine gx_callVi X (40) (c_X10_bears ca167) lc_X10_bears li_X10_bears lm_L_76 (by decide) (cl_40 _ _) rfl rfl rfl (Nat.le_trans (by decide) hd) rfl (Nat.le_of_ble_eq_true rfl) dL_law_621 ?_
                                    refine gx_icmp_eq X 1313 dL_law_624 (by decide) (fun q168 => ?_) (fun q168 => ?_)
                                    · replace h := (if_pos q168).symm.trans h
                                      refine gx_iinc X [(3, .int ((x3 + (6 : Int32)))), (0, .ref b), (1, .ref (al (0))), (2, .ref (al (40)))] 3 dL_law_1313 rfl rfl (by decide) rfl ?_
                                      refine gx_goto X 18 dL_law_1316 (by decide) ?_
                                      exact gx_sub [1, 2, 3, 0] rfl (ih (x3 + (6 : Int32)) ga166 h)
                                    · replace h := (if_neg q168).symm.trans h
                                      refine gx_iconst X (v := (0 : Int32)) dL_law_627 (by decide) ?_
                                      exact absurd (ret_eq h).1 (by decide)
                                  · replace h := (if_neg q161).symm.trans h
                                    by_cases q169 : ((xs x3.toNatClampNeg) &&& (63 : Int32)) = (15 : Int32)
                                    · replace h := (if_pos q169).symm.trans h
                                      have eq169 : (((xs x3.toNatClampNeg) &&& (63 : Int32))).toInt = 15 := by rw [q169] <;> decide
                                      refine gx_tab 629 X dL_law_33 (by rw [eq169] <;> decide) (by rw [eq169] <;> decide) (by rw [eq169] <;> rfl) (by decide) ?_
                                      refine gx_aload_n X 1 rfl dL_law_629 ?_
                                      refine gx_aload_n X 0 rfl dL_law_630 ?_
                                      refine gx_iload_n X 3 rfl dL_law_631 ?_
                                      refine gx_iconst X (v := (1 : Int32)) dL_law_632 (by decide) ?_
                                      refine gx_iadd X dL_law_633 ?_
                                      obtain ⟨q170, h⟩ := gdd_eq h
                                      refine gx_sld X hX hbl hbA q170 dL_law_634 ?_
                                      obtain ⟨ra171, ga172, ca173, h⟩ := bdd_eq h
                                      refine gx_callVi X (0) (c_X9_hear ca173) lc_X9_hear li_X9_hear lm_L_77 (by decide) (cl_0 _ _) rfl rfl rfl (Nat.le_trans (by decide) hd) rfl (Nat.le_of_ble_eq_true rfl) dL_law_635 ?_
                                      refine gx_aload_n X 2 rfl dL_law_638 ?_
                                      refine gx_aload_n X 0 rfl dL_law_639 ?_
                                      refine gx_iload_n X 3 rfl dL_law_640 ?_
                                      refine gx_iconst X (v := (1 : Int32)) dL_law_641 (by decide) ?_
                                      refine gx_iadd X dL_law_642 ?_
                                      obtain ⟨q174, h⟩ := gdd_eq h
                                      refine gx_sld X hX hbl hbA q174 dL_law_643 ?_
                                      obtain ⟨ra175, ga176, ca177, h⟩ := bdd_eq h
                                      refine gx_callVi X (40) (c_X10_hear ca177) lc_X10_hear li_X10_hear lm_L_80 (by decide) (cl_40 _ _) rfl rfl rfl (Nat.le_trans (by decide) hd) rfl (Nat.le_of_ble_eq_true rfl) dL_law_644 ?_
                                      refine gx_icmp_eq X 1313 dL_law_647 (by decide) (fun q178 => ?_) (fun q178 => ?_)
                                      · replace h := (if_pos q178).symm.trans h
                                        refine gx_iinc X [(3, .int ((x3 + (6 : Int32)))), (0, .ref b), (1, .ref (al (0))), (2, .ref (al (40)))] 3 dL_law_1313 rfl rfl (by decide) rfl ?_
                                        refine gx_goto X 18 dL_law_1316 (by decide) ?_
                                        exact gx_sub [1, 2, 3, 0] rfl (ih (x3 + (6 : Int32)) ga176 h)
                                      · replace h := (if_neg q178).symm.trans h
                                        refine gx_iconst X (v := (0 : Int32)) dL_law_650 (by decide) ?_
                                        exact absurd (ret_eq h).1 (by decide)
                                    · replace h := (if_neg q169).symm.trans h
                                      by_cases q179 : ((xs x3.toNatClampNeg) &&& (63 : Int32)) = (16 : Int32)
                                      · replace h := (if_pos q179).symm.trans h
                                        have eq179 : (((xs x3.toNatClampNeg) &&& (63 : Int32))).toInt = 16 := by rw [q179] <;> decide
                                        refine gx_tab 652 X dL_law_33 (by rw [eq179] <;> decide) (by rw [eq179] <;> decide) (by rw [eq179] <;> rfl) (by decide) ?_
                                        refine gx_aload_n X 1 rfl dL_law_652 ?_
                                        obtain ⟨ra180, ga181, ca182, h⟩ := bdd_eq h
                                        refine gx_callVi X (0) (c_X9_which ca182) lc_X9_which li_X9_which lm_L_81 (by decide) (cl_0 _ _) rfl rfl rfl (Nat.le_trans (by decide) hd) rfl (Nat.le_of_ble_eq_true rfl) dL_law_653 ?_
                                        refine gx_aload_n X 2 rfl dL_law_656 ?_
                                        obtain ⟨ra183, ga184, ca185, h⟩ := bdd_eq h
                                        refine gx_callVi X (40) (c_X10_which ca185) lc_X10_which li_X10_which lm_L_84 (by decide) (cl_40 _ _) rfl rfl rfl (Nat.le_trans (by decide) hd) rfl (Nat.le_of_ble_eq_true rfl) dL_law_657 ?_
                                        refine gx_icmp_eq X 1313 dL_law_660 (by decide) (fun q186 => ?_) (fun q186 => ?_)
                                        · replace h := (if_pos q186).symm.trans h
                                          refine gx_iinc X [(3, .int ((x3 + (6 : Int32)))), (0, .ref b), (1, .ref (al (0))), (2, .ref (al (40)))] 3 dL_law_1313 rfl rfl (by decide) rfl ?_
                                          refine gx_goto X 18 dL_law_1316 (by decide) ?_
                                          exact gx_sub [1, 2, 3, 0] rfl (ih (x3 + (6 : Int32)) ga184 h)
                                        · replace h := (if_neg q186).symm.trans h
                                          refine gx_iconst X (v := (0 : Int32)) dL_law_663 (by decide) ?_
                                          exact absurd (ret_eq h).1 (by decide)
                                      · replace h := (if_neg q179).symm.trans h
                                        by_cases q187 : ((xs x3.toNatClampNeg) &&& (63 : Int32)) = (17 : Int32)
                                        · replace h := (if_pos q187).symm.trans h
                                          have eq187 : (((xs x3.toNatClampNeg) &&& (63 : Int32))).toInt = 17 := by rw [q187] <;> decide
                                          refine gx_tab 665 X dL_law_33 (by rw [eq187] <;> decide) (by rw [eq187] <;> decide) (by rw [eq187] <;> rfl) (by decide) ?_
                                          refine gx_aload_n X 1 rfl dL_law_665 ?_
                                          refine gx_aload_n X 0 rfl dL_law_666 ?_
                                          refine gx_iload_n X 3 rfl dL_law_667 ?_
                                          refine gx_iconst X (v := (1 : Int32)) dL_law_668 (by decide) ?_
                                          refine gx_iadd X dL_law_669 ?_
                                          obtain ⟨q188, h⟩ := gdd_eq h
                                          refine gx_sld X hX hbl hbA q188 dL_law_670 ?_
                                          refine gx_aload_n X 0 rfl dL_law_671 ?_
                                          refine gx_iload_n X 3 rfl dL_law_672 ?_
                                          refine gx_iconst X (v := (2 : Int32)) dL_law_673 (by decide) ?_
                                          refine gx_iadd X dL_law_674 ?_
                                          obtain ⟨q189, h⟩ := gdd_eq h
                                          refine gx_sld X hX hbl hbA q189 dL_law_675 ?_
                                          obtain ⟨ra190, ga191, ca192, h⟩ := bdd_eq h
                                          refine gx_callVi X (0) (c_X9_alone ca192) lc_X9_alone li_X9_alone lm_L_85 (by decide) (cl_0 _ _) rfl rfl rfl (Nat.le_trans (by decide) hd) rfl (Nat.le_of_ble_eq_true rfl) dL_law_676 ?_
                                          refine gx_aload_n X 2 rfl dL_law_679 ?_
                                          refine gx_aload_n X 0 rfl dL_law_680 ?_
                                          refine gx_iload_n X 3 rfl dL_law_681 ?_
                                          refine gx_iconst X (v := (1 : Int32)) dL_law_682 (by decide) ?_
                                          refine gx_iadd X dL_law_683 ?_
                                          obtain ⟨q193, h⟩ := gdd_eq h
                                          refine gx_sld X hX hbl hbA q193 dL_law_684 ?_
                                          refine gx_aload_n X 0 rfl dL_law_685 ?_
                                          refine gx_iload_n X 3 rfl dL_law_686 ?_
                                          refine gx_iconst X (v := (2 : Int32)) dL_law_687 (by decide) ?_
                                          refine gx_iadd X dL_law_688 ?_
                                          obtain ⟨q194, h⟩ := gdd_eq h
                                          refine gx_sld X hX hbl hbA q194 dL_law_689 ?_
                                          obtain ⟨ra195, ga196, ca197, h⟩ := bdd_eq h
                                          refine gx_callVi X (40) (c_X10_alone ca197) lc_X10_alone li_X10_alone lm_L_88 (by decide) (cl_40 _ _) rfl rfl rfl (Nat.le_trans (by decide) hd) rfl (Nat.le_of_ble_eq_true rfl) dL_law_690 ?_
                                          refine gx_icmp_eq X 1313 dL_law_693 (by decide) (fun q198 => ?_) (fun q198 => ?_)
                                          · replace h := (if_pos q198).symm.trans h
                                            refine gx_iinc X [(3, .int ((x3 + (6 : Int32)))), (0, .ref b), (1, .ref (al (0))), (2, .ref (al (40)))] 3 dL_law_1313 rfl rfl (by decide) rfl ?_
                                            refine gx_goto X 18 dL_law_1316 (by decide) ?_
                                            exact gx_sub [1, 2, 3, 0] rfl (ih (x3 + (6 : Int32)) ga196 h)
                                          · replace h := (if_neg q198).symm.trans h
                                            refine gx_iconst X (v := (0 : Int32)) dL_law_696 (by decide) ?_
                                            exact absurd (ret_eq h).1 (by decide)
                                        · replace h := (if_neg q187).symm.trans h
                                          by_cases q199 : ((xs x3.toNatClampNeg) &&& (63 : Int32)) = (18 : Int32)
                                          · replace h := (if_pos q199).symm.trans h
                                            have eq199 : (((xs x3.toNatClampNeg) &&& (63 : Int32))).toInt = 18 := by rw [q199] <;> decide
                                            refine gx_tab 698 X dL_law_33 (by rw [eq199] <;> decide) (by rw [eq199] <;> decide) (by rw [eq199] <;> rfl) (by decide) ?_
                                            refine gx_aload_n X 1 rfl dL_law_698 ?_
                                            refine gx_aload_n X 0 rfl dL_law_699 ?_
                                            refine gx_iload_n X 3 rfl dL_law_700 ?_
                                            refine gx_iconst X (v := (1 : Int32)) dL_law_701 (by decide) ?_
                                            refine gx_iadd X dL_law_702 ?_
                                            obtain ⟨q200, h⟩ := gdd_eq h
                                            refine gx_sld X hX hbl hbA q200 dL_law_703 ?_
                                            obtain ⟨ra201, ga202, ca203, h⟩ := bdd_eq h
                                            refine gx_callVi X (0) (c_X9_strokes ca203) lc_X9_strokes li_X9_strokes lm_L_89 (by decide) (cl_0 _ _) rfl rfl rfl (Nat.le_trans (by decide) hd) rfl (Nat.le_of_ble_eq_true rfl) dL_law_704 ?_
                                            refine gx_aload_n X 2 rfl dL_law_707 ?_
                                            refine gx_aload_n X 0 rfl dL_law_708 ?_
                                            refine gx_iload_n X 3 rfl dL_law_709 ?_
                                            refine gx_iconst X (v := (1 : Int32)) dL_law_710 (by decide) ?_
                                            refine gx_iadd X dL_law_711 ?_
                                            obtain ⟨q204, h⟩ := gdd_eq h
                                            refine gx_sld X hX hbl hbA q204 dL_law_712 ?_
                                            obtain ⟨ra205, ga206, ca207, h⟩ := bdd_eq h
                                            refine gx_callVi X (40) (c_X10_strokes ca207) lc_X10_strokes li_X10_strokes lm_L_92 (by decide) (cl_40 _ _) rfl rfl rfl (Nat.le_trans (by decide) hd) rfl (Nat.le_of_ble_eq_true rfl) dL_law_713 ?_
                                            refine gx_icmp_eq X 1313 dL_law_716 (by decide) (fun q208 => ?_) (fun q208 => ?_)
                                            · replace h := (if_pos q208).symm.trans h
                                              refine gx_iinc X [(3, .int ((x3 + (6 : Int32)))), (0, .ref b), (1, .ref (al (0))), (2, .ref (al (40)))] 3 dL_law_1313 rfl rfl (by decide) rfl ?_
                                              refine gx_goto X 18 dL_law_1316 (by decide) ?_
                                              exact gx_sub [1, 2, 3, 0] rfl (ih (x3 + (6 : Int32)) ga206 h)
                                            · replace h := (if_neg q208).symm.trans h
                                              refine gx_iconst X (v := (0 : Int32)) dL_law_719 (by decide) ?_
                                              exact absurd (ret_eq h).1 (by decide)
                                          · replace h := (if_neg q199).symm.trans h
                                            by_cases q209 : ((xs x3.toNatClampNeg) &&& (63 : Int32)) = (19 : Int32)
                                            · replace h := (if_pos q209).symm.trans h
                                              have eq209 : (((xs x3.toNatClampNeg) &&& (63 : Int32))).toInt = 19 := by rw [q209] <;> decide
                                              refine gx_tab 721 X dL_law_33 (by rw [eq209] <;> decide) (by rw [eq209] <;> decide) (by rw [eq209] <;> rfl) (by decide) ?_
                                              refine gx_aload_n X 1 rfl dL_law_721 ?_
                                              obtain ⟨ra210, ga211, ca212, h⟩ := bdd_eq h
                                              refine gx_callVi X (0) (c_X9_kept ca212) lc_X9_kept li_X9_kept lm_L_93 (by decide) (cl_0 _ _) rfl rfl rfl (Nat.le_trans (by decide) hd) rfl (Nat.le_of_ble_eq_true rfl) dL_law_722 ?_
                                              refine gx_aload_n X 2 rfl dL_law_725 ?_
                                              obtain ⟨ra213, ga214, ca215, h⟩ := bdd_eq h
                                              refine gx_callVi X (40) (c_X10_kept ca215) lc_X10_kept li_X10_kept lm_L_96 (by decide) (cl_40 _ _) rfl rfl rfl (Nat.le_trans (by decide) hd) rfl (Nat.le_of_ble_eq_true rfl) dL_law_726 ?_
                                              refine gx_icmp_eq X 1313 dL_law_729 (by decide) (fun q216 => ?_) (fun q216 => ?_)
                                              · replace h := (if_pos q216).symm.trans h
                                                refine gx_iinc X [(3, .int ((x3 + (6 : Int32)))), (0, .ref b), (1, .ref (al (0))), (2, .ref (al (40)))] 3 dL_law_1313 rfl rfl (by decide) rfl ?_
                                                refine gx_goto X 18 dL_law_1316 (by decide) ?_
                                                exact gx_sub [1, 2, 3, 0] rfl (ih (x3 + (6 : Int32)) ga214 h)
                                              · replace h := (if_neg q216).symm.trans h
                                                refine gx_iconst X (v := (0 : Int32)) dL_law_732 (by decide) ?_
                                                exact absurd (ret_eq h).1 (by decide)
                                            · replace h := (if_neg q209).symm.trans h
                                              by_cases q217 : ((xs x3.toNatClampNeg) &&& (63 : Int32)) = (20 : Int32)
                                              · replace h := (if_pos q217).symm.trans h
                                                have eq217 : (((xs x3.toNatClampNeg) &&& (63 : Int32))).toInt = 20 := by rw [q217] <;> decide
                                                refine gx_tab 734 X dL_law_33 (by rw [eq217] <;> decide) (by rw [eq217] <;> decide) (by rw [eq217] <;> rfl) (by decide) ?_
                                                refine gx_aload_n X 1 rfl dL_law_734 ?_
                                                refine gx_aload_n X 0 rfl dL_law_735 ?_
                                                refine gx_iload_n X 3 rfl dL_law_736 ?_
                                                refine gx_iconst X (v := (1 : Int32)) dL_law_737 (by decide) ?_
                                                refine gx_iadd X dL_law_738 ?_
                                                obtain ⟨q218, h⟩ := gdd_eq h
                                                refine gx_sld X hX hbl hbA q218 dL_law_739 ?_
                                                refine gx_aload_n X 0 rfl dL_law_740 ?_
                                                refine gx_iload_n X 3 rfl dL_law_741 ?_
                                                refine gx_iconst X (v := (2 : Int32)) dL_law_742 (by decide) ?_
                                                refine gx_iadd X dL_law_743 ?_
                                                obtain ⟨q219, h⟩ := gdd_eq h
                                                refine gx_sld X hX hbl hbA q219 dL_law_744 ?_
                                                obtain ⟨ra220, ga221, ca222, h⟩ := bdd_eq h
                                                refine gx_callVl X (0) (c_X9_odds ca222) lc_X9_odds li_X9_odds lm_L_97 (by decide) (cl_0 _ _) rfl rfl rfl (Nat.le_trans (by decide) hd) rfl (Nat.le_of_ble_eq_true rfl) dL_law_745 ?_
                                                refine gx_aload_n X 2 rfl dL_law_748 ?_
                                                refine gx_aload_n X 0 rfl dL_law_749 ?_
                                                refine gx_iload_n X 3 rfl dL_law_750 ?_
                                                refine gx_iconst X (v := (1 : Int32)) dL_law_751 (by decide) ?_
                                                refine gx_iadd X dL_law_752 ?_
                                                obtain ⟨q223, h⟩ := gdd_eq h
                                                refine gx_sld X hX hbl hbA q223 dL_law_753 ?_
                                                refine gx_aload_n X 0 rfl dL_law_754 ?_
                                                refine gx_iload_n X 3 rfl dL_law_755 ?_
                                                refine gx_iconst X (v := (2 : Int32)) dL_law_756 (by decide) ?_
                                                refine gx_iadd X dL_law_757 ?_
                                                obtain ⟨q224, h⟩ := gdd_eq h
                                                refine gx_sld X hX hbl hbA q224 dL_law_758 ?_
                                                obtain ⟨ra225, ga226, ca227, h⟩ := bdd_eq h
                                                refine gx_callVl X (40) (c_X10_odds ca227) lc_X10_odds li_X10_odds lm_L_101 (by decide) (cl_40 _ _) rfl rfl rfl (Nat.le_trans (by decide) hd) rfl (Nat.le_of_ble_eq_true rfl) dL_law_759 ?_
                                                refine gx_lcmp X dL_law_762 ?_
                                                refine gx_if_eq X 1313 dL_law_763 (by decide) (fun q228 => ?_) (fun q228 => ?_)
                                                · replace h := (if_pos q228).symm.trans h
                                                  refine gx_iinc X [(3, .int ((x3 + (6 : Int32)))), (0, .ref b), (1, .ref (al (0))), (2, .ref (al (40)))] 3 dL_law_1313 rfl rfl (by decide) rfl ?_
                                                  refine gx_goto X 18 dL_law_1316 (by decide) ?_
                                                  exact gx_sub [1, 2, 3, 0] rfl (ih (x3 + (6 : Int32)) ga226 h)
                                                · replace h := (if_neg q228).symm.trans h
                                                  refine gx_iconst X (v := (0 : Int32)) dL_law_766 (by decide) ?_
                                                  exact absurd (ret_eq h).1 (by decide)
                                              · replace h := (if_neg q217).symm.trans h
                                                by_cases q229 : ((xs x3.toNatClampNeg) &&& (63 : Int32)) = (21 : Int32)
                                                · replace h := (if_pos q229).symm.trans h
                                                  have eq229 : (((xs x3.toNatClampNeg) &&& (63 : Int32))).toInt = 21 := by rw [q229] <;> decide
                                                  refine gx_tab 768 X dL_law_33 (by rw [eq229] <;> decide) (by rw [eq229] <;> decide) (by rw [eq229] <;> rfl) (by decide) ?_
                                                  refine gx_aload_n X 1 rfl dL_law_768 ?_
                                                  refine gx_aload_n X 0 rfl dL_law_769 ?_
                                                  refine gx_iload_n X 3 rfl dL_law_770 ?_
                                                  refine gx_iconst X (v := (1 : Int32)) dL_law_771 (by decide) ?_
                                                  refine gx_iadd X dL_law_772 ?_
                                                  obtain ⟨q230, h⟩ := gdd_eq h
                                                  refine gx_sld X hX hbl hbA q230 dL_law_773 ?_
                                                  obtain ⟨ra231, ga232, ca233, h⟩ := bdd_eq h
                                                  refine gx_callVi X (0) (c_X9_least ca233) lc_X9_least li_X9_least lm_L_102 (by decide) (cl_0 _ _) rfl rfl rfl (Nat.le_trans (by decide) hd) rfl (Nat.le_of_ble_eq_true rfl) dL_law_774 ?_
                                                  refine gx_aload_n X 2 rfl dL_law_777 ?_
                                                  refine gx_aload_n X 0 rfl dL_law_778 ?_
                                                  refine gx_iload_n X 3 rfl dL_law_779 ?_
                                                  refine gx_iconst X (v := (1 : Int32)) dL_law_780 (by decide) ?_
                                                  refine gx_iadd X dL_law_781 ?_
                                                  obtain ⟨q234, h⟩ := gdd_eq h
                                                  refine gx_sld X hX hbl hbA q234 dL_law_782 ?_
                                                  obtain ⟨ra235, ga236, ca237, h⟩ := bdd_eq h
                                                  refine gx_callVi X (40) (c_X10_least ca237) lc_X10_least li_X10_least lm_L_105 (by decide) (cl_40 _ _) rfl rfl rfl (Nat.le_trans (by decide) hd) rfl (Nat.le_of_ble_eq_true rfl) dL_law_783 ?_
                                                  refine gx_icmp_eq X 1313 dL_law_786 (by decide) (fun q238 => ?_) (fun q238 => ?_)
                                                  · replace h := (if_pos q238).symm.trans h
                                                    refine gx_iinc X [(3, .int ((x3 + (6 : Int32)))), (0, .ref b), (1, .ref (al (0))), (2, .ref (al (40)))] 3 dL_law_1313 rfl rfl (by decide) rfl ?_
                                                    refine gx_goto X 18 dL_law_1316 (by decide) ?_
                                                    exact gx_sub [1, 2, 3, 0] rfl (ih (x3 + (6 : Int32)) ga236 h)
                                                  · replace h := (if_neg q238).symm.trans h
                                                    refine gx_iconst X (v := (0 : Int32)) dL_law_789 (by decide) ?_
                                                    exact absurd (ret_eq h).1 (by decide)
                                                · replace h := (if_neg q229).symm.trans h
                                                  by_cases q239 : ((xs x3.toNatClampNeg) &&& (63 : Int32)) = (22 : Int32)
                                                  · replace h := (if_pos q239).symm.trans h
                                                    have eq239 : (((xs x3.toNatClampNeg) &&& (63 : Int32))).toInt = 22 := by rw [q239] <;> decide
                                                    refine gx_tab 791 X dL_law_33 (by rw [eq239] <;> decide) (by rw [eq239] <;> decide) (by rw [eq239] <;> rfl) (by decide) ?_
                                                    refine gx_aload_n X 1 rfl dL_law_791 ?_
                                                    refine gx_aload_n X 0 rfl dL_law_792 ?_
                                                    refine gx_iload_n X 3 rfl dL_law_793 ?_
                                                    refine gx_iconst X (v := (1 : Int32)) dL_law_794 (by decide) ?_
                                                    refine gx_iadd X dL_law_795 ?_
                                                    obtain ⟨q240, h⟩ := gdd_eq h
                                                    refine gx_sld X hX hbl hbA q240 dL_law_796 ?_
                                                    obtain ⟨ra241, ga242, ca243, h⟩ := bdd_eq h
                                                    refine gx_callVi X (0) (c_X9_greedy ca243) lc_X9_greedy li_X9_greedy lm_L_106 (by decide) (cl_0 _ _) rfl rfl rfl (Nat.le_trans (by decide) hd) rfl (Nat.le_of_ble_eq_true rfl) dL_law_797 ?_
                                                    refine gx_aload_n X 2 rfl dL_law_800 ?_
                                                    refine gx_aload_n X 0 rfl dL_law_801 ?_
                                                    refine gx_iload_n X 3 rfl dL_law_802 ?_
                                                    refine gx_iconst X (v := (1 : Int32)) dL_law_803 (by decide) ?_
                                                    refine gx_iadd X dL_law_804 ?_
                                                    obtain ⟨q244, h⟩ := gdd_eq h
                                                    refine gx_sld X hX hbl hbA q244 dL_law_805 ?_
                                                    obtain ⟨ra245, ga246, ca247, h⟩ := bdd_eq h
                                                    refine gx_callVi X (40) (c_X10_greedy ca247) lc_X10_greedy li_X10_greedy lm_L_109 (by decide) (cl_40 _ _) rfl rfl rfl (Nat.le_trans (by decide) hd) rfl (Nat.le_of_ble_eq_true rfl) dL_law_806 ?_
                                                    refine gx_icmp_eq X 1313 dL_law_809 (by decide) (fun q248 => ?_) (fun q248 => ?_)
                                                    · replace h := (if_pos q248).symm.trans h
                                                      refine gx_iinc X [(3, .int ((x3 + (6 : Int32)))), (0, .ref b), (1, .ref (al (0))), (2, .ref (al (40)))] 3 dL_law_1313 rfl rfl (by decide) rfl ?_
                                                      refine gx_goto X 18 dL_law_1316 (by decide) ?_
                                                      exact gx_sub [1, 2, 3, 0] rfl (ih (x3 + (6 : Int32)) ga246 h)
                                                    · replace h := (if_neg q248).symm.trans h
                                                      refine gx_iconst X (v := (0 : Int32)) dL_law_812 (by decide) ?_
                                                      exact absurd (ret_eq h).1 (by decide)
                                                  · replace h := (if_neg q239).symm.trans h
                                                    by_cases q249 : ((xs x3.toNatClampNeg) &&& (63 : Int32)) = (23 : Int32)
                                                    · replace h := (if_pos q249).symm.trans h
                                                      have eq249 : (((xs x3.toNatClampNeg) &&& (63 : Int32))).toInt = 23 := by rw [q249] <;> decide
                                                      refine gx_tab 814 X dL_law_33 (by rw [eq249] <;> decide) (by rw [eq249] <;> decide) (by rw [eq249] <;> rfl) (by decide) ?_
                                                      refine gx_aload_n X 1 rfl dL_law_814 ?_
                                                      refine gx_aload_n X 0 rfl dL_law_815 ?_
                                                      refine gx_iload_n X 3 rfl dL_law_816 ?_
                                                      refine gx_iconst X (v := (1 : Int32)) dL_law_817 (by decide) ?_
                                                      refine gx_iadd X dL_law_818 ?_
                                                      obtain ⟨q250, h⟩ := gdd_eq h
                                                      refine gx_sld X hX hbl hbA q250 dL_law_819 ?_
                                                      obtain ⟨ra251, ga252, ca253, h⟩ := bdd_eq h
                                                      refine gx_callVi X (0) (c_X9_alarm ca253) lc_X9_alarm li_X9_alarm lm_L_110 (by decide) (cl_0 _ _) rfl rfl rfl (Nat.le_trans (by decide) hd) rfl (Nat.le_of_ble_eq_true rfl) dL_law_820 ?_
                                                      refine gx_aload_n X 2 rfl dL_law_823 ?_
                                                      refine gx_aload_n X 0 rfl dL_law_824 ?_
                                                      refine gx_iload_n X 3 rfl dL_law_825 ?_
                                                      refine gx_iconst X (v := (1 : Int32)) dL_law_826 (by decide) ?_
                                                      refine gx_iadd X dL_law_827 ?_
                                                      obtain ⟨q254, h⟩ := gdd_eq h
                                                      refine gx_sld X hX hbl hbA q254 dL_law_828 ?_
                                                      obtain ⟨ra255, ga256, ca257, h⟩ := bdd_eq h
                                                      refine gx_callVi X (40) (c_X10_alarm ca257) lc_X10_alarm li_X10_alarm lm_L_113 (by decide) (cl_40 _ _) rfl rfl rfl (Nat.le_trans (by decide) hd) rfl (Nat.le_of_ble_eq_true rfl) dL_law_829 ?_
                                                      refine gx_icmp_eq X 1313 dL_law_832 (by decide) (fun q258 => ?_) (fun q258 => ?_)
                                                      · replace h := (if_pos q258).symm.trans h
                                                        refine gx_iinc X [(3, .int ((x3 + (6 : Int32)))), (0, .ref b), (1, .ref (al (0))), (2, .ref (al (40)))] 3 dL_law_1313 rfl rfl (by decide) rfl ?_
                                                        refine gx_goto X 18 dL_law_1316 (by decide) ?_
                                                        exact gx_sub [1, 2, 3, 0] rfl (ih (x3 + (6 : Int32)) ga256 h)
                                                      · replace h := (if_neg q258).symm.trans h
                                                        refine gx_iconst X (v := (0 : Int32)) dL_law_835 (by decide) ?_
                                                        exact absurd (ret_eq h).1 (by decide)
                                                    · replace h := (if_neg q249).symm.trans h
                                                      by_cases q259 : ((xs x3.toNatClampNeg) &&& (63 : Int32)) = (24 : Int32)
                                                      · replace h := (if_pos q259).symm.trans h
                                                        have eq259 : (((xs x3.toNatClampNeg) &&& (63 : Int32))).toInt = 24 := by rw [q259] <;> decide
                                                        refine gx_tab 837 X dL_law_33 (by rw [eq259] <;> decide) (by rw [eq259] <;> decide) (by rw [eq259] <;> rfl) (by decide) ?_
                                                        refine gx_aload_n X 1 rfl dL_law_837 ?_
                                                        refine gx_aload_n X 0 rfl dL_law_838 ?_
                                                        refine gx_iload_n X 3 rfl dL_law_839 ?_
                                                        refine gx_iconst X (v := (1 : Int32)) dL_law_840 (by decide) ?_
                                                        refine gx_iadd X dL_law_841 ?_
                                                        obtain ⟨q260, h⟩ := gdd_eq h
                                                        refine gx_sld X hX hbl hbA q260 dL_law_842 ?_
                                                        obtain ⟨ra261, ga262, ca263, h⟩ := bdd_eq h
                                                        refine gx_callVi X (0) (c_X9_night ca263) lc_X9_night li_X9_night lm_L_114 (by decide) (cl_0 _ _) rfl rfl rfl (Nat.le_trans (by decide) hd) rfl (Nat.le_of_ble_eq_true rfl) dL_law_843 ?_
                                                        refine gx_aload_n X 2 rfl dL_law_846 ?_
                                                        refine gx_aload_n X 0 rfl dL_law_847 ?_
                                                        refine gx_iload_n X 3 rfl dL_law_848 ?_
                                                        refine gx_iconst X (v := (1 : Int32)) dL_law_849 (by decide) ?_
                                                        refine gx_iadd X dL_law_850 ?_
                                                        obtain ⟨q264, h⟩ := gdd_eq h
                                                        refine gx_sld X hX hbl hbA q264 dL_law_851 ?_
                                                        obtain ⟨ra265, ga266, ca267, h⟩ := bdd_eq h
                                                        refine gx_callVi X (40) (c_X10_night ca267) lc_X10_night li_X10_night lm_L_117 (by decide) (cl_40 _ _) rfl rfl rfl (Nat.le_trans (by decide) hd) rfl (Nat.le_of_ble_eq_true rfl) dL_law_852 ?_
                                                        refine gx_icmp_eq X 1313 dL_law_855 (by decide) (fun q268 => ?_) (fun q268 => ?_)
                                                        · replace h := (if_pos q268).symm.trans h
                                                          refine gx_iinc X [(3, .int ((x3 + (6 : Int32)))), (0, .ref b), (1, .ref (al (0))), (2, .ref (al (40)))] 3 dL_law_1313 rfl rfl (by decide) rfl ?_
                                                          refine gx_goto X 18 dL_law_1316 (by decide) ?_
                                                          exact gx_sub [1, 2, 3, 0] rfl (ih (x3 + (6 : Int32)) ga266 h)
                                                        · replace h := (if_neg q268).symm.trans h
                                                          refine gx_iconst X (v := (0 : Int32)) dL_law_858 (by decide) ?_
                                                          exact absurd (ret_eq h).1 (by decide)
                                                      · replace h := (if_neg q259).symm.trans h
                                                        by_cases q269 : ((xs x3.toNatClampNeg) &&& (63 : Int32)) = (25 : Int32)
                                                        · replace h := (if_pos q269).symm.trans h
                                                          have eq269 : (((xs x3.toNatClampNeg) &&& (63 : Int32))).toInt = 25 := by rw [q269] <;> decide
                                                          refine gx_tab 860 X dL_law_33 (by rw [eq269] <;> decide) (by rw [eq269] <;> decide) (by rw [eq269] <;> rfl) (by decide) ?_
                                                          refine gx_aload_n X 1 rfl dL_law_860 ?_
                                                          refine gx_aload_n X 0 rfl dL_law_861 ?_
                                                          refine gx_iload_n X 3 rfl dL_law_862 ?_
                                                          refine gx_iconst X (v := (1 : Int32)) dL_law_863 (by decide) ?_
                                                          refine gx_iadd X dL_law_864 ?_
                                                          obtain ⟨q270, h⟩ := gdd_eq h
                                                          refine gx_sld X hX hbl hbA q270 dL_law_865 ?_
                                                          obtain ⟨ra271, ga272, ca273, h⟩ := bdd_eq h
                                                          refine gx_callVi X (0) (c_X9_begins ca273) lc_X9_begins li_X9_begins lm_L_118 (by decide) (cl_0 _ _) rfl rfl rfl (Nat.le_trans (by decide) hd) rfl (Nat.le_of_ble_eq_true rfl) dL_law_866 ?_
                                                          refine gx_aload_n X 2 rfl dL_law_869 ?_
                                                          refine gx_aload_n X 0 rfl dL_law_870 ?_
                                                          refine gx_iload_n X 3 rfl dL_law_871 ?_
                                                          refine gx_iconst X (v := (1 : Int32)) dL_law_872 (by decide) ?_
                                                          refine gx_iadd X dL_law_873 ?_
                                                          obtain ⟨q274, h⟩ := gdd_eq h
                                                          refine gx_sld X hX hbl hbA q274 dL_law_874 ?_
                                                          obtain ⟨ra275, ga276, ca277, h⟩ := bdd_eq h
                                                          refine gx_callVi X (40) (c_X10_begins ca277) lc_X10_begins li_X10_begins lm_L_121 (by decide) (cl_40 _ _) rfl rfl rfl (Nat.le_trans (by decide) hd) rfl (Nat.le_of_ble_eq_true rfl) dL_law_875 ?_
                                                          refine gx_icmp_eq X 1313 dL_law_878 (by decide) (fun q278 => ?_) (fun q278 => ?_)
                                                          · replace h := (if_pos q278).symm.trans h
                                                            refine gx_iinc X [(3, .int ((x3 + (6 : Int32)))), (0, .ref b), (1, .ref (al (0))), (2, .ref (al (40)))] 3 dL_law_1313 rfl rfl (by decide) rfl ?_
                                                            refine gx_goto X 18 dL_law_1316 (by decide) ?_
                                                            exact gx_sub [1, 2, 3, 0] rfl (ih (x3 + (6 : Int32)) ga276 h)
                                                          · replace h := (if_neg q278).symm.trans h
                                                            refine gx_iconst X (v := (0 : Int32)) dL_law_881 (by decide) ?_
                                                            exact absurd (ret_eq h).1 (by decide)
                                                        · replace h := (if_neg q269).symm.trans h
                                                          by_cases q279 : ((xs x3.toNatClampNeg) &&& (63 : Int32)) = (26 : Int32)
                                                          · replace h := (if_pos q279).symm.trans h
                                                            have eq279 : (((xs x3.toNatClampNeg) &&& (63 : Int32))).toInt = 26 := by rw [q279] <;> decide
                                                            refine gx_tab 883 X dL_law_33 (by rw [eq279] <;> decide) (by rw [eq279] <;> decide) (by rw [eq279] <;> rfl) (by decide) ?_
                                                            refine gx_aload_n X 1 rfl dL_law_883 ?_
                                                            obtain ⟨ra280, ga281, ca282, h⟩ := bdd_eq h
                                                            refine gx_callVi X (0) (c_X9_rest ca282) lc_X9_rest li_X9_rest lm_L_122 (by decide) (cl_0 _ _) rfl rfl rfl (Nat.le_trans (by decide) hd) rfl (Nat.le_of_ble_eq_true rfl) dL_law_884 ?_
                                                            refine gx_aload_n X 2 rfl dL_law_887 ?_
                                                            obtain ⟨ra283, ga284, ca285, h⟩ := bdd_eq h
                                                            refine gx_callVi X (40) (c_X10_rest ca285) lc_X10_rest li_X10_rest lm_L_125 (by decide) (cl_40 _ _) rfl rfl rfl (Nat.le_trans (by decide) hd) rfl (Nat.le_of_ble_eq_true rfl) dL_law_888 ?_
                                                            refine gx_icmp_eq X 1313 dL_law_891 (by decide) (fun q286 => ?_) (fun q286 => ?_)
                                                            · replace h := (if_pos q286).symm.trans h
                                                              refine gx_iinc X [(3, .int ((x3 + (6 : Int32)))), (0, .ref b), (1, .ref (al (0))), (2, .ref (al (40)))] 3 dL_law_1313 rfl rfl (by decide) rfl ?_
                                                              refine gx_goto X 18 dL_law_1316 (by decide) ?_
                                                              exact gx_sub [1, 2, 3, 0] rfl (ih (x3 + (6 : Int32)) ga284 h)
                                                            · replace h := (if_neg q286).symm.trans h
                                                              refine gx_iconst X (v := (0 : Int32)) dL_law_894 (by decide) ?_
                                                              exact absurd (ret_eq h).1 (by decide)
                                                          · replace h := (if_neg q279).symm.trans h
                                                            by_cases q287 : ((xs x3.toNatClampNeg) &&& (63 : Int32)) = (27 : Int32)
                                                            · replace h := (if_pos q287).symm.trans h
                                                              have eq287 : (((xs x3.toNatClampNeg) &&& (63 : Int32))).toInt = 27 := by rw [q287] <;> decide
                                                              refine gx_tab 896 X dL_law_33 (by rw [eq287] <;> decide) (by rw [eq287] <;> decide) (by rw [eq287] <;> rfl) (by decide) ?_
                                                              refine gx_aload_n X 1 rfl dL_law_896 ?_
                                                              obtain ⟨ra288, ga289, ca290, h⟩ := bdd_eq h
                                                              refine gx_callVi X (0) (c_X9_undo ca290) lc_X9_undo li_X9_undo lm_L_126 (by decide) (cl_0 _ _) rfl rfl rfl (Nat.le_trans (by decide) hd) rfl (Nat.le_of_ble_eq_true rfl) dL_law_897 ?_
                                                              refine gx_aload_n X 2 rfl dL_law_900 ?_
                                                              obtain ⟨ra291, ga292, ca293, h⟩ := bdd_eq h
                                                              refine gx_callVi X (40) (c_X10_undo ca293) lc_X10_undo li_X10_undo lm_L_129 (by decide) (cl_40 _ _) rfl rfl rfl (Nat.le_trans (by decide) hd) rfl (Nat.le_of_ble_eq_true rfl) dL_law_901 ?_
                                                              refine gx_icmp_eq X 1313 dL_law_904 (by decide) (fun q294 => ?_) (fun q294 => ?_)
                                                              · replace h := (if_pos q294).symm.trans h
                                                                refine gx_iinc X [(3, .int ((x3 + (6 : Int32)))), (0, .ref b), (1, .ref (al (0))), (2, .ref (al (40)))] 3 dL_law_1313 rfl rfl (by decide) rfl ?_
                                                                refine gx_goto X 18 dL_law_1316 (by decide) ?_
                                                                exact gx_sub [1, 2, 3, 0] rfl (ih (x3 + (6 : Int32)) ga292 h)
                                                              · replace h := (if_neg q294).symm.trans h
                                                                refine gx_iconst X (v := (0 : Int32)) dL_law_907 (by decide) ?_
                                                                exact absurd (ret_eq h).1 (by decide)
                                                            · replace h := (if_neg q287).symm.trans h
                                                              by_cases q295 : ((xs x3.toNatClampNeg) &&& (63 : Int32)) = (28 : Int32)
                                                              · replace h := (if_pos q295).symm.trans h
                                                                have eq295 : (((xs x3.toNatClampNeg) &&& (63 : Int32))).toInt = 28 := by rw [q295] <;> decide
                                                                refine gx_tab 909 X dL_law_33 (by rw [eq295] <;> decide) (by rw [eq295] <;> decide) (by rw [eq295] <;> rfl) (by decide) ?_
                                                                refine gx_aload_n X 1 rfl dL_law_909 ?_
                                                                obtain ⟨ra296, ga297, ca298, h⟩ := bdd_eq h
                                                                refine gx_callVi X (0) (c_X9_redo ca298) lc_X9_redo li_X9_redo lm_L_130 (by decide) (cl_0 _ _) rfl rfl rfl (Nat.le_trans (by decide) hd) rfl (Nat.le_of_ble_eq_true rfl) dL_law_910 ?_
                                                                refine gx_aload_n X 2 rfl dL_law_913 ?_
                                                                obtain ⟨ra299, ga300, ca301, h⟩ := bdd_eq h
                                                                refine gx_callVi X (40) (c_X10_redo ca301) lc_X10_redo li_X10_redo lm_L_133 (by decide) (cl_40 _ _) rfl rfl rfl (Nat.le_trans (by decide) hd) rfl (Nat.le_of_ble_eq_true rfl) dL_law_914 ?_
                                                                refine gx_icmp_eq X 1313 dL_law_917 (by decide) (fun q302 => ?_) (fun q302 => ?_)
                                                                · replace h := (if_pos q302).symm.trans h
                                                                  refine gx_iinc X [(3, .int ((x3 + (6 : Int32)))), (0, .ref b), (1, .ref (al (0))), (2, .ref (al (40)))] 3 dL_law_1313 rfl rfl (by decide) rfl ?_
                                                                  refine gx_goto X 18 dL_law_1316 (by decide) ?_
                                                                  exact gx_sub [1, 2, 3, 0] rfl (ih (x3 + (6 : Int32)) ga300 h)
                                                                · replace h := (if_neg q302).symm.trans h
                                                                  refine gx_iconst X (v := (0 : Int32)) dL_law_920 (by decide) ?_
                                                                  exact absurd (ret_eq h).1 (by decide)
                                                              · replace h := (if_neg q295).symm.trans h
                                                                by_cases q303 : ((xs x3.toNatClampNeg) &&& (63 : Int32)) = (29 : Int32)
                                                                · replace h := (if_pos q303).symm.trans h
                                                                  have eq303 : (((xs x3.toNatClampNeg) &&& (63 : Int32))).toInt = 29 := by rw [q303] <;> decide
                                                                  refine gx_tab 922 X dL_law_33 (by rw [eq303] <;> decide) (by rw [eq303] <;> decide) (by rw [eq303] <;> rfl) (by decide) ?_
                                                                  refine gx_aload_n X 1 rfl dL_law_922 ?_
                                                                  refine gx_aload_n X 0 rfl dL_law_923 ?_
                                                                  refine gx_iload_n X 3 rfl dL_law_924 ?_
                                                                  refine gx_iconst X (v := (1 : Int32)) dL_law_925 (by decide) ?_
                                                                  refine gx_iadd X dL_law_926 ?_
                                                                  obtain ⟨q304, h⟩ := gdd_eq h
                                                                  refine gx_sld X hX hbl hbA q304 dL_law_927 ?_
                                                                  obtain ⟨ra305, ga306, ca307, h⟩ := bdd_eq h
                                                                  refine gx_callVi X (0) (c_X9_body ca307) lc_X9_body li_X9_body lm_L_134 (by decide) (cl_0 _ _) rfl rfl rfl (Nat.le_trans (by decide) hd) rfl (Nat.le_of_ble_eq_true rfl) dL_law_928 ?_
                                                                  refine gx_aload_n X 2 rfl dL_law_931 ?_
                                                                  refine gx_aload_n X 0 rfl dL_law_932 ?_
                                                                  refine gx_iload_n X 3 rfl dL_law_933 ?_
                                                                  refine gx_iconst X (v := (1 : Int32)) dL_law_934 (by decide) ?_
                                                                  refine gx_iadd X dL_law_935 ?_
                                                                  obtain ⟨q308, h⟩ := gdd_eq h
                                                                  refine gx_sld X hX hbl hbA q308 dL_law_936 ?_
                                                                  obtain ⟨ra309, ga310, ca311, h⟩ := bdd_eq h
                                                                  refine gx_callVi X (40) (c_X10_body ca311) lc_X10_body li_X10_body lm_L_137 (by decide) (cl_40 _ _) rfl rfl rfl (Nat.le_trans (by decide) hd) rfl (Nat.le_of_ble_eq_true rfl) dL_law_937 ?_
                                                                  refine gx_icmp_eq X 1313 dL_law_940 (by decide) (fun q312 => ?_) (fun q312 => ?_)
                                                                  · replace h := (if_pos q312).symm.trans h
                                                                    refine gx_iinc X [(3, .int ((x3 + (6 : Int32)))), (0, .ref b), (1, .ref (al (0))), (2, .ref (al (40)))] 3 dL_law_1313 rfl rfl (by decide) rfl ?_
                                                                    refine gx_goto X 18 dL_law_1316 (by decide) ?_
                                                                    exact gx_sub [1, 2, 3, 0] rfl (ih (x3 + (6 : Int32)) ga310 h)
                                                                  · replace h := (if_neg q312).symm.trans h
                                                                    refine gx_iconst X (v := (0 : Int32)) dL_law_943 (by decide) ?_
                                                                    exact absurd (ret_eq h).1 (by decide)
                                                                · replace h := (if_neg q303).symm.trans h
                                                                  by_cases q313 : ((xs x3.toNatClampNeg) &&& (63 : Int32)) = (30 : Int32)
                                                                  · replace h := (if_pos q313).symm.trans h
                                                                    have eq313 : (((xs x3.toNatClampNeg) &&& (63 : Int32))).toInt = 30 := by rw [q313] <;> decide
                                                                    refine gx_tab 945 X dL_law_33 (by rw [eq313] <;> decide) (by rw [eq313] <;> decide) (by rw [eq313] <;> rfl) (by decide) ?_
                                                                    refine gx_aload_n X 1 rfl dL_law_945 ?_
                                                                    refine gx_aload_n X 0 rfl dL_law_946 ?_
                                                                    refine gx_iload_n X 3 rfl dL_law_947 ?_
                                                                    refine gx_iconst X (v := (1 : Int32)) dL_law_948 (by decide) ?_
                                                                    refine gx_iadd X dL_law_949 ?_
                                                                    obtain ⟨q314, h⟩ := gdd_eq h
                                                                    refine gx_sld X hX hbl hbA q314 dL_law_950 ?_
                                                                    refine gx_aload_n X 0 rfl dL_law_951 ?_
                                                                    refine gx_iload_n X 3 rfl dL_law_952 ?_
                                                                    refine gx_iconst X (v := (2 : Int32)) dL_law_953 (by decide) ?_
                                                                    refine gx_iadd X dL_law_954 ?_
                                                                    obtain ⟨q315, h⟩ := gdd_eq h
                                                                    refine gx_sld X hX hbl hbA q315 dL_law_955 ?_
                                                                    refine gx_aload_n X 0 rfl dL_law_956 ?_
                                                                    refine gx_iload_n X 3 rfl dL_law_957 ?_
                                                                    refine gx_iconst X (v := (3 : Int32)) dL_law_958 (by decide) ?_
                                                                    refine gx_iadd X dL_law_959 ?_
                                                                    obtain ⟨q316, h⟩ := gdd_eq h
                                                                    refine gx_sld X hX hbl hbA q316 dL_law_960 ?_
                                                                    obtain ⟨ra317, ga318, ca319, h⟩ := bdd_eq h
                                                                    refine gx_callVi X (0) (c_X9_act ca319) lc_X9_act li_X9_act lm_L_138 (by decide) (cl_0 _ _) rfl rfl rfl (Nat.le_trans (by decide) hd) rfl (Nat.le_of_ble_eq_true rfl) dL_law_961 ?_
                                                                    refine gx_aload_n X 2 rfl dL_law_964 ?_
                                                                    refine gx_aload_n X 0 rfl dL_law_965 ?_
                                                                    refine gx_iload_n X 3 rfl dL_law_966 ?_
                                                                    refine gx_iconst X (v := (1 : Int32)) dL_law_967 (by decide) ?_
                                                                    refine gx_iadd X dL_law_968 ?_
                                                                    obtain ⟨q320, h⟩ := gdd_eq h
                                                                    refine gx_sld X hX hbl hbA q320 dL_law_969 ?_
                                                                    refine gx_aload_n X 0 rfl dL_law_970 ?_
                                                                    refine gx_iload_n X 3 rfl dL_law_971 ?_
                                                                    refine gx_iconst X (v := (2 : Int32)) dL_law_972 (by decide) ?_
                                                                    refine gx_iadd X dL_law_973 ?_
                                                                    obtain ⟨q321, h⟩ := gdd_eq h
                                                                    refine gx_sld X hX hbl hbA q321 dL_law_974 ?_
                                                                    refine gx_aload_n X 0 rfl dL_law_975 ?_
                                                                    refine gx_iload_n X 3 rfl dL_law_976 ?_
                                                                    refine gx_iconst X (v := (3 : Int32)) dL_law_977 (by decide) ?_
                                                                    refine gx_iadd X dL_law_978 ?_
                                                                    obtain ⟨q322, h⟩ := gdd_eq h
                                                                    refine gx_sld X hX hbl hbA q322 dL_law_979 ?_
                                                                    obtain ⟨ra323, ga324, ca325, h⟩ := bdd_eq h
                                                                    refine gx_callVi X (40) (c_X10_act ca325) lc_X10_act li_X10_act lm_L_142 (by decide) (cl_40 _ _) rfl rfl rfl (Nat.le_trans (by decide) hd) rfl (Nat.le_of_ble_eq_true rfl) dL_law_980 ?_
                                                                    refine gx_icmp_eq X 1313 dL_law_983 (by decide) (fun q326 => ?_) (fun q326 => ?_)
                                                                    · replace h := (if_pos q326).symm.trans h
                                                                      refine gx_iinc X [(3, .int ((x3 + (6 : Int32)))), (0, .ref b), (1, .ref (al (0))), (2, .ref (al (40)))] 3 dL_law_1313 rfl rfl (by decide) rfl ?_
                                                                      refine gx_goto X 18 dL_law_1316 (by decide) ?_
                                                                      exact gx_sub [1, 2, 3, 0] rfl (ih (x3 + (6 : Int32)) ga324 h)
                                                                    · replace h := (if_neg q326).symm.trans h
                                                                      refine gx_iconst X (v := (0 : Int32)) dL_law_986 (by decide) ?_
                                                                      exact absurd (ret_eq h).1 (by decide)
                                                                  · replace h := (if_neg q313).symm.trans h
                                                                    by_cases q327 : ((xs x3.toNatClampNeg) &&& (63 : Int32)) = (31 : Int32)
                                                                    · replace h := (if_pos q327).symm.trans h
                                                                      have eq327 : (((xs x3.toNatClampNeg) &&& (63 : Int32))).toInt = 31 := by rw [q327] <;> decide
                                                                      refine gx_tab 988 X dL_law_33 (by rw [eq327] <;> decide) (by rw [eq327] <;> decide) (by rw [eq327] <;> rfl) (by decide) ?_
                                                                      refine gx_aload_n X 1 rfl dL_law_988 ?_
                                                                      refine gx_aload_n X 0 rfl dL_law_989 ?_
                                                                      refine gx_iload_n X 3 rfl dL_law_990 ?_
                                                                      refine gx_iconst X (v := (1 : Int32)) dL_law_991 (by decide) ?_
                                                                      refine gx_iadd X dL_law_992 ?_
                                                                      obtain ⟨q328, h⟩ := gdd_eq h
                                                                      refine gx_sld X hX hbl hbA q328 dL_law_993 ?_
                                                                      obtain ⟨ra329, ga330, ca331, h⟩ := bdd_eq h
                                                                      refine gx_callVi X (0) (c_X9_trace ca331) lc_X9_trace li_X9_trace lm_L_143 (by decide) (cl_0 _ _) rfl rfl rfl (Nat.le_trans (by decide) hd) rfl (Nat.le_of_ble_eq_true rfl) dL_law_994 ?_
                                                                      refine gx_aload_n X 2 rfl dL_law_997 ?_
                                                                      refine gx_aload_n X 0 rfl dL_law_998 ?_
                                                                      refine gx_iload_n X 3 rfl dL_law_999 ?_
                                                                      refine gx_iconst X (v := (1 : Int32)) dL_law_1000 (by decide) ?_
                                                                      refine gx_iadd X dL_law_1001 ?_
                                                                      obtain ⟨q332, h⟩ := gdd_eq h
                                                                      refine gx_sld X hX hbl hbA q332 dL_law_1002 ?_
                                                                      obtain ⟨ra333, ga334, ca335, h⟩ := bdd_eq h
                                                                      refine gx_callVi X (40) (c_X10_trace ca335) lc_X10_trace li_X10_trace lm_L_146 (by decide) (cl_40 _ _) rfl rfl rfl (Nat.le_trans (by decide) hd) rfl (Nat.le_of_ble_eq_true rfl) dL_law_1003 ?_
                                                                      refine gx_icmp_eq X 1313 dL_law_1006 (by decide) (fun q336 => ?_) (fun q336 => ?_)
                                                                      · replace h := (if_pos q336).symm.trans h
                                                                        refine gx_iinc X [(3, .int ((x3 + (6 : Int32)))), (0, .ref b), (1, .ref (al (0))), (2, .ref (al (40)))] 3 dL_law_1313 rfl rfl (by decide) rfl ?_
                                                                        refine gx_goto X 18 dL_law_1316 (by decide) ?_
                                                                        exact gx_sub [1, 2, 3, 0] rfl (ih (x3 + (6 : Int32)) ga334 h)
                                                                      · replace h := (if_neg q336).symm.trans h
                                                                        refine gx_iconst X (v := (0 : Int32)) dL_law_1009 (by decide) ?_
                                                                        exact absurd (ret_eq h).1 (by decide)
                                                                    · replace h := (if_neg q327).symm.trans h
                                                                      by_cases q337 : ((xs x3.toNatClampNeg) &&& (63 : Int32)) = (32 : Int32)
                                                                      · replace h := (if_pos q337).symm.trans h
                                                                        have eq337 : (((xs x3.toNatClampNeg) &&& (63 : Int32))).toInt = 32 := by rw [q337] <;> decide
                                                                        refine gx_tab 1011 X dL_law_33 (by rw [eq337] <;> decide) (by rw [eq337] <;> decide) (by rw [eq337] <;> rfl) (by decide) ?_
                                                                        refine gx_aload_n X 1 rfl dL_law_1011 ?_
                                                                        refine gx_aload_n X 0 rfl dL_law_1012 ?_
                                                                        refine gx_iload_n X 3 rfl dL_law_1013 ?_
                                                                        refine gx_iconst X (v := (1 : Int32)) dL_law_1014 (by decide) ?_
                                                                        refine gx_iadd X dL_law_1015 ?_
                                                                        obtain ⟨q338, h⟩ := gdd_eq h
                                                                        refine gx_sld X hX hbl hbA q338 dL_law_1016 ?_
                                                                        refine gx_aload_n X 0 rfl dL_law_1017 ?_
                                                                        refine gx_iload_n X 3 rfl dL_law_1018 ?_
                                                                        refine gx_iconst X (v := (2 : Int32)) dL_law_1019 (by decide) ?_
                                                                        refine gx_iadd X dL_law_1020 ?_
                                                                        obtain ⟨q339, h⟩ := gdd_eq h
                                                                        refine gx_sld X hX hbl hbA q339 dL_law_1021 ?_
                                                                        obtain ⟨ra340, ga341, ca342, h⟩ := bdd_eq h
                                                                        refine gx_callVi X (0) (c_X9_keep ca342) lc_X9_keep li_X9_keep lm_L_147 (by decide) (cl_0 _ _) rfl rfl rfl (Nat.le_trans (by decide) hd) rfl (Nat.le_of_ble_eq_true rfl) dL_law_1022 ?_
                                                                        refine gx_aload_n X 2 rfl dL_law_1025 ?_
                                                                        refine gx_aload_n X 0 rfl dL_law_1026 ?_
                                                                        refine gx_iload_n X 3 rfl dL_law_1027 ?_
                                                                        refine gx_iconst X (v := (1 : Int32)) dL_law_1028 (by decide) ?_
                                                                        refine gx_iadd X dL_law_1029 ?_
                                                                        obtain ⟨q343, h⟩ := gdd_eq h
                                                                        refine gx_sld X hX hbl hbA q343 dL_law_1030 ?_
                                                                        refine gx_aload_n X 0 rfl dL_law_1031 ?_
                                                                        refine gx_iload_n X 3 rfl dL_law_1032 ?_
                                                                        refine gx_iconst X (v := (2 : Int32)) dL_law_1033 (by decide) ?_
                                                                        refine gx_iadd X dL_law_1034 ?_
                                                                        obtain ⟨q344, h⟩ := gdd_eq h
                                                                        refine gx_sld X hX hbl hbA q344 dL_law_1035 ?_
                                                                        obtain ⟨ra345, ga346, ca347, h⟩ := bdd_eq h
                                                                        refine gx_callVi X (40) (c_X10_keep ca347) lc_X10_keep li_X10_keep lm_L_150 (by decide) (cl_40 _ _) rfl rfl rfl (Nat.le_trans (by decide) hd) rfl (Nat.le_of_ble_eq_true rfl) dL_law_1036 ?_
                                                                        refine gx_icmp_eq X 1313 dL_law_1039 (by decide) (fun q348 => ?_) (fun q348 => ?_)
                                                                        · replace h := (if_pos q348).symm.trans h
                                                                          refine gx_iinc X [(3, .int ((x3 + (6 : Int32)))), (0, .ref b), (1, .ref (al (0))), (2, .ref (al (40)))] 3 dL_law_1313 rfl rfl (by decide) rfl ?_
                                                                          refine gx_goto X 18 dL_law_1316 (by decide) ?_
                                                                          exact gx_sub [1, 2, 3, 0] rfl (ih (x3 + (6 : Int32)) ga346 h)
                                                                        · replace h := (if_neg q348).symm.trans h
                                                                          refine gx_iconst X (v := (0 : Int32)) dL_law_1042 (by decide) ?_
                                                                          exact absurd (ret_eq h).1 (by decide)
                                                                      · replace h := (if_neg q337).symm.trans h
                                                                        by_cases q349 : ((xs x3.toNatClampNeg) &&& (63 : Int32)) = (33 : Int32)
                                                                        · replace h := (if_pos q349).symm.trans h
                                                                          have eq349 : (((xs x3.toNatClampNeg) &&& (63 : Int32))).toInt = 33 := by rw [q349] <;> decide
                                                                          refine gx_tab 1044 X dL_law_33 (by rw [eq349] <;> decide) (by rw [eq349] <;> decide) (by rw [eq349] <;> rfl) (by decide) ?_
                                                                          refine gx_aload_n X 1 rfl dL_law_1044 ?_
                                                                          refine gx_aload_n X 0 rfl dL_law_1045 ?_
                                                                          refine gx_iload_n X 3 rfl dL_law_1046 ?_
                                                                          refine gx_iconst X (v := (1 : Int32)) dL_law_1047 (by decide) ?_
                                                                          refine gx_iadd X dL_law_1048 ?_
                                                                          obtain ⟨q350, h⟩ := gdd_eq h
                                                                          refine gx_sld X hX hbl hbA q350 dL_law_1049 ?_
                                                                          refine gx_aload_n X 0 rfl dL_law_1050 ?_
                                                                          refine gx_iload_n X 3 rfl dL_law_1051 ?_
                                                                          refine gx_iconst X (v := (2 : Int32)) dL_law_1052 (by decide) ?_
                                                                          refine gx_iadd X dL_law_1053 ?_
                                                                          obtain ⟨q351, h⟩ := gdd_eq h
                                                                          refine gx_sld X hX hbl hbA q351 dL_law_1054 ?_
                                                                          refine gx_aload_n X 0 rfl dL_law_1055 ?_
                                                                          refine gx_iload_n X 3 rfl dL_law_1056 ?_
                                                                          refine gx_iconst X (v := (3 : Int32)) dL_law_1057 (by decide) ?_
                                                                          refine gx_iadd X dL_law_1058 ?_
                                                                          obtain ⟨q352, h⟩ := gdd_eq h
                                                                          refine gx_sld X hX hbl hbA q352 dL_law_1059 ?_
                                                                          obtain ⟨ra353, ga354, ca355, h⟩ := bdd_eq h
                                                                          refine gx_callVi X (0) (c_X9_row ca355) lc_X9_row li_X9_row lm_L_151 (by decide) (cl_0 _ _) rfl rfl rfl (Nat.le_trans (by decide) hd) rfl (Nat.le_of_ble_eq_true rfl) dL_law_1060 ?_
                                                                          refine gx_aload_n X 2 rfl dL_law_1063 ?_
                                                                          refine gx_aload_n X 0 rfl dL_law_1064 ?_
                                                                          refine gx_iload_n X 3 rfl dL_law_1065 ?_
                                                                          refine gx_iconst X (v := (1 : Int32)) dL_law_1066 (by decide) ?_
                                                                          refine gx_iadd X dL_law_1067 ?_
                                                                          obtain ⟨q356, h⟩ := gdd_eq h
                                                                          refine gx_sld X hX hbl hbA q356 dL_law_1068 ?_
                                                                          refine gx_aload_n X 0 rfl dL_law_1069 ?_
                                                                          refine gx_iload_n X 3 rfl dL_law_1070 ?_
                                                                          refine gx_iconst X (v := (2 : Int32)) dL_law_1071 (by decide) ?_
                                                                          refine gx_iadd X dL_law_1072 ?_
                                                                          obtain ⟨q357, h⟩ := gdd_eq h
                                                                          refine gx_sld X hX hbl hbA q357 dL_law_1073 ?_
                                                                          refine gx_aload_n X 0 rfl dL_law_1074 ?_
                                                                          refine gx_iload_n X 3 rfl dL_law_1075 ?_
                                                                          refine gx_iconst X (v := (3 : Int32)) dL_law_1076 (by decide) ?_
                                                                          refine gx_iadd X dL_law_1077 ?_
                                                                          obtain ⟨q358, h⟩ := gdd_eq h
                                                                          refine gx_sld X hX hbl hbA q358 dL_law_1078 ?_
                                                                          obtain ⟨ra359, ga360, ca361, h⟩ := bdd_eq h
                                                                          refine gx_callVi X (40) (c_X10_row ca361) lc_X10_row li_X10_row lm_L_154 (by decide) (cl_40 _ _) rfl rfl rfl (Nat.le_trans (by decide) hd) rfl (Nat.le_of_ble_eq_true rfl) dL_law_1079 ?_
                                                                          refine gx_icmp_eq X 1313 dL_law_1082 (by decide) (fun q362 => ?_) (fun q362 => ?_)
                                                                          · replace h := (if_pos q362).symm.trans h
                                                                            refine gx_iinc X [(3, .int ((x3 + (6 : Int32)))), (0, .ref b), (1, .ref (al (0))), (2, .ref (al (40)))] 3 dL_law_1313 rfl rfl (by decide) rfl ?_
                                                                            refine gx_goto X 18 dL_law_1316 (by decide) ?_
                                                                            exact gx_sub [1, 2, 3, 0] rfl (ih (x3 + (6 : Int32)) ga360 h)
                                                                          · replace h := (if_neg q362).symm.trans h
                                                                            refine gx_iconst X (v := (0 : Int32)) dL_law_1085 (by decide) ?_
                                                                            exact absurd (ret_eq h).1 (by decide)
                                                                        · replace h := (if_neg q349).symm.trans h
                                                                          by_cases q363 : ((xs x3.toNatClampNeg) &&& (63 : Int32)) = (34 : Int32)
                                                                          · replace h := (if_pos q363).symm.trans h
                                                                            have eq363 : (((xs x3.toNatClampNeg) &&& (63 : Int32))).toInt = 34 := by rw [q363] <;> decide
                                                                            refine gx_tab 1087 X dL_law_33 (by rw [eq363] <;> decide) (by rw [eq363] <;> decide) (by rw [eq363] <;> rfl) (by decide) ?_
                                                                            refine gx_aload_n X 1 rfl dL_law_1087 ?_
                                                                            refine gx_aload_n X 0 rfl dL_law_1088 ?_
                                                                            refine gx_iload_n X 3 rfl dL_law_1089 ?_
                                                                            refine gx_iconst X (v := (1 : Int32)) dL_law_1090 (by decide) ?_
                                                                            refine gx_iadd X dL_law_1091 ?_
                                                                            obtain ⟨q364, h⟩ := gdd_eq h
                                                                            refine gx_sld X hX hbl hbA q364 dL_law_1092 ?_
                                                                            refine gx_aload_n X 0 rfl dL_law_1093 ?_
                                                                            refine gx_iload_n X 3 rfl dL_law_1094 ?_
                                                                            refine gx_iconst X (v := (2 : Int32)) dL_law_1095 (by decide) ?_
                                                                            refine gx_iadd X dL_law_1096 ?_
                                                                            obtain ⟨q365, h⟩ := gdd_eq h
                                                                            refine gx_sld X hX hbl hbA q365 dL_law_1097 ?_
                                                                            refine gx_aload_n X 0 rfl dL_law_1098 ?_
                                                                            refine gx_iload_n X 3 rfl dL_law_1099 ?_
                                                                            refine gx_iconst X (v := (3 : Int32)) dL_law_1100 (by decide) ?_
                                                                            refine gx_iadd X dL_law_1101 ?_
                                                                            obtain ⟨q366, h⟩ := gdd_eq h
                                                                            refine gx_sld X hX hbl hbA q366 dL_law_1102 ?_
                                                                            refine gx_i2l X dL_law_1103 ?_
                                                                            refine gx_bipush X (v := (32 : Int32)) dL_law_1104 (by decide) ?_
                                                                            refine gx_lshl X dL_law_1106 ?_
                                                                            refine gx_aload_n X 0 rfl dL_law_1107 ?_
                                                                            refine gx_iload_n X 3 rfl dL_law_1108 ?_
                                                                            refine gx_iconst X (v := (4 : Int32)) dL_law_1109 (by decide) ?_
                                                                            refine gx_iadd X dL_law_1110 ?_
                                                                            obtain ⟨q367, h⟩ := gdd_eq h
                                                                            refine gx_sld X hX hbl hbA q367 dL_law_1111 ?_
                                                                            refine gx_i2l X dL_law_1112 ?_
                                                                            refine gx_ldc2 X (v := (4294967295 : Int64)) lk_L_155 dL_law_1113 ?_
                                                                            refine gx_land X dL_law_1116 ?_
                                                                            refine gx_lor X dL_law_1117 ?_
                                                                            obtain ⟨ra368, ga369, ca370, h⟩ := bdd_eq h
                                                                            refine gx_callVi X (0) (c_X9_put ca370) lc_X9_put li_X9_put lm_L_157 (by decide) (cl_0 _ _) rfl rfl rfl (Nat.le_trans (by decide) hd) rfl (Nat.le_of_ble_eq_true rfl) dL_law_1118 ?_
                                                                            refine gx_aload_n X 2 rfl dL_law_1121 ?_
                                                                            refine gx_aload_n X 0 rfl dL_law_1122 ?_
                                                                            refine gx_iload_n X 3 rfl dL_law_1123 ?_
                                                                            refine gx_iconst X (v := (1 : Int32)) dL_law_1124 (by decide) ?_
                                                                            refine gx_iadd X dL_law_1125 ?_
                                                                            obtain ⟨q371, h⟩ := gdd_eq h
                                                                            refine gx_sld X hX hbl hbA q371 dL_law_1126 ?_
                                                                            refine gx_aload_n X 0 rfl dL_law_1127 ?_
                                                                            refine gx_iload_n X 3 rfl dL_law_1128 ?_
                                                                            refine gx_iconst X (v := (2 : Int32)) dL_law_1129 (by decide) ?_
                                                                            refine gx_iadd X dL_law_1130 ?_
                                                                            obtain ⟨q372, h⟩ := gdd_eq h
                                                                            refine gx_sld X hX hbl hbA q372 dL_law_1131 ?_
                                                                            refine gx_aload_n X 0 rfl dL_law_1132 ?_
                                                                            refine gx_iload_n X 3 rfl dL_law_1133 ?_
                                                                            refine gx_iconst X (v := (3 : Int32)) dL_law_1134 (by decide) ?_
                                                                            refine gx_iadd X dL_law_1135 ?_
                                                                            obtain ⟨q373, h⟩ := gdd_eq h
                                                                            refine gx_sld X hX hbl hbA q373 dL_law_1136 ?_
                                                                            refine gx_i2l X dL_law_1137 ?_
                                                                            refine gx_bipush X (v := (32 : Int32)) dL_law_1138 (by decide) ?_
                                                                            refine gx_lshl X dL_law_1140 ?_
                                                                            refine gx_aload_n X 0 rfl dL_law_1141 ?_
                                                                            refine gx_iload_n X 3 rfl dL_law_1142 ?_
                                                                            refine gx_iconst X (v := (4 : Int32)) dL_law_1143 (by decide) ?_
                                                                            refine gx_iadd X dL_law_1144 ?_
                                                                            obtain ⟨q374, h⟩ := gdd_eq h
                                                                            refine gx_sld X hX hbl hbA q374 dL_law_1145 ?_
                                                                            refine gx_i2l X dL_law_1146 ?_
                                                                            refine gx_ldc2 X (v := (4294967295 : Int64)) lk_L_155 dL_law_1147 ?_
                                                                            refine gx_land X dL_law_1150 ?_
                                                                            refine gx_lor X dL_law_1151 ?_
                                                                            obtain ⟨ra375, ga376, ca377, h⟩ := bdd_eq h
                                                                            refine gx_callVi X (40) (c_X10_put ca377) lc_X10_put li_X10_put lm_L_161 (by decide) (cl_40 _ _) rfl rfl rfl (Nat.le_trans (by decide) hd) rfl (Nat.le_of_ble_eq_true rfl) dL_law_1152 ?_
                                                                            refine gx_icmp_eq X 1313 dL_law_1155 (by decide) (fun q378 => ?_) (fun q378 => ?_)
                                                                            · replace h := (if_pos q378).symm.trans h
                                                                              refine gx_iinc X [(3, .int ((x3 + (6 : Int32)))), (0, .ref b), (1, .ref (al (0))), (2, .ref (al (40)))] 3 dL_law_1313 rfl rfl (by decide) rfl ?_
                                                                              refine gx_goto X 18 dL_law_1316 (by decide) ?_
                                                                              exact gx_sub [1, 2, 3, 0] rfl (ih (x3 + (6 : Int32)) ga376 h)
                                                                            · replace h := (if_neg q378).symm.trans h
                                                                              refine gx_iconst X (v := (0 : Int32)) dL_law_1158 (by decide) ?_
                                                                              exact absurd (ret_eq h).1 (by decide)
                                                                          · replace h := (if_neg q363).symm.trans h
                                                                            by_cases q379 : ((xs x3.toNatClampNeg) &&& (63 : Int32)) = (35 : Int32)
                                                                            · replace h := (if_pos q379).symm.trans h
                                                                              have eq379 : (((xs x3.toNatClampNeg) &&& (63 : Int32))).toInt = 35 := by rw [q379] <;> decide
                                                                              refine gx_tab 1160 X dL_law_33 (by rw [eq379] <;> decide) (by rw [eq379] <;> decide) (by rw [eq379] <;> rfl) (by decide) ?_
                                                                              refine gx_aload_n X 1 rfl dL_law_1160 ?_
                                                                              refine gx_aload_n X 0 rfl dL_law_1161 ?_
                                                                              refine gx_iload_n X 3 rfl dL_law_1162 ?_
                                                                              refine gx_iconst X (v := (1 : Int32)) dL_law_1163 (by decide) ?_
                                                                              refine gx_iadd X dL_law_1164 ?_
                                                                              obtain ⟨q380, h⟩ := gdd_eq h
                                                                              refine gx_sld X hX hbl hbA q380 dL_law_1165 ?_
                                                                              refine gx_aload_n X 0 rfl dL_law_1166 ?_
                                                                              refine gx_iload_n X 3 rfl dL_law_1167 ?_
                                                                              refine gx_iconst X (v := (2 : Int32)) dL_law_1168 (by decide) ?_
                                                                              refine gx_iadd X dL_law_1169 ?_
                                                                              obtain ⟨q381, h⟩ := gdd_eq h
                                                                              refine gx_sld X hX hbl hbA q381 dL_law_1170 ?_
                                                                              obtain ⟨ra382, ga383, ca384, h⟩ := bdd_eq h
                                                                              refine gx_callVl X (0) (c_X9_element ca384) lc_X9_element li_X9_element lm_L_162 (by decide) (cl_0 _ _) rfl rfl rfl (Nat.le_trans (by decide) hd) rfl (Nat.le_of_ble_eq_true rfl) dL_law_1171 ?_
                                                                              refine gx_aload_n X 2 rfl dL_law_1174 ?_
                                                                              refine gx_aload_n X 0 rfl dL_law_1175 ?_
                                                                              refine gx_iload_n X 3 rfl dL_law_1176 ?_
                                                                              refine gx_iconst X (v := (1 : Int32)) dL_law_1177 (by decide) ?_
                                                                              refine gx_iadd X dL_law_1178 ?_
                                                                              obtain ⟨q385, h⟩ := gdd_eq h
                                                                              refine gx_sld X hX hbl hbA q385 dL_law_1179 ?_
                                                                              refine gx_aload_n X 0 rfl dL_law_1180 ?_
                                                                              refine gx_iload_n X 3 rfl dL_law_1181 ?_
                                                                              refine gx_iconst X (v := (2 : Int32)) dL_law_1182 (by decide) ?_
                                                                              refine gx_iadd X dL_law_1183 ?_
                                                                              obtain ⟨q386, h⟩ := gdd_eq h
                                                                              refine gx_sld X hX hbl hbA q386 dL_law_1184 ?_
                                                                              obtain ⟨ra387, ga388, ca389, h⟩ := bdd_eq h
                                                                              refine gx_callVl X (40) (c_X10_element ca389) lc_X10_element li_X10_element lm_L_165 (by decide) (cl_40 _ _) rfl rfl rfl (Nat.le_trans (by decide) hd) rfl (Nat.le_of_ble_eq_true rfl) dL_law_1185 ?_
                                                                              refine gx_lcmp X dL_law_1188 ?_
                                                                              refine gx_if_eq X 1313 dL_law_1189 (by decide) (fun q390 => ?_) (fun q390 => ?_)
                                                                              · replace h := (if_pos q390).symm.trans h
                                                                                refine gx_iinc X [(3, .int ((x3 + (6 : Int32)))), (0, .ref b), (1, .ref (al (0))), (2, .ref (al (40)))] 3 dL_law_1313 rfl rfl (by decide) rfl ?_
                                                                                refine gx_goto X 18 dL_law_1316 (by decide) ?_
                                                                                exact gx_sub [1, 2, 3, 0] rfl (ih (x3 + (6 : Int32)) ga388 h)
                                                                              · replace h := (if_neg q390).symm.trans h
                                                                                refine gx_iconst X (v := (0 : Int32)) dL_law_1192 (by decide) ?_
                                                                                exact absurd (ret_eq h).1 (by decide)
                                                                            · replace h := (if_neg q379).symm.trans h
                                                                              by_cases q391 : ((xs x3.toNatClampNeg) &&& (63 : Int32)) = (36 : Int32)
                                                                              · replace h := (if_pos q391).symm.trans h
                                                                                have eq391 : (((xs x3.toNatClampNeg) &&& (63 : Int32))).toInt = 36 := by rw [q391] <;> decide
                                                                                refine gx_tab 1194 X dL_law_33 (by rw [eq391] <;> decide) (by rw [eq391] <;> decide) (by rw [eq391] <;> rfl) (by decide) ?_
                                                                                refine gx_aload_n X 1 rfl dL_law_1194 ?_
                                                                                refine gx_aload_n X 0 rfl dL_law_1195 ?_
                                                                                refine gx_iload_n X 3 rfl dL_law_1196 ?_
                                                                                refine gx_iconst X (v := (1 : Int32)) dL_law_1197 (by decide) ?_
                                                                                refine gx_iadd X dL_law_1198 ?_
                                                                                obtain ⟨q392, h⟩ := gdd_eq h
                                                                                refine gx_sld X hX hbl hbA q392 dL_law_1199 ?_
                                                                                refine gx_aload_n X 0 rfl dL_law_1200 ?_
                                                                                refine gx_iload_n X 3 rfl dL_law_1201 ?_
                                                                                refine gx_iconst X (v := (2 : Int32)) dL_law_1202 (by decide) ?_
                                                                                refine gx_iadd X dL_law_1203 ?_
                                                                                obtain ⟨q393, h⟩ := gdd_eq h
                                                                                refine gx_sld X hX hbl hbA q393 dL_law_1204 ?_
                                                                                refine gx_aload_n X 0 rfl dL_law_1205 ?_
                                                                                refine gx_iload_n X 3 rfl dL_law_1206 ?_
                                                                                refine gx_iconst X (v := (3 : Int32)) dL_law_1207 (by decide) ?_
                                                                                refine gx_iadd X dL_law_1208 ?_
                                                                                obtain ⟨q394, h⟩ := gdd_eq h
                                                                                refine gx_sld X hX hbl hbA q394 dL_law_1209 ?_
                                                                                refine gx_aload_n X 0 rfl dL_law_1210 ?_
                                                                                refine gx_iload_n X 3 rfl dL_law_1211 ?_
                                                                                refine gx_iconst X (v := (4 : Int32)) dL_law_1212 (by decide) ?_
                                                                                refine gx_iadd X dL_law_1213 ?_
                                                                                obtain ⟨q395, h⟩ := gdd_eq h
                                                                                refine gx_sld X hX hbl hbA q395 dL_law_1214 ?_
                                                                                refine gx_aload_n X 0 rfl dL_law_1215 ?_
                                                                                refine gx_iload_n X 3 rfl dL_law_1216 ?_
                                                                                refine gx_iconst X (v := (5 : Int32)) dL_law_1217 (by decide) ?_
                                                                                refine gx_iadd X dL_law_1218 ?_
                                                                                obtain ⟨q396, h⟩ := gdd_eq h
                                                                                refine gx_sld X hX hbl hbA q396 dL_law_1219 ?_
                                                                                obtain ⟨ra397, ga398, ca399, h⟩ := bdd_eq h
                                                                                refine gx_callVi X (0) (c_X9_shift ca399) lc_X9_shift li_X9_shift lm_L_166 (by decide) (cl_0 _ _) rfl rfl rfl (Nat.le_trans (by decide) hd) rfl (Nat.le_of_ble_eq_true rfl) dL_law_1220 ?_
                                                                                refine gx_aload_n X 2 rfl dL_law_1223 ?_
                                                                                refine gx_aload_n X 0 rfl dL_law_1224 ?_
                                                                                refine gx_iload_n X 3 rfl dL_law_1225 ?_
                                                                                refine gx_iconst X (v := (1 : Int32)) dL_law_1226 (by decide) ?_
                                                                                refine gx_iadd X dL_law_1227 ?_
                                                                                obtain ⟨q400, h⟩ := gdd_eq h
                                                                                refine gx_sld X hX hbl hbA q400 dL_law_1228 ?_
                                                                                refine gx_aload_n X 0 rfl dL_law_1229 ?_
                                                                                refine gx_iload_n X 3 rfl dL_law_1230 ?_
                                                                                refine gx_iconst X (v := (2 : Int32)) dL_law_1231 (by decide) ?_
                                                                                refine gx_iadd X dL_law_1232 ?_
                                                                                obtain ⟨q401, h⟩ := gdd_eq h
                                                                                refine gx_sld X hX hbl hbA q401 dL_law_1233 ?_
                                                                                refine gx_aload_n X 0 rfl dL_law_1234 ?_
                                                                                refine gx_iload_n X 3 rfl dL_law_1235 ?_
                                                                                refine gx_iconst X (v := (3 : Int32)) dL_law_1236 (by decide) ?_
                                                                                refine gx_iadd X dL_law_1237 ?_
                                                                                obtain ⟨q402, h⟩ := gdd_eq h
                                                                                refine gx_sld X hX hbl hbA q402 dL_law_1238 ?_
                                                                                refine gx_aload_n X 0 rfl dL_law_1239 ?_
                                                                                refine gx_iload_n X 3 rfl dL_law_1240 ?_
                                                                                refine gx_iconst X (v := (4 : Int32)) dL_law_1241 (by decide) ?_
                                                                                refine gx_iadd X dL_law_1242 ?_
                                                                                obtain ⟨q403, h⟩ := gdd_eq h
                                                                                refine gx_sld X hX hbl hbA q403 dL_law_1243 ?_
                                                                                refine gx_aload_n X 0 rfl dL_law_1244 ?_
                                                                                refine gx_iload_n X 3 rfl dL_law_1245 ?_
                                                                                refine gx_iconst X (v := (5 : Int32)) dL_law_1246 (by decide) ?_
                                                                                refine gx_iadd X dL_law_1247 ?_
                                                                                obtain ⟨q404, h⟩ := gdd_eq h
                                                                                refine gx_sld X hX hbl hbA q404 dL_law_1248 ?_
                                                                                obtain ⟨ra405, ga406, ca407, h⟩ := bdd_eq h
                                                                                refine gx_callVi X (40) (c_X10_shift ca407) lc_X10_shift li_X10_shift lm_L_170 (by decide) (cl_40 _ _) rfl rfl rfl (Nat.le_trans (by decide) hd) rfl (Nat.le_of_ble_eq_true rfl) dL_law_1249 ?_
                                                                                refine gx_icmp_eq X 1313 dL_law_1252 (by decide) (fun q408 => ?_) (fun q408 => ?_)
                                                                                · replace h := (if_pos q408).symm.trans h
                                                                                  refine gx_iinc X [(3, .int ((x3 + (6 : Int32)))), (0, .ref b), (1, .ref (al (0))), (2, .ref (al (40)))] 3 dL_law_1313 rfl rfl (by decide) rfl ?_
                                                                                  refine gx_goto X 18 dL_law_1316 (by decide) ?_
                                                                                  exact gx_sub [1, 2, 3, 0] rfl (ih (x3 + (6 : Int32)) ga406 h)
                                                                                · replace h := (if_neg q408).symm.trans h
                                                                                  refine gx_iconst X (v := (0 : Int32)) dL_law_1255 (by decide) ?_
                                                                                  exact absurd (ret_eq h).1 (by decide)
                                                                              · replace h := (if_neg q391).symm.trans h
                                                                                by_cases q409 : ((xs x3.toNatClampNeg) &&& (63 : Int32)) = (37 : Int32)
                                                                                · replace h := (if_pos q409).symm.trans h
                                                                                  have eq409 : (((xs x3.toNatClampNeg) &&& (63 : Int32))).toInt = 37 := by rw [q409] <;> decide
                                                                                  refine gx_tab 1257 X dL_law_33 (by rw [eq409] <;> decide) (by rw [eq409] <;> decide) (by rw [eq409] <;> rfl) (by decide) ?_
                                                                                  refine gx_aload_n X 1 rfl dL_law_1257 ?_
                                                                                  refine gx_aload_n X 0 rfl dL_law_1258 ?_
                                                                                  refine gx_iload_n X 3 rfl dL_law_1259 ?_
                                                                                  refine gx_iconst X (v := (1 : Int32)) dL_law_1260 (by decide) ?_
                                                                                  refine gx_iadd X dL_law_1261 ?_
                                                                                  obtain ⟨q410, h⟩ := gdd_eq h
                                                                                  refine gx_sld X hX hbl hbA q410 dL_law_1262 ?_
                                                                                  refine gx_aload_n X 0 rfl dL_law_1263 ?_
                                                                                  refine gx_iload_n X 3 rfl dL_law_1264 ?_
                                                                                  refine gx_iconst X (v := (2 : Int32)) dL_law_1265 (by decide) ?_
                                                                                  refine gx_iadd X dL_law_1266 ?_
                                                                                  obtain ⟨q411, h⟩ := gdd_eq h
                                                                                  refine gx_sld X hX hbl hbA q411 dL_law_1267 ?_
                                                                                  obtain ⟨ra412, ga413, ca414, h⟩ := bdd_eq h
                                                                                  refine gx_callVi X (0) (c_X9_taken ca414) lc_X9_taken li_X9_taken lm_L_171 (by decide) (cl_0 _ _) rfl rfl rfl (Nat.le_trans (by decide) hd) rfl (Nat.le_of_ble_eq_true rfl) dL_law_1268 ?_
                                                                                  refine gx_aload_n X 2 rfl dL_law_1271 ?_
                                                                                  refine gx_aload_n X 0 rfl dL_law_1272 ?_
                                                                                  refine gx_iload_n X 3 rfl dL_law_1273 ?_
                                                                                  refine gx_iconst X (v := (1 : Int32)) dL_law_1274 (by decide) ?_
                                                                                  refine gx_iadd X dL_law_1275 ?_
                                                                                  obtain ⟨q415, h⟩ := gdd_eq h
                                                                                  refine gx_sld X hX hbl hbA q415 dL_law_1276 ?_
                                                                                  refine gx_aload_n X 0 rfl dL_law_1277 ?_
                                                                                  refine gx_iload_n X 3 rfl dL_law_1278 ?_
                                                                                  refine gx_iconst X (v := (2 : Int32)) dL_law_1279 (by decide) ?_
                                                                                  refine gx_iadd X dL_law_1280 ?_
                                                                                  obtain ⟨q416, h⟩ := gdd_eq h
                                                                                  refine gx_sld X hX hbl hbA q416 dL_law_1281 ?_
                                                                                  obtain ⟨ra417, ga418, ca419, h⟩ := bdd_eq h
                                                                                  refine gx_callVi X (40) (c_X10_taken ca419) lc_X10_taken li_X10_taken lm_L_174 (by decide) (cl_40 _ _) rfl rfl rfl (Nat.le_trans (by decide) hd) rfl (Nat.le_of_ble_eq_true rfl) dL_law_1282 ?_
                                                                                  refine gx_icmp_eq X 1313 dL_law_1285 (by decide) (fun q420 => ?_) (fun q420 => ?_)
                                                                                  · replace h := (if_pos q420).symm.trans h
                                                                                    refine gx_iinc X [(3, .int ((x3 + (6 : Int32)))), (0, .ref b), (1, .ref (al (0))), (2, .ref (al (40)))] 3 dL_law_1313 rfl rfl (by decide) rfl ?_
                                                                                    refine gx_goto X 18 dL_law_1316 (by decide) ?_
                                                                                    exact gx_sub [1, 2, 3, 0] rfl (ih (x3 + (6 : Int32)) ga418 h)
                                                                                  · replace h := (if_neg q420).symm.trans h
                                                                                    refine gx_iconst X (v := (0 : Int32)) dL_law_1288 (by decide) ?_
                                                                                    exact absurd (ret_eq h).1 (by decide)
                                                                                · replace h := (if_neg q409).symm.trans h
                                                                                  by_cases q421 : ((xs x3.toNatClampNeg) &&& (63 : Int32)) = (38 : Int32)
                                                                                  · replace h := (if_pos q421).symm.trans h
                                                                                    have eq421 : (((xs x3.toNatClampNeg) &&& (63 : Int32))).toInt = 38 := by rw [q421] <;> decide
                                                                                    refine gx_tab 1290 X dL_law_33 (by rw [eq421] <;> decide) (by rw [eq421] <;> decide) (by rw [eq421] <;> rfl) (by decide) ?_
                                                                                    refine gx_aload_n X 1 rfl dL_law_1290 ?_
                                                                                    refine gx_aload_n X 0 rfl dL_law_1291 ?_
                                                                                    refine gx_iload_n X 3 rfl dL_law_1292 ?_
                                                                                    refine gx_iconst X (v := (1 : Int32)) dL_law_1293 (by decide) ?_
                                                                                    refine gx_iadd X dL_law_1294 ?_
                                                                                    obtain ⟨q422, h⟩ := gdd_eq h
                                                                                    refine gx_sld X hX hbl hbA q422 dL_law_1295 ?_
                                                                                    obtain ⟨ra423, ga424, ca425, h⟩ := bdd_eq h
                                                                                    refine gx_callVi X (0) (c_X9_count ca425) lc_X9_count li_X9_count lm_L_175 (by decide) (cl_0 _ _) rfl rfl rfl (Nat.le_trans (by decide) hd) rfl (Nat.le_of_ble_eq_true rfl) dL_law_1296 ?_
                                                                                    refine gx_aload_n X 2 rfl dL_law_1299 ?_
                                                                                    refine gx_aload_n X 0 rfl dL_law_1300 ?_
                                                                                    refine gx_iload_n X 3 rfl dL_law_1301 ?_
                                                                                    refine gx_iconst X (v := (1 : Int32)) dL_law_1302 (by decide) ?_
                                                                                    refine gx_iadd X dL_law_1303 ?_
                                                                                    obtain ⟨q426, h⟩ := gdd_eq h
                                                                                    refine gx_sld X hX hbl hbA q426 dL_law_1304 ?_
                                                                                    obtain ⟨ra427, ga428, ca429, h⟩ := bdd_eq h
                                                                                    refine gx_callVi X (40) (c_X10_count ca429) lc_X10_count li_X10_count lm_L_178 (by decide) (cl_40 _ _) rfl rfl rfl (Nat.le_trans (by decide) hd) rfl (Nat.le_of_ble_eq_true rfl) dL_law_1305 ?_
                                                                                    refine gx_icmp_eq X 1313 dL_law_1308 (by decide) (fun q430 => ?_) (fun q430 => ?_)
                                                                                    · replace h := (if_pos q430).symm.trans h
                                                                                      refine gx_iinc X [(3, .int ((x3 + (6 : Int32)))), (0, .ref b), (1, .ref (al (0))), (2, .ref (al (40)))] 3 dL_law_1313 rfl rfl (by decide) rfl ?_
                                                                                      refine gx_goto X 18 dL_law_1316 (by decide) ?_
                                                                                      exact gx_sub [1, 2, 3, 0] rfl (ih (x3 + (6 : Int32)) ga428 h)
                                                                                    · replace h := (if_neg q430).symm.trans h
                                                                                      refine gx_iconst X (v := (0 : Int32)) dL_law_1311 (by decide) ?_
                                                                                      exact absurd (ret_eq h).1 (by decide)
                                                                                  · replace h := (if_neg q421).symm.trans h
                                                                                    have eq3 := lv_neT (a := 0) q3 (by decide)
                                                                                    have eq15 := lv_neT (a := 1) q15 (by decide)
                                                                                    have eq27 := lv_neT (a := 2) q27 (by decide)
                                                                                    have eq39 := lv_neT (a := 3) q39 (by decide)
                                                                                    have eq55 := lv_neT (a := 4) q55 (by decide)
                                                                                    have eq67 := lv_neT (a := 5) q67 (by decide)
                                                                                    have eq79 := lv_neT (a := 6) q79 (by decide)
                                                                                    have eq89 := lv_neT (a := 7) q89 (by decide)
                                                                                    have eq97 := lv_neT (a := 8) q97 (by decide)
                                                                                    have eq105 := lv_neT (a := 9) q105 (by decide)
                                                                                    have eq117 := lv_neT (a := 10) q117 (by decide)
                                                                                    have eq129 := lv_neT (a := 11) q129 (by decide)
                                                                                    have eq141 := lv_neT (a := 12) q141 (by decide)
                                                                                    have eq151 := lv_neT (a := 13) q151 (by decide)
                                                                                    have eq161 := lv_neT (a := 14) q161 (by decide)
                                                                                    have eq169 := lv_neT (a := 15) q169 (by decide)
                                                                                    have eq179 := lv_neT (a := 16) q179 (by decide)
                                                                                    have eq187 := lv_neT (a := 17) q187 (by decide)
                                                                                    have eq199 := lv_neT (a := 18) q199 (by decide)
                                                                                    have eq209 := lv_neT (a := 19) q209 (by decide)
                                                                                    have eq217 := lv_neT (a := 20) q217 (by decide)
                                                                                    have eq229 := lv_neT (a := 21) q229 (by decide)
                                                                                    have eq239 := lv_neT (a := 22) q239 (by decide)
                                                                                    have eq249 := lv_neT (a := 23) q249 (by decide)
                                                                                    have eq259 := lv_neT (a := 24) q259 (by decide)
                                                                                    have eq269 := lv_neT (a := 25) q269 (by decide)
                                                                                    have eq279 := lv_neT (a := 26) q279 (by decide)
                                                                                    have eq287 := lv_neT (a := 27) q287 (by decide)
                                                                                    have eq295 := lv_neT (a := 28) q295 (by decide)
                                                                                    have eq303 := lv_neT (a := 29) q303 (by decide)
                                                                                    have eq313 := lv_neT (a := 30) q313 (by decide)
                                                                                    have eq327 := lv_neT (a := 31) q327 (by decide)
                                                                                    have eq337 := lv_neT (a := 32) q337 (by decide)
                                                                                    have eq349 := lv_neT (a := 33) q349 (by decide)
                                                                                    have eq363 := lv_neT (a := 34) q363 (by decide)
                                                                                    have eq379 := lv_neT (a := 35) q379 (by decide)
                                                                                    have eq391 := lv_neT (a := 36) q391 (by decide)
                                                                                    have eq409 := lv_neT (a := 37) q409 (by decide)
                                                                                    have eq421 := lv_neT (a := 38) q421 (by decide)
                                                                                    refine gx_tabO 1313 X dL_law_33 (by omega) (by decide) ?_
                                                                                    refine gx_iinc X [(3, .int ((x3 + (6 : Int32)))), (0, .ref b), (1, .ref (al (0))), (2, .ref (al (40)))] 3 dL_law_1313 rfl rfl (by decide) rfl ?_
                                                                                    refine gx_goto X 18 dL_law_1316 (by decide) ?_
                                                                                    exact gx_sub [1, 2, 3, 0] rfl (ih (x3 + (6 : Int32)) g h)
end LW
