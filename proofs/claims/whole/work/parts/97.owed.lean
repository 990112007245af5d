theorem op_bell (a0 : Int32) (a1 : Int32) {g : Mm} (hg : gv_ g) : al_ (m_X9_bell a0 a1) (m_X10_bell a0 a1) g := by
  sorry
theorem op_set (a0 : Int32) (a1 : Int32) {g : Mm} (hg : gv_ g) : al_ (m_X9_set a0 a1) (m_X10_set a0 a1) g := by
  sorry
theorem op_strike (a0 : Int32) (a1 : Int32) {g : Mm} (hg : gv_ g) : al_ (m_X9_strike a0 a1) (m_X10_strike a0 a1) g := by
  sorry
theorem op_strikes (a0 : Int32) (a1 : Int32) (a2 : Int32) (a3 : Int32) {g : Mm} (hg : gv_ g) : al_ (m_X9_strikes a0 a1 a2 a3) (m_X10_strikes a0 a1 a2 a3) g := by
  sorry
theorem op_most (a0 : Int32) (a1 : Int32) {g : Mm} (hg : gv_ g) : al_ (m_X9_most a0 a1) (m_X10_most a0 a1) g := by
  sorry
theorem op_mix (a0 : Int32) (a1 : Int32) {g : Mm} (hg : gv_ g) : al_ (m_X9_mix a0 a1) (m_X10_mix a0 a1) g := by
  sorry
theorem op_feed (a0 : Int32) {g : Mm} (hg : gv_ g) : al_ (m_X9_feed a0) (m_X10_feed a0) g := by
  sorry
theorem op_law {g : Mm} (hg : gv_ g) : al_ m_X9_law m_X10_law g := by
  sorry
theorem op_lay {g : Mm} (hg : gv_ g) : al_ m_X9_lay m_X10_lay g := by
  sorry
theorem op_line (a0 : Int32) (a1 : Int32) {g : Mm} (hg : gv_ g) : al_ (m_X9_line a0 a1) (m_X10_line a0 a1) g := by
  sorry
theorem op_sum (a0 : Int32) (a1 : Int32) {g : Mm} (hg : gv_ g) : al_ (m_X9_sum a0 a1) (m_X10_sum a0 a1) g := by
  sorry
theorem op_of (a0 : Int32) (a1 : Int32) {g : Mm} (hg : gv_ g) : al_ (m_X9_of a0 a1) (m_X10_of a0 a1) g := by
  sorry
theorem op_tells (a0 : Int32) {g : Mm} (hg : gv_ g) : al_ (m_X9_tells a0) (m_X10_tells a0) g := by
  sorry
theorem op_gap (a0 : Int32) {g : Mm} (hg : gv_ g) : al_ (m_X9_gap a0) (m_X10_gap a0) g := by
  sorry
theorem op_bears {g : Mm} (hg : gv_ g) : al_ m_X9_bears m_X10_bears g := by
  sorry
theorem op_hear (a0 : Int32) {g : Mm} (hg : gv_ g) : al_ (m_X9_hear a0) (m_X10_hear a0) g := by
  sorry
theorem op_which {g : Mm} (hg : gv_ g) : al_ m_X9_which m_X10_which g := by
  sorry
theorem op_alone (a0 : Int32) (a1 : Int32) {g : Mm} (hg : gv_ g) : al_ (m_X9_alone a0 a1) (m_X10_alone a0 a1) g := by
  sorry
theorem op_strokes (a0 : Int32) {g : Mm} (hg : gv_ g) : al_ (m_X9_strokes a0) (m_X10_strokes a0) g := by
  sorry
theorem op_kept {g : Mm} (hg : gv_ g) : al_ m_X9_kept m_X10_kept g := by
  sorry
theorem op_odds (a0 : Int32) (a1 : Int32) {g : Mm} (hg : gv_ g) : al_ (m_X9_odds a0 a1) (m_X10_odds a0 a1) g := by
  sorry
theorem op_least (a0 : Int32) {g : Mm} (hg : gv_ g) : al_ (m_X9_least a0) (m_X10_least a0) g := by
  sorry
theorem op_greedy (a0 : Int32) {g : Mm} (hg : gv_ g) : al_ (m_X9_greedy a0) (m_X10_greedy a0) g := by
  sorry
theorem op_alarm (a0 : Int32) {g : Mm} (hg : gv_ g) : al_ (m_X9_alarm a0) (m_X10_alarm a0) g := by
  sorry
theorem op_night (a0 : Int32) {g : Mm} (hg : gv_ g) : al_ (m_X9_night a0) (m_X10_night a0) g := by
  sorry
theorem op_begins (a0 : Int32) {g : Mm} (hg : gv_ g) : al_ (m_X9_begins a0) (m_X10_begins a0) g := by
  sorry
theorem op_rest {g : Mm} (hg : gv_ g) : al_ m_X9_rest m_X10_rest g := by
  sorry
theorem op_undo {g : Mm} (hg : gv_ g) : al_ m_X9_undo m_X10_undo g := by
  sorry
theorem op_redo {g : Mm} (hg : gv_ g) : al_ m_X9_redo m_X10_redo g := by
  sorry
theorem op_body (a0 : Int32) {g : Mm} (hg : gv_ g) : al_ (m_X9_body a0) (m_X10_body a0) g := by
  sorry
theorem op_act (a0 : Int32) (a1 : Int32) (a2 : Int32) {g : Mm} (hg : gv_ g) : al_ (m_X9_act a0 a1 a2) (m_X10_act a0 a1 a2) g := by
  sorry
theorem op_trace (a0 : Int32) {g : Mm} (hg : gv_ g) : al_ (m_X9_trace a0) (m_X10_trace a0) g := by
  sorry
theorem op_keep (a0 : Int32) (a1 : Int32) {g : Mm} (hg : gv_ g) : al_ (m_X9_keep a0 a1) (m_X10_keep a0 a1) g := by
  sorry
theorem op_row (a0 : Int32) (a1 : Int32) (a2 : Int32) {g : Mm} (hg : gv_ g) : al_ (m_X9_row a0 a1 a2) (m_X10_row a0 a1 a2) g := by
  sorry
theorem op_put (a0 : Int32) (a1 : Int32) (a2 : Int64) {g : Mm} (hg : gv_ g) : al_ (m_X9_put a0 a1 a2) (m_X10_put a0 a1 a2) g := by
  sorry
theorem op_element (a0 : Int32) (a1 : Int32) {g : Mm} (hg : gv_ g) : al_ (m_X9_element a0 a1) (m_X10_element a0 a1) g := by
  sorry
theorem op_shift (a0 : Int32) (a1 : Int32) (a2 : Int32) (a3 : Int32) (a4 : Int32) {g : Mm} (hg : gv_ g) : al_ (m_X9_shift a0 a1 a2 a3 a4) (m_X10_shift a0 a1 a2 a3 a4) g := by
  sorry
theorem op_taken (a0 : Int32) (a1 : Int32) {g : Mm} (hg : gv_ g) : al_ (m_X9_taken a0 a1) (m_X10_taken a0 a1) g := by
  sorry
theorem op_count (a0 : Int32) {g : Mm} (hg : gv_ g) : al_ (m_X9_count a0) (m_X10_count a0) g := by
  sorry
