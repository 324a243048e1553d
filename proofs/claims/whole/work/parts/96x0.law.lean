/-! the law, call by call -/
section
variable {M : am_M} {d : Nat} {x3 L : Int}
/-- the law goes on -/
def LW (d : Nat) (M : am_M) (x3 : Int) : Prop := ∃ M2, am_Ex d 306 11 [(2, -1), (2, 1), (2, 447), (0, x3)] [] M = am_Ex d 306 11 [(2, -1), (2, 1), (2, 447), (0, x3 + 6)] [] M2 ∧ RR M2 ∧ NG M M2
/-- what is known of the script -/
def LX (M : am_M) (L x3 : Int) : Prop := am_rd M (-4) 0 = L ∧ (0 ≤ x3 ∧ x3 + 6 ≤ L ∧ L ≤ 3072) ∧ ∀ j, -2147483648 ≤ am_rd M (-1) j ∧ am_rd M (-1) j < 2147483648
theorem lw_0 (a : RR M) (h : LX M L x3) (hk : am_and (am_rd M (-1) x3) 63 = 0) : LW d M x3 := by
  obtain ⟨hL, ⟨x0, x6, L1⟩, hR⟩ := h
  obtain ⟨r, M1, M2, e1, e2, R⟩ := (op_turn (d := d) a  : OP d M 136 146 [(0, am_rd M (-1) (x3 + 1))])
  have n1 : NG M M1 := ng_call rfl e1
  have n2 : NG M1 M2 := ng_call rfl e2
  have g4 : am_rd M1 (-4) 0 = L := (n1 _ _ (by decide)).trans hL
  have g1 : ∀ j, am_rd M1 (-1) j = am_rd M (-1) j := fun j => n1 _ _ (by decide)
  refine ⟨M2, ?_, R, ng_tr n1 n2⟩
  refine (aq_306_11 d 1 447 x3 M).trans ?_
  refine (if_pos (show x3 ≤ am_w32 (am_rd M (-4) 0 - 6) by rw [hL, ax_w32 (by omega) (by omega)]; omega)).trans ?_
  refine (ax_gi x0 (show x3 < am_rd M (-4) 0 by omega)).trans ?_
  refine (if_pos hk).trans ?_
  rw [ax_w32 (x := x3 + 1) (by omega) (by omega), hL, ax_gi (by omega) (by omega)]
  rw [show am_ob 1 10 = true from rfl, ax_gt, e1, Option.bind_some]
  dsimp only []
  simp only [g1]
  rw [g4, ax_gi (by omega) (by omega)]
  rw [show am_ob 447 11 = true from rfl, ax_gt, e2, Option.bind_some]
  dsimp only []
  rw [if_pos rfl, aq_306_1065, ax_w32 (by omega) (by omega), ax_let]
theorem lw_1 (a : RR M) (h : LX M L x3) (hk : am_and (am_rd M (-1) x3) 63 = 1) : LW d M x3 := by
  obtain ⟨hL, ⟨x0, x6, L1⟩, hR⟩ := h
  obtain ⟨r, M1, M2, e1, e2, R⟩ := (op_leads (d := d) a  : OP d M 182 192 [(0, am_rd M (-1) (x3 + 1)), (0, am_rd M (-1) (x3 + 2))])
  have n1 : NG M M1 := ng_call rfl e1
  have n2 : NG M1 M2 := ng_call rfl e2
  have g4 : am_rd M1 (-4) 0 = L := (n1 _ _ (by decide)).trans hL
  have g1 : ∀ j, am_rd M1 (-1) j = am_rd M (-1) j := fun j => n1 _ _ (by decide)
  refine ⟨M2, ?_, R, ng_tr n1 n2⟩
  refine (aq_306_11 d 1 447 x3 M).trans ?_
  refine (if_pos (show x3 ≤ am_w32 (am_rd M (-4) 0 - 6) by rw [hL, ax_w32 (by omega) (by omega)]; omega)).trans ?_
  refine (ax_gi x0 (show x3 < am_rd M (-4) 0 by omega)).trans ?_
  refine (if_neg (show ¬ am_and (am_rd M (-1) x3) 63 = 0 by rw [hk]; decide)).trans ?_
  refine (if_pos hk).trans ?_
  rw [ax_w32 (x := x3 + 1) (by omega) (by omega), ax_w32 (x := x3 + 2) (by omega) (by omega), hL, ax_gi (by omega) (by omega), ax_gi (by omega) (by omega)]
  rw [show am_ob 1 10 = true from rfl, ax_gt, e1, Option.bind_some]
  dsimp only []
  simp only [g1]
  rw [g4, ax_gi (by omega) (by omega), ax_gi (by omega) (by omega)]
  rw [show am_ob 447 11 = true from rfl, ax_gt, e2, Option.bind_some]
  dsimp only []
  rw [if_pos rfl, aq_306_1065, ax_w32 (by omega) (by omega), ax_let]
theorem lw_2 (a : RR M) (h : LX M L x3) (hk : am_and (am_rd M (-1) x3) 63 = 2) : LW d M x3 := by
  obtain ⟨hL, ⟨x0, x6, L1⟩, hR⟩ := h
  obtain ⟨r, M1, M2, e1, e2, R⟩ := (op_man (d := d) a  : OP d M 137 147 [(0, am_rd M (-1) (x3 + 1))])
  have n1 : NG M M1 := ng_call rfl e1
  have n2 : NG M1 M2 := ng_call rfl e2
  have g4 : am_rd M1 (-4) 0 = L := (n1 _ _ (by decide)).trans hL
  have g1 : ∀ j, am_rd M1 (-1) j = am_rd M (-1) j := fun j => n1 _ _ (by decide)
  refine ⟨M2, ?_, R, ng_tr n1 n2⟩
  refine (aq_306_11 d 1 447 x3 M).trans ?_
  refine (if_pos (show x3 ≤ am_w32 (am_rd M (-4) 0 - 6) by rw [hL, ax_w32 (by omega) (by omega)]; omega)).trans ?_
  refine (ax_gi x0 (show x3 < am_rd M (-4) 0 by omega)).trans ?_
  refine (if_neg (show ¬ am_and (am_rd M (-1) x3) 63 = 0 by rw [hk]; decide)).trans ?_
  refine (if_neg (show ¬ am_and (am_rd M (-1) x3) 63 = 1 by rw [hk]; decide)).trans ?_
  refine (if_pos hk).trans ?_
  rw [ax_w32 (x := x3 + 1) (by omega) (by omega), hL, ax_gi (by omega) (by omega)]
  rw [show am_ob 1 10 = true from rfl, ax_gt, e1, Option.bind_some]
  dsimp only []
  simp only [g1]
  rw [g4, ax_gi (by omega) (by omega)]
  rw [show am_ob 447 11 = true from rfl, ax_gt, e2, Option.bind_some]
  dsimp only []
  rw [if_pos rfl, aq_306_1065, ax_w32 (by omega) (by omega), ax_let]
theorem lw_3 (a : RR M) (h : LX M L x3) (hk : am_and (am_rd M (-1) x3) 63 = 3) : LW d M x3 := by
  obtain ⟨hL, ⟨x0, x6, L1⟩, hR⟩ := h
  obtain ⟨r, M1, M2, e1, e2, R⟩ := (op_smell (d := d) a (hR _) : OP d M 183 193 [(0, am_rd M (-1) (x3 + 1))])
  have n1 : NG M M1 := ng_call rfl e1
  have n2 : NG M1 M2 := ng_call rfl e2
  have g4 : am_rd M1 (-4) 0 = L := (n1 _ _ (by decide)).trans hL
  have g1 : ∀ j, am_rd M1 (-1) j = am_rd M (-1) j := fun j => n1 _ _ (by decide)
  refine ⟨M2, ?_, R, ng_tr n1 n2⟩
  refine (aq_306_11 d 1 447 x3 M).trans ?_
  refine (if_pos (show x3 ≤ am_w32 (am_rd M (-4) 0 - 6) by rw [hL, ax_w32 (by omega) (by omega)]; omega)).trans ?_
  refine (ax_gi x0 (show x3 < am_rd M (-4) 0 by omega)).trans ?_
  refine (if_neg (show ¬ am_and (am_rd M (-1) x3) 63 = 0 by rw [hk]; decide)).trans ?_
  refine (if_neg (show ¬ am_and (am_rd M (-1) x3) 63 = 1 by rw [hk]; decide)).trans ?_
  refine (if_neg (show ¬ am_and (am_rd M (-1) x3) 63 = 2 by rw [hk]; decide)).trans ?_
  refine (if_pos hk).trans ?_
  rw [ax_w32 (x := x3 + 1) (by omega) (by omega), hL, ax_gi (by omega) (by omega)]
  rw [show am_ob 1 10 = true from rfl, ax_gt, e1, Option.bind_some]
  dsimp only []
  simp only [g1]
  rw [g4, ax_gi (by omega) (by omega)]
  rw [show am_ob 447 11 = true from rfl, ax_gt, e2, Option.bind_some]
  dsimp only []
  rw [if_pos rfl, aq_306_1065, ax_w32 (by omega) (by omega), ax_let]
theorem lw_4 (a : RR M) (h : LX M L x3) (hk : am_and (am_rd M (-1) x3) 63 = 4) : LW d M x3 := by
  obtain ⟨hL, ⟨x0, x6, L1⟩, hR⟩ := h
  obtain ⟨r, M1, M2, e1, e2, R⟩ := (op_allow (d := d) a  : OP d M 59 148 [(0, am_rd M (-1) (x3 + 1))])
  have n1 : NG M M1 := ng_call rfl e1
  have n2 : NG M1 M2 := ng_call rfl e2
  have g4 : am_rd M1 (-4) 0 = L := (n1 _ _ (by decide)).trans hL
  have g1 : ∀ j, am_rd M1 (-1) j = am_rd M (-1) j := fun j => n1 _ _ (by decide)
  refine ⟨M2, ?_, R, ng_tr n1 n2⟩
  refine (aq_306_11 d 1 447 x3 M).trans ?_
  refine (if_pos (show x3 ≤ am_w32 (am_rd M (-4) 0 - 6) by rw [hL, ax_w32 (by omega) (by omega)]; omega)).trans ?_
  refine (ax_gi x0 (show x3 < am_rd M (-4) 0 by omega)).trans ?_
  refine (if_neg (show ¬ am_and (am_rd M (-1) x3) 63 = 0 by rw [hk]; decide)).trans ?_
  refine (if_neg (show ¬ am_and (am_rd M (-1) x3) 63 = 1 by rw [hk]; decide)).trans ?_
  refine (if_neg (show ¬ am_and (am_rd M (-1) x3) 63 = 2 by rw [hk]; decide)).trans ?_
  refine (if_neg (show ¬ am_and (am_rd M (-1) x3) 63 = 3 by rw [hk]; decide)).trans ?_
  refine (if_pos hk).trans ?_
  rw [ax_w32 (x := x3 + 1) (by omega) (by omega), hL, ax_gi (by omega) (by omega)]
  rw [show am_ob 1 10 = true from rfl, ax_gt, e1, Option.bind_some]
  dsimp only []
  simp only [g1]
  rw [g4, ax_gi (by omega) (by omega)]
  rw [show am_ob 447 11 = true from rfl, ax_gt, e2, Option.bind_some]
  dsimp only []
  rw [if_pos rfl, aq_306_1065, ax_w32 (by omega) (by omega), ax_let]
theorem lw_5 (a : RR M) (h : LX M L x3) (hk : am_and (am_rd M (-1) x3) 63 = 5) : LW d M x3 := by
  obtain ⟨hL, ⟨x0, x6, L1⟩, hR⟩ := h
  obtain ⟨r, M1, M2, e1, e2, R⟩ := (op_teach (d := d) a  : OP d M 184 253 [(0, am_rd M (-1) (x3 + 1)), (0, am_rd M (-1) (x3 + 2)), (0, am_rd M (-1) (x3 + 3))])
  have n1 : NG M M1 := ng_call rfl e1
  have n2 : NG M1 M2 := ng_call rfl e2
  have g4 : am_rd M1 (-4) 0 = L := (n1 _ _ (by decide)).trans hL
  have g1 : ∀ j, am_rd M1 (-1) j = am_rd M (-1) j := fun j => n1 _ _ (by decide)
  refine ⟨M2, ?_, R, ng_tr n1 n2⟩
  refine (aq_306_11 d 1 447 x3 M).trans ?_
  refine (if_pos (show x3 ≤ am_w32 (am_rd M (-4) 0 - 6) by rw [hL, ax_w32 (by omega) (by omega)]; omega)).trans ?_
  refine (ax_gi x0 (show x3 < am_rd M (-4) 0 by omega)).trans ?_
  refine (if_neg (show ¬ am_and (am_rd M (-1) x3) 63 = 0 by rw [hk]; decide)).trans ?_
  refine (if_neg (show ¬ am_and (am_rd M (-1) x3) 63 = 1 by rw [hk]; decide)).trans ?_
  refine (if_neg (show ¬ am_and (am_rd M (-1) x3) 63 = 2 by rw [hk]; decide)).trans ?_
  refine (if_neg (show ¬ am_and (am_rd M (-1) x3) 63 = 3 by rw [hk]; decide)).trans ?_
  refine (if_neg (show ¬ am_and (am_rd M (-1) x3) 63 = 4 by rw [hk]; decide)).trans ?_
  refine (if_pos hk).trans ?_
  rw [ax_w32 (x := x3 + 1) (by omega) (by omega), ax_w32 (x := x3 + 2) (by omega) (by omega), ax_w32 (x := x3 + 3) (by omega) (by omega), hL, ax_gi (by omega) (by omega), ax_gi (by omega) (by omega), ax_gi (by omega) (by omega)]
  rw [show am_ob 1 10 = true from rfl, ax_gt, e1, Option.bind_some]
  dsimp only []
  simp only [g1]
  rw [g4, ax_gi (by omega) (by omega), ax_gi (by omega) (by omega), ax_gi (by omega) (by omega)]
  rw [show am_ob 447 11 = true from rfl, ax_gt, e2, Option.bind_some]
  dsimp only []
  rw [if_pos rfl, aq_306_1065, ax_w32 (by omega) (by omega), ax_let]
theorem lw_6 (a : RR M) (h : LX M L x3) (hk : am_and (am_rd M (-1) x3) 63 = 6) : LW d M x3 := by
  obtain ⟨hL, ⟨x0, x6, L1⟩, hR⟩ := h
  obtain ⟨r, M1, M2, e1, e2, R⟩ := (op_mislead (d := d) a  : OP d M 242 283 [(0, am_rd M (-1) (x3 + 1)), (0, am_rd M (-1) (x3 + 2)), (0, am_rd M (-1) (x3 + 3))])
  have n1 : NG M M1 := ng_call rfl e1
  have n2 : NG M1 M2 := ng_call rfl e2
  have g4 : am_rd M1 (-4) 0 = L := (n1 _ _ (by decide)).trans hL
  have g1 : ∀ j, am_rd M1 (-1) j = am_rd M (-1) j := fun j => n1 _ _ (by decide)
  refine ⟨M2, ?_, R, ng_tr n1 n2⟩
  refine (aq_306_11 d 1 447 x3 M).trans ?_
  refine (if_pos (show x3 ≤ am_w32 (am_rd M (-4) 0 - 6) by rw [hL, ax_w32 (by omega) (by omega)]; omega)).trans ?_
  refine (ax_gi x0 (show x3 < am_rd M (-4) 0 by omega)).trans ?_
  refine (if_neg (show ¬ am_and (am_rd M (-1) x3) 63 = 0 by rw [hk]; decide)).trans ?_
  refine (if_neg (show ¬ am_and (am_rd M (-1) x3) 63 = 1 by rw [hk]; decide)).trans ?_
  refine (if_neg (show ¬ am_and (am_rd M (-1) x3) 63 = 2 by rw [hk]; decide)).trans ?_
  refine (if_neg (show ¬ am_and (am_rd M (-1) x3) 63 = 3 by rw [hk]; decide)).trans ?_
  refine (if_neg (show ¬ am_and (am_rd M (-1) x3) 63 = 4 by rw [hk]; decide)).trans ?_
  refine (if_neg (show ¬ am_and (am_rd M (-1) x3) 63 = 5 by rw [hk]; decide)).trans ?_
  refine (if_pos hk).trans ?_
  rw [ax_w32 (x := x3 + 1) (by omega) (by omega), ax_w32 (x := x3 + 2) (by omega) (by omega), ax_w32 (x := x3 + 3) (by omega) (by omega), hL, ax_gi (by omega) (by omega), ax_gi (by omega) (by omega), ax_gi (by omega) (by omega)]
  rw [show am_ob 1 10 = true from rfl, ax_gt, e1, Option.bind_some]
  dsimp only []
  simp only [g1]
  rw [g4, ax_gi (by omega) (by omega), ax_gi (by omega) (by omega), ax_gi (by omega) (by omega)]
  rw [show am_ob 447 11 = true from rfl, ax_gt, e2, Option.bind_some]
  dsimp only []
  rw [if_pos rfl, aq_306_1065, ax_w32 (by omega) (by omega), ax_let]
theorem lw_7 (a : RR M) (h : LX M L x3) (hk : am_and (am_rd M (-1) x3) 63 = 7) : LW d M x3 := by
  obtain ⟨hL, ⟨x0, x6, L1⟩, hR⟩ := h
  obtain ⟨r, M1, M2, e1, e2, R⟩ := (op_drink (d := d) a  : OP d M 212 226 [(0, am_rd M (-1) (x3 + 1))])
  have n1 : NG M M1 := ng_call rfl e1
  have n2 : NG M1 M2 := ng_call rfl e2
  have g4 : am_rd M1 (-4) 0 = L := (n1 _ _ (by decide)).trans hL
  have g1 : ∀ j, am_rd M1 (-1) j = am_rd M (-1) j := fun j => n1 _ _ (by decide)
  refine ⟨M2, ?_, R, ng_tr n1 n2⟩
  refine (aq_306_11 d 1 447 x3 M).trans ?_
  refine (if_pos (show x3 ≤ am_w32 (am_rd M (-4) 0 - 6) by rw [hL, ax_w32 (by omega) (by omega)]; omega)).trans ?_
  refine (ax_gi x0 (show x3 < am_rd M (-4) 0 by omega)).trans ?_
  refine (if_neg (show ¬ am_and (am_rd M (-1) x3) 63 = 0 by rw [hk]; decide)).trans ?_
  refine (if_neg (show ¬ am_and (am_rd M (-1) x3) 63 = 1 by rw [hk]; decide)).trans ?_
  refine (if_neg (show ¬ am_and (am_rd M (-1) x3) 63 = 2 by rw [hk]; decide)).trans ?_
  refine (if_neg (show ¬ am_and (am_rd M (-1) x3) 63 = 3 by rw [hk]; decide)).trans ?_
  refine (if_neg (show ¬ am_and (am_rd M (-1) x3) 63 = 4 by rw [hk]; decide)).trans ?_
  refine (if_neg (show ¬ am_and (am_rd M (-1) x3) 63 = 5 by rw [hk]; decide)).trans ?_
  refine (if_neg (show ¬ am_and (am_rd M (-1) x3) 63 = 6 by rw [hk]; decide)).trans ?_
  refine (if_pos hk).trans ?_
  rw [ax_w32 (x := x3 + 1) (by omega) (by omega), hL, ax_gi (by omega) (by omega)]
  rw [show am_ob 1 10 = true from rfl, ax_gt, e1, Option.bind_some]
  dsimp only []
  simp only [g1]
  rw [g4, ax_gi (by omega) (by omega)]
  rw [show am_ob 447 11 = true from rfl, ax_gt, e2, Option.bind_some]
  dsimp only []
  rw [if_pos rfl, aq_306_1065, ax_w32 (by omega) (by omega), ax_let]
theorem lw_8 (a : RR M) (h : LX M L x3) (hk : am_and (am_rd M (-1) x3) 63 = 8) : LW d M x3 := by
  obtain ⟨hL, ⟨x0, x6, L1⟩, hR⟩ := h
  by_cases hb : am_rd M (-1) (x3 + 3) = 0
  · obtain ⟨r, M1, M2, e1, e2, R⟩ := (op_sing (d := d) a  : OP d M 185 227 [(0, am_rd M (-1) (x3 + 1)), (0, am_rd M (-1) (x3 + 2)), (0, 0)])
    have n1 : NG M M1 := ng_call rfl e1
    have n2 : NG M1 M2 := ng_call rfl e2
    have g4 : am_rd M1 (-4) 0 = L := (n1 _ _ (by decide)).trans hL
    have g1 : ∀ j, am_rd M1 (-1) j = am_rd M (-1) j := fun j => n1 _ _ (by decide)
    refine ⟨M2, ?_, R, ng_tr n1 n2⟩
    refine (aq_306_11 d 1 447 x3 M).trans ?_
    refine (if_pos (show x3 ≤ am_w32 (am_rd M (-4) 0 - 6) by rw [hL, ax_w32 (by omega) (by omega)]; omega)).trans ?_
    refine (ax_gi x0 (show x3 < am_rd M (-4) 0 by omega)).trans ?_
    refine (if_neg (show ¬ am_and (am_rd M (-1) x3) 63 = 0 by rw [hk]; decide)).trans ?_
    refine (if_neg (show ¬ am_and (am_rd M (-1) x3) 63 = 1 by rw [hk]; decide)).trans ?_
    refine (if_neg (show ¬ am_and (am_rd M (-1) x3) 63 = 2 by rw [hk]; decide)).trans ?_
    refine (if_neg (show ¬ am_and (am_rd M (-1) x3) 63 = 3 by rw [hk]; decide)).trans ?_
    refine (if_neg (show ¬ am_and (am_rd M (-1) x3) 63 = 4 by rw [hk]; decide)).trans ?_
    refine (if_neg (show ¬ am_and (am_rd M (-1) x3) 63 = 5 by rw [hk]; decide)).trans ?_
    refine (if_neg (show ¬ am_and (am_rd M (-1) x3) 63 = 6 by rw [hk]; decide)).trans ?_
    refine (if_neg (show ¬ am_and (am_rd M (-1) x3) 63 = 7 by rw [hk]; decide)).trans ?_
    refine (if_pos hk).trans ?_
    rw [ax_w32 (x := x3 + 1) (by omega) (by omega), ax_w32 (x := x3 + 2) (by omega) (by omega), ax_w32 (x := x3 + 3) (by omega) (by omega), hL, ax_gi (by omega) (by omega), ax_gi (by omega) (by omega), ax_gi (by omega) (by omega)]
    rw [if_pos hb]
    rw [show am_ob 1 10 = true from rfl, ax_gt, e1, Option.bind_some]
    dsimp only []
    simp only [g1]
    rw [g4, ax_gi (by omega) (by omega), ax_gi (by omega) (by omega), ax_gi (by omega) (by omega)]
    rw [if_pos hb]
    rw [show am_ob 447 11 = true from rfl, ax_gt, e2, Option.bind_some]
    dsimp only []
    rw [if_pos rfl, aq_306_1065, ax_w32 (by omega) (by omega), ax_let]
  · obtain ⟨r, M1, M2, e1, e2, R⟩ := (op_sing (d := d) a  : OP d M 185 227 [(0, am_rd M (-1) (x3 + 1)), (0, am_rd M (-1) (x3 + 2)), (0, 1)])
    have n1 : NG M M1 := ng_call rfl e1
    have n2 : NG M1 M2 := ng_call rfl e2
    have g4 : am_rd M1 (-4) 0 = L := (n1 _ _ (by decide)).trans hL
    have g1 : ∀ j, am_rd M1 (-1) j = am_rd M (-1) j := fun j => n1 _ _ (by decide)
    refine ⟨M2, ?_, R, ng_tr n1 n2⟩
    refine (aq_306_11 d 1 447 x3 M).trans ?_
    refine (if_pos (show x3 ≤ am_w32 (am_rd M (-4) 0 - 6) by rw [hL, ax_w32 (by omega) (by omega)]; omega)).trans ?_
    refine (ax_gi x0 (show x3 < am_rd M (-4) 0 by omega)).trans ?_
    refine (if_neg (show ¬ am_and (am_rd M (-1) x3) 63 = 0 by rw [hk]; decide)).trans ?_
    refine (if_neg (show ¬ am_and (am_rd M (-1) x3) 63 = 1 by rw [hk]; decide)).trans ?_
    refine (if_neg (show ¬ am_and (am_rd M (-1) x3) 63 = 2 by rw [hk]; decide)).trans ?_
    refine (if_neg (show ¬ am_and (am_rd M (-1) x3) 63 = 3 by rw [hk]; decide)).trans ?_
    refine (if_neg (show ¬ am_and (am_rd M (-1) x3) 63 = 4 by rw [hk]; decide)).trans ?_
    refine (if_neg (show ¬ am_and (am_rd M (-1) x3) 63 = 5 by rw [hk]; decide)).trans ?_
    refine (if_neg (show ¬ am_and (am_rd M (-1) x3) 63 = 6 by rw [hk]; decide)).trans ?_
    refine (if_neg (show ¬ am_and (am_rd M (-1) x3) 63 = 7 by rw [hk]; decide)).trans ?_
    refine (if_pos hk).trans ?_
    rw [ax_w32 (x := x3 + 1) (by omega) (by omega), ax_w32 (x := x3 + 2) (by omega) (by omega), ax_w32 (x := x3 + 3) (by omega) (by omega), hL, ax_gi (by omega) (by omega), ax_gi (by omega) (by omega), ax_gi (by omega) (by omega)]
    rw [if_neg hb]
    rw [show am_ob 1 10 = true from rfl, ax_gt, e1, Option.bind_some]
    dsimp only []
    simp only [g1]
    rw [g4, ax_gi (by omega) (by omega), ax_gi (by omega) (by omega), ax_gi (by omega) (by omega)]
    rw [if_neg hb]
    rw [show am_ob 447 11 = true from rfl, ax_gt, e2, Option.bind_some]
    dsimp only []
    rw [if_pos rfl, aq_306_1065, ax_w32 (by omega) (by omega), ax_let]
theorem lw_9 (a : RR M) (h : LX M L x3) (hk : am_and (am_rd M (-1) x3) 63 = 9) : LW d M x3 := by
  obtain ⟨hL, ⟨x0, x6, L1⟩, hR⟩ := h
  obtain ⟨r, M1, M2, e1, e2, R⟩ := (op_tie (d := d) a  : OP d M 186 228 [(0, am_rd M (-1) (x3 + 1)), (0, am_rd M (-1) (x3 + 2))])
  have n1 : NG M M1 := ng_call rfl e1
  have n2 : NG M1 M2 := ng_call rfl e2
  have g4 : am_rd M1 (-4) 0 = L := (n1 _ _ (by decide)).trans hL
  have g1 : ∀ j, am_rd M1 (-1) j = am_rd M (-1) j := fun j => n1 _ _ (by decide)
  refine ⟨M2, ?_, R, ng_tr n1 n2⟩
  refine (aq_306_11 d 1 447 x3 M).trans ?_
  refine (if_pos (show x3 ≤ am_w32 (am_rd M (-4) 0 - 6) by rw [hL, ax_w32 (by omega) (by omega)]; omega)).trans ?_
  refine (ax_gi x0 (show x3 < am_rd M (-4) 0 by omega)).trans ?_
  refine (if_neg (show ¬ am_and (am_rd M (-1) x3) 63 = 0 by rw [hk]; decide)).trans ?_
  refine (if_neg (show ¬ am_and (am_rd M (-1) x3) 63 = 1 by rw [hk]; decide)).trans ?_
  refine (if_neg (show ¬ am_and (am_rd M (-1) x3) 63 = 2 by rw [hk]; decide)).trans ?_
  refine (if_neg (show ¬ am_and (am_rd M (-1) x3) 63 = 3 by rw [hk]; decide)).trans ?_
  refine (if_neg (show ¬ am_and (am_rd M (-1) x3) 63 = 4 by rw [hk]; decide)).trans ?_
  refine (if_neg (show ¬ am_and (am_rd M (-1) x3) 63 = 5 by rw [hk]; decide)).trans ?_
  refine (if_neg (show ¬ am_and (am_rd M (-1) x3) 63 = 6 by rw [hk]; decide)).trans ?_
  refine (if_neg (show ¬ am_and (am_rd M (-1) x3) 63 = 7 by rw [hk]; decide)).trans ?_
  refine (if_neg (show ¬ am_and (am_rd M (-1) x3) 63 = 8 by rw [hk]; decide)).trans ?_
  refine (if_pos hk).trans ?_
  rw [ax_w32 (x := x3 + 1) (by omega) (by omega), ax_w32 (x := x3 + 2) (by omega) (by omega), hL, ax_gi (by omega) (by omega), ax_gi (by omega) (by omega)]
  rw [show am_ob 1 10 = true from rfl, ax_gt, e1, Option.bind_some]
  dsimp only []
  simp only [g1]
  rw [g4, ax_gi (by omega) (by omega), ax_gi (by omega) (by omega)]
  rw [show am_ob 447 11 = true from rfl, ax_gt, e2, Option.bind_some]
  dsimp only []
  rw [if_pos rfl, aq_306_1065, ax_w32 (by omega) (by omega), ax_let]
theorem lw_10 (a : RR M) (h : LX M L x3) (hk : am_and (am_rd M (-1) x3) 63 = 10) : LW d M x3 := by
  obtain ⟨hL, ⟨x0, x6, L1⟩, hR⟩ := h
  obtain ⟨r, M1, M2, e1, e2, R⟩ := (op_smelt (d := d) a  : OP d M 213 229 [(0, am_rd M (-1) (x3 + 1)), (0, am_rd M (-1) (x3 + 2))])
  have n1 : NG M M1 := ng_call rfl e1
  have n2 : NG M1 M2 := ng_call rfl e2
  have g4 : am_rd M1 (-4) 0 = L := (n1 _ _ (by decide)).trans hL
  have g1 : ∀ j, am_rd M1 (-1) j = am_rd M (-1) j := fun j => n1 _ _ (by decide)
  refine ⟨M2, ?_, R, ng_tr n1 n2⟩
  refine (aq_306_11 d 1 447 x3 M).trans ?_
  refine (if_pos (show x3 ≤ am_w32 (am_rd M (-4) 0 - 6) by rw [hL, ax_w32 (by omega) (by omega)]; omega)).trans ?_
  refine (ax_gi x0 (show x3 < am_rd M (-4) 0 by omega)).trans ?_
  refine (if_neg (show ¬ am_and (am_rd M (-1) x3) 63 = 0 by rw [hk]; decide)).trans ?_
  refine (if_neg (show ¬ am_and (am_rd M (-1) x3) 63 = 1 by rw [hk]; decide)).trans ?_
  refine (if_neg (show ¬ am_and (am_rd M (-1) x3) 63 = 2 by rw [hk]; decide)).trans ?_
  refine (if_neg (show ¬ am_and (am_rd M (-1) x3) 63 = 3 by rw [hk]; decide)).trans ?_
  refine (if_neg (show ¬ am_and (am_rd M (-1) x3) 63 = 4 by rw [hk]; decide)).trans ?_
  refine (if_neg (show ¬ am_and (am_rd M (-1) x3) 63 = 5 by rw [hk]; decide)).trans ?_
  refine (if_neg (show ¬ am_and (am_rd M (-1) x3) 63 = 6 by rw [hk]; decide)).trans ?_
  refine (if_neg (show ¬ am_and (am_rd M (-1) x3) 63 = 7 by rw [hk]; decide)).trans ?_
  refine (if_neg (show ¬ am_and (am_rd M (-1) x3) 63 = 8 by rw [hk]; decide)).trans ?_
  refine (if_neg (show ¬ am_and (am_rd M (-1) x3) 63 = 9 by rw [hk]; decide)).trans ?_
  refine (if_pos hk).trans ?_
  rw [ax_w32 (x := x3 + 1) (by omega) (by omega), ax_w32 (x := x3 + 2) (by omega) (by omega), hL, ax_gi (by omega) (by omega), ax_gi (by omega) (by omega)]
  rw [show am_ob 1 10 = true from rfl, ax_gt, e1, Option.bind_some]
  dsimp only []
  simp only [g1]
  rw [g4, ax_gi (by omega) (by omega), ax_gi (by omega) (by omega)]
  rw [show am_ob 447 11 = true from rfl, ax_gt, e2, Option.bind_some]
  dsimp only []
  rw [if_pos rfl, aq_306_1065, ax_w32 (by omega) (by omega), ax_let]
theorem lw_11 (a : RR M) (h : LX M L x3) (hk : am_and (am_rd M (-1) x3) 63 = 11) : LW d M x3 := by
  obtain ⟨hL, ⟨x0, x6, L1⟩, hR⟩ := h
  obtain ⟨r, M1, M2, e1, e2, R⟩ := (op_tried (d := d) a  : OP d M 261 284 [(0, am_rd M (-1) (x3 + 1))])
  have n1 : NG M M1 := ng_call rfl e1
  have n2 : NG M1 M2 := ng_call rfl e2
  have g4 : am_rd M1 (-4) 0 = L := (n1 _ _ (by decide)).trans hL
  have g1 : ∀ j, am_rd M1 (-1) j = am_rd M (-1) j := fun j => n1 _ _ (by decide)
  refine ⟨M2, ?_, R, ng_tr n1 n2⟩
  refine (aq_306_11 d 1 447 x3 M).trans ?_
  refine (if_pos (show x3 ≤ am_w32 (am_rd M (-4) 0 - 6) by rw [hL, ax_w32 (by omega) (by omega)]; omega)).trans ?_
  refine (ax_gi x0 (show x3 < am_rd M (-4) 0 by omega)).trans ?_
  refine (if_neg (show ¬ am_and (am_rd M (-1) x3) 63 = 0 by rw [hk]; decide)).trans ?_
  refine (if_neg (show ¬ am_and (am_rd M (-1) x3) 63 = 1 by rw [hk]; decide)).trans ?_
  refine (if_neg (show ¬ am_and (am_rd M (-1) x3) 63 = 2 by rw [hk]; decide)).trans ?_
  refine (if_neg (show ¬ am_and (am_rd M (-1) x3) 63 = 3 by rw [hk]; decide)).trans ?_
  refine (if_neg (show ¬ am_and (am_rd M (-1) x3) 63 = 4 by rw [hk]; decide)).trans ?_
  refine (if_neg (show ¬ am_and (am_rd M (-1) x3) 63 = 5 by rw [hk]; decide)).trans ?_
  refine (if_neg (show ¬ am_and (am_rd M (-1) x3) 63 = 6 by rw [hk]; decide)).trans ?_
  refine (if_neg (show ¬ am_and (am_rd M (-1) x3) 63 = 7 by rw [hk]; decide)).trans ?_
  refine (if_neg (show ¬ am_and (am_rd M (-1) x3) 63 = 8 by rw [hk]; decide)).trans ?_
  refine (if_neg (show ¬ am_and (am_rd M (-1) x3) 63 = 9 by rw [hk]; decide)).trans ?_
  refine (if_neg (show ¬ am_and (am_rd M (-1) x3) 63 = 10 by rw [hk]; decide)).trans ?_
  refine (if_pos hk).trans ?_
  rw [ax_w32 (x := x3 + 1) (by omega) (by omega), hL, ax_gi (by omega) (by omega)]
  rw [show am_ob 1 10 = true from rfl, ax_gt, e1, Option.bind_some]
  dsimp only []
  simp only [g1]
  rw [g4, ax_gi (by omega) (by omega)]
  rw [show am_ob 447 11 = true from rfl, ax_gt, e2, Option.bind_some]
  dsimp only []
  rw [if_pos rfl, aq_306_1065, ax_w32 (by omega) (by omega), ax_let]
theorem lw_12 (a : RR M) (h : LX M L x3) (hk : am_and (am_rd M (-1) x3) 63 = 12) : LW d M x3 := by
  obtain ⟨hL, ⟨x0, x6, L1⟩, hR⟩ := h
  obtain ⟨r, M1, M2, e1, e2, R⟩ := (op_night (d := d) a (hR _) : OP d M 289 301 [(0, am_rd M (-1) (x3 + 1))])
  have n1 : NG M M1 := ng_call rfl e1
  have n2 : NG M1 M2 := ng_call rfl e2
  have g4 : am_rd M1 (-4) 0 = L := (n1 _ _ (by decide)).trans hL
  have g1 : ∀ j, am_rd M1 (-1) j = am_rd M (-1) j := fun j => n1 _ _ (by decide)
  refine ⟨M2, ?_, R, ng_tr n1 n2⟩
  refine (aq_306_11 d 1 447 x3 M).trans ?_
  refine (if_pos (show x3 ≤ am_w32 (am_rd M (-4) 0 - 6) by rw [hL, ax_w32 (by omega) (by omega)]; omega)).trans ?_
  refine (ax_gi x0 (show x3 < am_rd M (-4) 0 by omega)).trans ?_
  refine (if_neg (show ¬ am_and (am_rd M (-1) x3) 63 = 0 by rw [hk]; decide)).trans ?_
  refine (if_neg (show ¬ am_and (am_rd M (-1) x3) 63 = 1 by rw [hk]; decide)).trans ?_
  refine (if_neg (show ¬ am_and (am_rd M (-1) x3) 63 = 2 by rw [hk]; decide)).trans ?_
  refine (if_neg (show ¬ am_and (am_rd M (-1) x3) 63 = 3 by rw [hk]; decide)).trans ?_
  refine (if_neg (show ¬ am_and (am_rd M (-1) x3) 63 = 4 by rw [hk]; decide)).trans ?_
  refine (if_neg (show ¬ am_and (am_rd M (-1) x3) 63 = 5 by rw [hk]; decide)).trans ?_
  refine (if_neg (show ¬ am_and (am_rd M (-1) x3) 63 = 6 by rw [hk]; decide)).trans ?_
  refine (if_neg (show ¬ am_and (am_rd M (-1) x3) 63 = 7 by rw [hk]; decide)).trans ?_
  refine (if_neg (show ¬ am_and (am_rd M (-1) x3) 63 = 8 by rw [hk]; decide)).trans ?_
  refine (if_neg (show ¬ am_and (am_rd M (-1) x3) 63 = 9 by rw [hk]; decide)).trans ?_
  refine (if_neg (show ¬ am_and (am_rd M (-1) x3) 63 = 10 by rw [hk]; decide)).trans ?_
  refine (if_neg (show ¬ am_and (am_rd M (-1) x3) 63 = 11 by rw [hk]; decide)).trans ?_
  refine (if_pos hk).trans ?_
  rw [ax_w32 (x := x3 + 1) (by omega) (by omega), hL, ax_gi (by omega) (by omega)]
  rw [show am_ob 1 10 = true from rfl, ax_gt, e1, Option.bind_some]
  dsimp only []
  simp only [g1]
  rw [g4, ax_gi (by omega) (by omega)]
  rw [show am_ob 447 11 = true from rfl, ax_gt, e2, Option.bind_some]
  dsimp only []
  rw [if_pos rfl, aq_306_1065, ax_w32 (by omega) (by omega), ax_let]
theorem lw_13 (a : RR M) (h : LX M L x3) (hk : am_and (am_rd M (-1) x3) 63 = 13) : LW d M x3 := by
  obtain ⟨hL, ⟨x0, x6, L1⟩, hR⟩ := h
  obtain ⟨r, M1, M2, e1, e2, R⟩ := (op_winters (d := d) a  : OP d M 290 303 [(0, am_rd M (-1) (x3 + 1)), (0, am_rd M (-1) (x3 + 2))])
  have n1 : NG M M1 := ng_call rfl e1
  have n2 : NG M1 M2 := ng_call rfl e2
  have g4 : am_rd M1 (-4) 0 = L := (n1 _ _ (by decide)).trans hL
  have g1 : ∀ j, am_rd M1 (-1) j = am_rd M (-1) j := fun j => n1 _ _ (by decide)
  refine ⟨M2, ?_, R, ng_tr n1 n2⟩
  refine (aq_306_11 d 1 447 x3 M).trans ?_
  refine (if_pos (show x3 ≤ am_w32 (am_rd M (-4) 0 - 6) by rw [hL, ax_w32 (by omega) (by omega)]; omega)).trans ?_
  refine (ax_gi x0 (show x3 < am_rd M (-4) 0 by omega)).trans ?_
  refine (if_neg (show ¬ am_and (am_rd M (-1) x3) 63 = 0 by rw [hk]; decide)).trans ?_
  refine (if_neg (show ¬ am_and (am_rd M (-1) x3) 63 = 1 by rw [hk]; decide)).trans ?_
  refine (if_neg (show ¬ am_and (am_rd M (-1) x3) 63 = 2 by rw [hk]; decide)).trans ?_
  refine (if_neg (show ¬ am_and (am_rd M (-1) x3) 63 = 3 by rw [hk]; decide)).trans ?_
  refine (if_neg (show ¬ am_and (am_rd M (-1) x3) 63 = 4 by rw [hk]; decide)).trans ?_
  refine (if_neg (show ¬ am_and (am_rd M (-1) x3) 63 = 5 by rw [hk]; decide)).trans ?_
  refine (if_neg (show ¬ am_and (am_rd M (-1) x3) 63 = 6 by rw [hk]; decide)).trans ?_
  refine (if_neg (show ¬ am_and (am_rd M (-1) x3) 63 = 7 by rw [hk]; decide)).trans ?_
  refine (if_neg (show ¬ am_and (am_rd M (-1) x3) 63 = 8 by rw [hk]; decide)).trans ?_
  refine (if_neg (show ¬ am_and (am_rd M (-1) x3) 63 = 9 by rw [hk]; decide)).trans ?_
  refine (if_neg (show ¬ am_and (am_rd M (-1) x3) 63 = 10 by rw [hk]; decide)).trans ?_
  refine (if_neg (show ¬ am_and (am_rd M (-1) x3) 63 = 11 by rw [hk]; decide)).trans ?_
  refine (if_neg (show ¬ am_and (am_rd M (-1) x3) 63 = 12 by rw [hk]; decide)).trans ?_
  refine (if_pos hk).trans ?_
  rw [ax_w32 (x := x3 + 1) (by omega) (by omega), ax_w32 (x := x3 + 2) (by omega) (by omega), hL, ax_gi (by omega) (by omega), ax_gi (by omega) (by omega)]
  rw [show am_ob 1 10 = true from rfl, ax_gt, e1, Option.bind_some]
  dsimp only []
  simp only [g1]
  rw [g4, ax_gi (by omega) (by omega), ax_gi (by omega) (by omega)]
  rw [show am_ob 447 11 = true from rfl, ax_gt, e2, Option.bind_some]
  dsimp only []
  rw [if_pos rfl, aq_306_1065, ax_w32 (by omega) (by omega), ax_let]
end
