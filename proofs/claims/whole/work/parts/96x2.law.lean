/-! the law, call by call -/
section
variable {M : am_M} {d : Nat} {x3 L : Int}
theorem lw_28 (a : RR M) (h : LX M L x3) (hk : am_and (am_rd M (-1) x3) 63 = 28) : LW d M x3 := by
  obtain ⟨hL, ⟨x0, x6, L1⟩, hR⟩ := h
  by_cases hb : am_rd M (-1) (x3 + 2) = 0
  · obtain ⟨r, M1, M2, e1, e2, R⟩ := (op_done (d := d) a  : OP d M 140 199 [(0, am_rd M (-1) (x3 + 1)), (0, 0)])
    have n1 : NG M M1 := ng_call rfl e1
    have n2 : NG M1 M2 := ng_call rfl e2
    have g4 : am_rd M1 (-4) 0 = L := (n1 _ _ (by decide)).trans hL
    have g1 : ∀ j, am_rd M1 (-1) j = am_rd M (-1) j := fun j => n1 _ _ (by decide)
    refine ⟨M2, ?_, R, ng_tr n1 n2⟩
    refine (aq_306_11 d 1 447 x3 M).trans ?_
    refine (if_pos (show x3 ≤ am_w32 (am_rd M (-4) 0 - 6) by rw [hL, ax_w32 (by omega) (by omega)]; omega)).trans ?_
    refine (ax_gi x0 (show x3 < am_rd M (-4) 0 by omega)).trans ?_
    refine (if_neg (show ¬ am_and (am_rd M (-1) x3) 63 = 0 by rw [hk]; decide)).trans ?_
    refine (if_neg (show ¬ am_and (am_rd M (-1) x3) 63 = 1 by rw [hk]; decide)).trans ?_
    refine (if_neg (show ¬ am_and (am_rd M (-1) x3) 63 = 2 by rw [hk]; decide)).trans ?_
    refine (if_neg (show ¬ am_and (am_rd M (-1) x3) 63 = 3 by rw [hk]; decide)).trans ?_
    refine (if_neg (show ¬ am_and (am_rd M (-1) x3) 63 = 4 by rw [hk]; decide)).trans ?_
    refine (if_neg (show ¬ am_and (am_rd M (-1) x3) 63 = 5 by rw [hk]; decide)).trans ?_
    refine (if_neg (show ¬ am_and (am_rd M (-1) x3) 63 = 6 by rw [hk]; decide)).trans ?_
    refine (if_neg (show ¬ am_and (am_rd M (-1) x3) 63 = 7 by rw [hk]; decide)).trans ?_
    refine (if_neg (show ¬ am_and (am_rd M (-1) x3) 63 = 8 by rw [hk]; decide)).trans ?_
    refine (if_neg (show ¬ am_and (am_rd M (-1) x3) 63 = 9 by rw [hk]; decide)).trans ?_
    refine (if_neg (show ¬ am_and (am_rd M (-1) x3) 63 = 10 by rw [hk]; decide)).trans ?_
    refine (if_neg (show ¬ am_and (am_rd M (-1) x3) 63 = 11 by rw [hk]; decide)).trans ?_
    refine (if_neg (show ¬ am_and (am_rd M (-1) x3) 63 = 12 by rw [hk]; decide)).trans ?_
    refine (if_neg (show ¬ am_and (am_rd M (-1) x3) 63 = 13 by rw [hk]; decide)).trans ?_
    refine (if_neg (show ¬ am_and (am_rd M (-1) x3) 63 = 14 by rw [hk]; decide)).trans ?_
    refine (if_neg (show ¬ am_and (am_rd M (-1) x3) 63 = 15 by rw [hk]; decide)).trans ?_
    refine (if_neg (show ¬ am_and (am_rd M (-1) x3) 63 = 16 by rw [hk]; decide)).trans ?_
    refine (if_neg (show ¬ am_and (am_rd M (-1) x3) 63 = 17 by rw [hk]; decide)).trans ?_
    refine (if_neg (show ¬ am_and (am_rd M (-1) x3) 63 = 18 by rw [hk]; decide)).trans ?_
    refine (if_neg (show ¬ am_and (am_rd M (-1) x3) 63 = 19 by rw [hk]; decide)).trans ?_
    refine (if_neg (show ¬ am_and (am_rd M (-1) x3) 63 = 20 by rw [hk]; decide)).trans ?_
    refine (if_neg (show ¬ am_and (am_rd M (-1) x3) 63 = 21 by rw [hk]; decide)).trans ?_
    refine (if_neg (show ¬ am_and (am_rd M (-1) x3) 63 = 22 by rw [hk]; decide)).trans ?_
    refine (if_neg (show ¬ am_and (am_rd M (-1) x3) 63 = 23 by rw [hk]; decide)).trans ?_
    refine (if_neg (show ¬ am_and (am_rd M (-1) x3) 63 = 24 by rw [hk]; decide)).trans ?_
    refine (if_neg (show ¬ am_and (am_rd M (-1) x3) 63 = 25 by rw [hk]; decide)).trans ?_
    refine (if_neg (show ¬ am_and (am_rd M (-1) x3) 63 = 26 by rw [hk]; decide)).trans ?_
    refine (if_neg (show ¬ am_and (am_rd M (-1) x3) 63 = 27 by rw [hk]; decide)).trans ?_
    refine (if_pos hk).trans ?_
    rw [ax_w32 (x := x3 + 1) (by omega) (by omega), ax_w32 (x := x3 + 2) (by omega) (by omega), hL, ax_gi (by omega) (by omega), ax_gi (by omega) (by omega)]
    rw [if_pos hb]
    rw [show am_ob 1 10 = true from rfl, ax_gt, e1, Option.bind_some]
    dsimp only []
    simp only [g1]
    rw [g4, ax_gi (by omega) (by omega), ax_gi (by omega) (by omega)]
    rw [if_pos hb]
    rw [show am_ob 447 11 = true from rfl, ax_gt, e2, Option.bind_some]
    dsimp only []
    rw [if_pos rfl, aq_306_1065, ax_w32 (by omega) (by omega), ax_let]
  · obtain ⟨r, M1, M2, e1, e2, R⟩ := (op_done (d := d) a  : OP d M 140 199 [(0, am_rd M (-1) (x3 + 1)), (0, 1)])
    have n1 : NG M M1 := ng_call rfl e1
    have n2 : NG M1 M2 := ng_call rfl e2
    have g4 : am_rd M1 (-4) 0 = L := (n1 _ _ (by decide)).trans hL
    have g1 : ∀ j, am_rd M1 (-1) j = am_rd M (-1) j := fun j => n1 _ _ (by decide)
    refine ⟨M2, ?_, R, ng_tr n1 n2⟩
    refine (aq_306_11 d 1 447 x3 M).trans ?_
    refine (if_pos (show x3 ≤ am_w32 (am_rd M (-4) 0 - 6) by rw [hL, ax_w32 (by omega) (by omega)]; omega)).trans ?_
    refine (ax_gi x0 (show x3 < am_rd M (-4) 0 by omega)).trans ?_
    refine (if_neg (show ¬ am_and (am_rd M (-1) x3) 63 = 0 by rw [hk]; decide)).trans ?_
    refine (if_neg (show ¬ am_and (am_rd M (-1) x3) 63 = 1 by rw [hk]; decide)).trans ?_
    refine (if_neg (show ¬ am_and (am_rd M (-1) x3) 63 = 2 by rw [hk]; decide)).trans ?_
    refine (if_neg (show ¬ am_and (am_rd M (-1) x3) 63 = 3 by rw [hk]; decide)).trans ?_
    refine (if_neg (show ¬ am_and (am_rd M (-1) x3) 63 = 4 by rw [hk]; decide)).trans ?_
    refine (if_neg (show ¬ am_and (am_rd M (-1) x3) 63 = 5 by rw [hk]; decide)).trans ?_
    refine (if_neg (show ¬ am_and (am_rd M (-1) x3) 63 = 6 by rw [hk]; decide)).trans ?_
    refine (if_neg (show ¬ am_and (am_rd M (-1) x3) 63 = 7 by rw [hk]; decide)).trans ?_
    refine (if_neg (show ¬ am_and (am_rd M (-1) x3) 63 = 8 by rw [hk]; decide)).trans ?_
    refine (if_neg (show ¬ am_and (am_rd M (-1) x3) 63 = 9 by rw [hk]; decide)).trans ?_
    refine (if_neg (show ¬ am_and (am_rd M (-1) x3) 63 = 10 by rw [hk]; decide)).trans ?_
    refine (if_neg (show ¬ am_and (am_rd M (-1) x3) 63 = 11 by rw [hk]; decide)).trans ?_
    refine (if_neg (show ¬ am_and (am_rd M (-1) x3) 63 = 12 by rw [hk]; decide)).trans ?_
    refine (if_neg (show ¬ am_and (am_rd M (-1) x3) 63 = 13 by rw [hk]; decide)).trans ?_
    refine (if_neg (show ¬ am_and (am_rd M (-1) x3) 63 = 14 by rw [hk]; decide)).trans ?_
    refine (if_neg (show ¬ am_and (am_rd M (-1) x3) 63 = 15 by rw [hk]; decide)).trans ?_
    refine (if_neg (show ¬ am_and (am_rd M (-1) x3) 63 = 16 by rw [hk]; decide)).trans ?_
    refine (if_neg (show ¬ am_and (am_rd M (-1) x3) 63 = 17 by rw [hk]; decide)).trans ?_
    refine (if_neg (show ¬ am_and (am_rd M (-1) x3) 63 = 18 by rw [hk]; decide)).trans ?_
    refine (if_neg (show ¬ am_and (am_rd M (-1) x3) 63 = 19 by rw [hk]; decide)).trans ?_
    refine (if_neg (show ¬ am_and (am_rd M (-1) x3) 63 = 20 by rw [hk]; decide)).trans ?_
    refine (if_neg (show ¬ am_and (am_rd M (-1) x3) 63 = 21 by rw [hk]; decide)).trans ?_
    refine (if_neg (show ¬ am_and (am_rd M (-1) x3) 63 = 22 by rw [hk]; decide)).trans ?_
    refine (if_neg (show ¬ am_and (am_rd M (-1) x3) 63 = 23 by rw [hk]; decide)).trans ?_
    refine (if_neg (show ¬ am_and (am_rd M (-1) x3) 63 = 24 by rw [hk]; decide)).trans ?_
    refine (if_neg (show ¬ am_and (am_rd M (-1) x3) 63 = 25 by rw [hk]; decide)).trans ?_
    refine (if_neg (show ¬ am_and (am_rd M (-1) x3) 63 = 26 by rw [hk]; decide)).trans ?_
    refine (if_neg (show ¬ am_and (am_rd M (-1) x3) 63 = 27 by rw [hk]; decide)).trans ?_
    refine (if_pos hk).trans ?_
    rw [ax_w32 (x := x3 + 1) (by omega) (by omega), ax_w32 (x := x3 + 2) (by omega) (by omega), hL, ax_gi (by omega) (by omega), ax_gi (by omega) (by omega)]
    rw [if_neg hb]
    rw [show am_ob 1 10 = true from rfl, ax_gt, e1, Option.bind_some]
    dsimp only []
    simp only [g1]
    rw [g4, ax_gi (by omega) (by omega), ax_gi (by omega) (by omega)]
    rw [if_neg hb]
    rw [show am_ob 447 11 = true from rfl, ax_gt, e2, Option.bind_some]
    dsimp only []
    rw [if_pos rfl, aq_306_1065, ax_w32 (by omega) (by omega), ax_let]
theorem lw_29 (a : RR M) (h : LX M L x3) (hk : am_and (am_rd M (-1) x3) 63 = 29) : LW d M x3 := by
  obtain ⟨hL, ⟨x0, x6, L1⟩, hR⟩ := h
  by_cases hb : am_rd M (-1) (x3 + 1) = 0
  · obtain ⟨r, M1, M2, e1, e2, R⟩ := (op_sets (d := d) a  : OP d M 215 230 [(0, 0), (0, am_rd M (-1) (x3 + 2))])
    have n1 : NG M M1 := ng_call rfl e1
    have n2 : NG M1 M2 := ng_call rfl e2
    have g4 : am_rd M1 (-4) 0 = L := (n1 _ _ (by decide)).trans hL
    have g1 : ∀ j, am_rd M1 (-1) j = am_rd M (-1) j := fun j => n1 _ _ (by decide)
    refine ⟨M2, ?_, R, ng_tr n1 n2⟩
    refine (aq_306_11 d 1 447 x3 M).trans ?_
    refine (if_pos (show x3 ≤ am_w32 (am_rd M (-4) 0 - 6) by rw [hL, ax_w32 (by omega) (by omega)]; omega)).trans ?_
    refine (ax_gi x0 (show x3 < am_rd M (-4) 0 by omega)).trans ?_
    refine (if_neg (show ¬ am_and (am_rd M (-1) x3) 63 = 0 by rw [hk]; decide)).trans ?_
    refine (if_neg (show ¬ am_and (am_rd M (-1) x3) 63 = 1 by rw [hk]; decide)).trans ?_
    refine (if_neg (show ¬ am_and (am_rd M (-1) x3) 63 = 2 by rw [hk]; decide)).trans ?_
    refine (if_neg (show ¬ am_and (am_rd M (-1) x3) 63 = 3 by rw [hk]; decide)).trans ?_
    refine (if_neg (show ¬ am_and (am_rd M (-1) x3) 63 = 4 by rw [hk]; decide)).trans ?_
    refine (if_neg (show ¬ am_and (am_rd M (-1) x3) 63 = 5 by rw [hk]; decide)).trans ?_
    refine (if_neg (show ¬ am_and (am_rd M (-1) x3) 63 = 6 by rw [hk]; decide)).trans ?_
    refine (if_neg (show ¬ am_and (am_rd M (-1) x3) 63 = 7 by rw [hk]; decide)).trans ?_
    refine (if_neg (show ¬ am_and (am_rd M (-1) x3) 63 = 8 by rw [hk]; decide)).trans ?_
    refine (if_neg (show ¬ am_and (am_rd M (-1) x3) 63 = 9 by rw [hk]; decide)).trans ?_
    refine (if_neg (show ¬ am_and (am_rd M (-1) x3) 63 = 10 by rw [hk]; decide)).trans ?_
    refine (if_neg (show ¬ am_and (am_rd M (-1) x3) 63 = 11 by rw [hk]; decide)).trans ?_
    refine (if_neg (show ¬ am_and (am_rd M (-1) x3) 63 = 12 by rw [hk]; decide)).trans ?_
    refine (if_neg (show ¬ am_and (am_rd M (-1) x3) 63 = 13 by rw [hk]; decide)).trans ?_
    refine (if_neg (show ¬ am_and (am_rd M (-1) x3) 63 = 14 by rw [hk]; decide)).trans ?_
    refine (if_neg (show ¬ am_and (am_rd M (-1) x3) 63 = 15 by rw [hk]; decide)).trans ?_
    refine (if_neg (show ¬ am_and (am_rd M (-1) x3) 63 = 16 by rw [hk]; decide)).trans ?_
    refine (if_neg (show ¬ am_and (am_rd M (-1) x3) 63 = 17 by rw [hk]; decide)).trans ?_
    refine (if_neg (show ¬ am_and (am_rd M (-1) x3) 63 = 18 by rw [hk]; decide)).trans ?_
    refine (if_neg (show ¬ am_and (am_rd M (-1) x3) 63 = 19 by rw [hk]; decide)).trans ?_
    refine (if_neg (show ¬ am_and (am_rd M (-1) x3) 63 = 20 by rw [hk]; decide)).trans ?_
    refine (if_neg (show ¬ am_and (am_rd M (-1) x3) 63 = 21 by rw [hk]; decide)).trans ?_
    refine (if_neg (show ¬ am_and (am_rd M (-1) x3) 63 = 22 by rw [hk]; decide)).trans ?_
    refine (if_neg (show ¬ am_and (am_rd M (-1) x3) 63 = 23 by rw [hk]; decide)).trans ?_
    refine (if_neg (show ¬ am_and (am_rd M (-1) x3) 63 = 24 by rw [hk]; decide)).trans ?_
    refine (if_neg (show ¬ am_and (am_rd M (-1) x3) 63 = 25 by rw [hk]; decide)).trans ?_
    refine (if_neg (show ¬ am_and (am_rd M (-1) x3) 63 = 26 by rw [hk]; decide)).trans ?_
    refine (if_neg (show ¬ am_and (am_rd M (-1) x3) 63 = 27 by rw [hk]; decide)).trans ?_
    refine (if_neg (show ¬ am_and (am_rd M (-1) x3) 63 = 28 by rw [hk]; decide)).trans ?_
    refine (if_pos hk).trans ?_
    rw [ax_w32 (x := x3 + 1) (by omega) (by omega), ax_w32 (x := x3 + 2) (by omega) (by omega), hL, ax_gi (by omega) (by omega), ax_gi (by omega) (by omega)]
    rw [if_pos hb]
    rw [show am_ob 1 10 = true from rfl, ax_gt, e1, Option.bind_some]
    dsimp only []
    simp only [g1]
    rw [g4, ax_gi (by omega) (by omega), ax_gi (by omega) (by omega)]
    rw [if_pos hb]
    rw [show am_ob 447 11 = true from rfl, ax_gt, e2, Option.bind_some]
    dsimp only []
    rw [if_pos rfl, aq_306_1065, ax_w32 (by omega) (by omega), ax_let]
    try rw [ax_gi (by omega) (by omega)]
  · obtain ⟨r, M1, M2, e1, e2, R⟩ := (op_sets (d := d) a  : OP d M 215 230 [(0, 1), (0, am_rd M (-1) (x3 + 2))])
    have n1 : NG M M1 := ng_call rfl e1
    have n2 : NG M1 M2 := ng_call rfl e2
    have g4 : am_rd M1 (-4) 0 = L := (n1 _ _ (by decide)).trans hL
    have g1 : ∀ j, am_rd M1 (-1) j = am_rd M (-1) j := fun j => n1 _ _ (by decide)
    refine ⟨M2, ?_, R, ng_tr n1 n2⟩
    refine (aq_306_11 d 1 447 x3 M).trans ?_
    refine (if_pos (show x3 ≤ am_w32 (am_rd M (-4) 0 - 6) by rw [hL, ax_w32 (by omega) (by omega)]; omega)).trans ?_
    refine (ax_gi x0 (show x3 < am_rd M (-4) 0 by omega)).trans ?_
    refine (if_neg (show ¬ am_and (am_rd M (-1) x3) 63 = 0 by rw [hk]; decide)).trans ?_
    refine (if_neg (show ¬ am_and (am_rd M (-1) x3) 63 = 1 by rw [hk]; decide)).trans ?_
    refine (if_neg (show ¬ am_and (am_rd M (-1) x3) 63 = 2 by rw [hk]; decide)).trans ?_
    refine (if_neg (show ¬ am_and (am_rd M (-1) x3) 63 = 3 by rw [hk]; decide)).trans ?_
    refine (if_neg (show ¬ am_and (am_rd M (-1) x3) 63 = 4 by rw [hk]; decide)).trans ?_
    refine (if_neg (show ¬ am_and (am_rd M (-1) x3) 63 = 5 by rw [hk]; decide)).trans ?_
    refine (if_neg (show ¬ am_and (am_rd M (-1) x3) 63 = 6 by rw [hk]; decide)).trans ?_
    refine (if_neg (show ¬ am_and (am_rd M (-1) x3) 63 = 7 by rw [hk]; decide)).trans ?_
    refine (if_neg (show ¬ am_and (am_rd M (-1) x3) 63 = 8 by rw [hk]; decide)).trans ?_
    refine (if_neg (show ¬ am_and (am_rd M (-1) x3) 63 = 9 by rw [hk]; decide)).trans ?_
    refine (if_neg (show ¬ am_and (am_rd M (-1) x3) 63 = 10 by rw [hk]; decide)).trans ?_
    refine (if_neg (show ¬ am_and (am_rd M (-1) x3) 63 = 11 by rw [hk]; decide)).trans ?_
    refine (if_neg (show ¬ am_and (am_rd M (-1) x3) 63 = 12 by rw [hk]; decide)).trans ?_
    refine (if_neg (show ¬ am_and (am_rd M (-1) x3) 63 = 13 by rw [hk]; decide)).trans ?_
    refine (if_neg (show ¬ am_and (am_rd M (-1) x3) 63 = 14 by rw [hk]; decide)).trans ?_
    refine (if_neg (show ¬ am_and (am_rd M (-1) x3) 63 = 15 by rw [hk]; decide)).trans ?_
    refine (if_neg (show ¬ am_and (am_rd M (-1) x3) 63 = 16 by rw [hk]; decide)).trans ?_
    refine (if_neg (show ¬ am_and (am_rd M (-1) x3) 63 = 17 by rw [hk]; decide)).trans ?_
    refine (if_neg (show ¬ am_and (am_rd M (-1) x3) 63 = 18 by rw [hk]; decide)).trans ?_
    refine (if_neg (show ¬ am_and (am_rd M (-1) x3) 63 = 19 by rw [hk]; decide)).trans ?_
    refine (if_neg (show ¬ am_and (am_rd M (-1) x3) 63 = 20 by rw [hk]; decide)).trans ?_
    refine (if_neg (show ¬ am_and (am_rd M (-1) x3) 63 = 21 by rw [hk]; decide)).trans ?_
    refine (if_neg (show ¬ am_and (am_rd M (-1) x3) 63 = 22 by rw [hk]; decide)).trans ?_
    refine (if_neg (show ¬ am_and (am_rd M (-1) x3) 63 = 23 by rw [hk]; decide)).trans ?_
    refine (if_neg (show ¬ am_and (am_rd M (-1) x3) 63 = 24 by rw [hk]; decide)).trans ?_
    refine (if_neg (show ¬ am_and (am_rd M (-1) x3) 63 = 25 by rw [hk]; decide)).trans ?_
    refine (if_neg (show ¬ am_and (am_rd M (-1) x3) 63 = 26 by rw [hk]; decide)).trans ?_
    refine (if_neg (show ¬ am_and (am_rd M (-1) x3) 63 = 27 by rw [hk]; decide)).trans ?_
    refine (if_neg (show ¬ am_and (am_rd M (-1) x3) 63 = 28 by rw [hk]; decide)).trans ?_
    refine (if_pos hk).trans ?_
    rw [ax_w32 (x := x3 + 1) (by omega) (by omega), ax_w32 (x := x3 + 2) (by omega) (by omega), hL, ax_gi (by omega) (by omega), ax_gi (by omega) (by omega)]
    rw [if_neg hb]
    rw [show am_ob 1 10 = true from rfl, ax_gt, e1, Option.bind_some]
    dsimp only []
    simp only [g1]
    rw [g4, ax_gi (by omega) (by omega), ax_gi (by omega) (by omega)]
    rw [if_neg hb]
    rw [show am_ob 447 11 = true from rfl, ax_gt, e2, Option.bind_some]
    dsimp only []
    rw [if_pos rfl, aq_306_1065, ax_w32 (by omega) (by omega), ax_let]
    try rw [ax_gi (by omega) (by omega)]
theorem lw_30 (a : RR M) (h : LX M L x3) (hk : am_and (am_rd M (-1) x3) 63 = 30) : LW d M x3 := by
  obtain ⟨hL, ⟨x0, x6, L1⟩, hR⟩ := h
  by_cases hb : am_rd M (-1) (x3 + 4) = 0
  · obtain ⟨r, M1, M2, e1, e2, R⟩ := (op_shammed (d := d) a  : OP d M 263 269 [(0, am_rd M (-1) (x3 + 1)), (0, am_rd M (-1) (x3 + 2)), (0, am_rd M (-1) (x3 + 3)), (0, 0)])
    have n1 : NG M M1 := ng_call rfl e1
    have n2 : NG M1 M2 := ng_call rfl e2
    have g4 : am_rd M1 (-4) 0 = L := (n1 _ _ (by decide)).trans hL
    have g1 : ∀ j, am_rd M1 (-1) j = am_rd M (-1) j := fun j => n1 _ _ (by decide)
    refine ⟨M2, ?_, R, ng_tr n1 n2⟩
    refine (aq_306_11 d 1 447 x3 M).trans ?_
    refine (if_pos (show x3 ≤ am_w32 (am_rd M (-4) 0 - 6) by rw [hL, ax_w32 (by omega) (by omega)]; omega)).trans ?_
    refine (ax_gi x0 (show x3 < am_rd M (-4) 0 by omega)).trans ?_
    refine (if_neg (show ¬ am_and (am_rd M (-1) x3) 63 = 0 by rw [hk]; decide)).trans ?_
    refine (if_neg (show ¬ am_and (am_rd M (-1) x3) 63 = 1 by rw [hk]; decide)).trans ?_
    refine (if_neg (show ¬ am_and (am_rd M (-1) x3) 63 = 2 by rw [hk]; decide)).trans ?_
    refine (if_neg (show ¬ am_and (am_rd M (-1) x3) 63 = 3 by rw [hk]; decide)).trans ?_
    refine (if_neg (show ¬ am_and (am_rd M (-1) x3) 63 = 4 by rw [hk]; decide)).trans ?_
    refine (if_neg (show ¬ am_and (am_rd M (-1) x3) 63 = 5 by rw [hk]; decide)).trans ?_
    refine (if_neg (show ¬ am_and (am_rd M (-1) x3) 63 = 6 by rw [hk]; decide)).trans ?_
    refine (if_neg (show ¬ am_and (am_rd M (-1) x3) 63 = 7 by rw [hk]; decide)).trans ?_
    refine (if_neg (show ¬ am_and (am_rd M (-1) x3) 63 = 8 by rw [hk]; decide)).trans ?_
    refine (if_neg (show ¬ am_and (am_rd M (-1) x3) 63 = 9 by rw [hk]; decide)).trans ?_
    refine (if_neg (show ¬ am_and (am_rd M (-1) x3) 63 = 10 by rw [hk]; decide)).trans ?_
    refine (if_neg (show ¬ am_and (am_rd M (-1) x3) 63 = 11 by rw [hk]; decide)).trans ?_
    refine (if_neg (show ¬ am_and (am_rd M (-1) x3) 63 = 12 by rw [hk]; decide)).trans ?_
    refine (if_neg (show ¬ am_and (am_rd M (-1) x3) 63 = 13 by rw [hk]; decide)).trans ?_
    refine (if_neg (show ¬ am_and (am_rd M (-1) x3) 63 = 14 by rw [hk]; decide)).trans ?_
    refine (if_neg (show ¬ am_and (am_rd M (-1) x3) 63 = 15 by rw [hk]; decide)).trans ?_
    refine (if_neg (show ¬ am_and (am_rd M (-1) x3) 63 = 16 by rw [hk]; decide)).trans ?_
    refine (if_neg (show ¬ am_and (am_rd M (-1) x3) 63 = 17 by rw [hk]; decide)).trans ?_
    refine (if_neg (show ¬ am_and (am_rd M (-1) x3) 63 = 18 by rw [hk]; decide)).trans ?_
    refine (if_neg (show ¬ am_and (am_rd M (-1) x3) 63 = 19 by rw [hk]; decide)).trans ?_
    refine (if_neg (show ¬ am_and (am_rd M (-1) x3) 63 = 20 by rw [hk]; decide)).trans ?_
    refine (if_neg (show ¬ am_and (am_rd M (-1) x3) 63 = 21 by rw [hk]; decide)).trans ?_
    refine (if_neg (show ¬ am_and (am_rd M (-1) x3) 63 = 22 by rw [hk]; decide)).trans ?_
    refine (if_neg (show ¬ am_and (am_rd M (-1) x3) 63 = 23 by rw [hk]; decide)).trans ?_
    refine (if_neg (show ¬ am_and (am_rd M (-1) x3) 63 = 24 by rw [hk]; decide)).trans ?_
    refine (if_neg (show ¬ am_and (am_rd M (-1) x3) 63 = 25 by rw [hk]; decide)).trans ?_
    refine (if_neg (show ¬ am_and (am_rd M (-1) x3) 63 = 26 by rw [hk]; decide)).trans ?_
    refine (if_neg (show ¬ am_and (am_rd M (-1) x3) 63 = 27 by rw [hk]; decide)).trans ?_
    refine (if_neg (show ¬ am_and (am_rd M (-1) x3) 63 = 28 by rw [hk]; decide)).trans ?_
    refine (if_neg (show ¬ am_and (am_rd M (-1) x3) 63 = 29 by rw [hk]; decide)).trans ?_
    refine (if_pos hk).trans ?_
    rw [ax_w32 (x := x3 + 1) (by omega) (by omega), ax_w32 (x := x3 + 2) (by omega) (by omega), ax_w32 (x := x3 + 3) (by omega) (by omega), ax_w32 (x := x3 + 4) (by omega) (by omega), hL, ax_gi (by omega) (by omega), ax_gi (by omega) (by omega), ax_gi (by omega) (by omega), ax_gi (by omega) (by omega)]
    rw [if_pos hb]
    rw [show am_ob 1 10 = true from rfl, ax_gt, e1, Option.bind_some]
    dsimp only []
    simp only [g1]
    rw [g4, ax_gi (by omega) (by omega), ax_gi (by omega) (by omega), ax_gi (by omega) (by omega), ax_gi (by omega) (by omega)]
    rw [if_pos hb]
    rw [show am_ob 447 11 = true from rfl, ax_gt, e2, Option.bind_some]
    dsimp only []
    rw [if_pos (by rw [ax_ce]), aq_306_1065, ax_w32 (by omega) (by omega), ax_let]
  · obtain ⟨r, M1, M2, e1, e2, R⟩ := (op_shammed (d := d) a  : OP d M 263 269 [(0, am_rd M (-1) (x3 + 1)), (0, am_rd M (-1) (x3 + 2)), (0, am_rd M (-1) (x3 + 3)), (0, 1)])
    have n1 : NG M M1 := ng_call rfl e1
    have n2 : NG M1 M2 := ng_call rfl e2
    have g4 : am_rd M1 (-4) 0 = L := (n1 _ _ (by decide)).trans hL
    have g1 : ∀ j, am_rd M1 (-1) j = am_rd M (-1) j := fun j => n1 _ _ (by decide)
    refine ⟨M2, ?_, R, ng_tr n1 n2⟩
    refine (aq_306_11 d 1 447 x3 M).trans ?_
    refine (if_pos (show x3 ≤ am_w32 (am_rd M (-4) 0 - 6) by rw [hL, ax_w32 (by omega) (by omega)]; omega)).trans ?_
    refine (ax_gi x0 (show x3 < am_rd M (-4) 0 by omega)).trans ?_
    refine (if_neg (show ¬ am_and (am_rd M (-1) x3) 63 = 0 by rw [hk]; decide)).trans ?_
    refine (if_neg (show ¬ am_and (am_rd M (-1) x3) 63 = 1 by rw [hk]; decide)).trans ?_
    refine (if_neg (show ¬ am_and (am_rd M (-1) x3) 63 = 2 by rw [hk]; decide)).trans ?_
    refine (if_neg (show ¬ am_and (am_rd M (-1) x3) 63 = 3 by rw [hk]; decide)).trans ?_
    refine (if_neg (show ¬ am_and (am_rd M (-1) x3) 63 = 4 by rw [hk]; decide)).trans ?_
    refine (if_neg (show ¬ am_and (am_rd M (-1) x3) 63 = 5 by rw [hk]; decide)).trans ?_
    refine (if_neg (show ¬ am_and (am_rd M (-1) x3) 63 = 6 by rw [hk]; decide)).trans ?_
    refine (if_neg (show ¬ am_and (am_rd M (-1) x3) 63 = 7 by rw [hk]; decide)).trans ?_
    refine (if_neg (show ¬ am_and (am_rd M (-1) x3) 63 = 8 by rw [hk]; decide)).trans ?_
    refine (if_neg (show ¬ am_and (am_rd M (-1) x3) 63 = 9 by rw [hk]; decide)).trans ?_
    refine (if_neg (show ¬ am_and (am_rd M (-1) x3) 63 = 10 by rw [hk]; decide)).trans ?_
    refine (if_neg (show ¬ am_and (am_rd M (-1) x3) 63 = 11 by rw [hk]; decide)).trans ?_
    refine (if_neg (show ¬ am_and (am_rd M (-1) x3) 63 = 12 by rw [hk]; decide)).trans ?_
    refine (if_neg (show ¬ am_and (am_rd M (-1) x3) 63 = 13 by rw [hk]; decide)).trans ?_
    refine (if_neg (show ¬ am_and (am_rd M (-1) x3) 63 = 14 by rw [hk]; decide)).trans ?_
    refine (if_neg (show ¬ am_and (am_rd M (-1) x3) 63 = 15 by rw [hk]; decide)).trans ?_
    refine (if_neg (show ¬ am_and (am_rd M (-1) x3) 63 = 16 by rw [hk]; decide)).trans ?_
    refine (if_neg (show ¬ am_and (am_rd M (-1) x3) 63 = 17 by rw [hk]; decide)).trans ?_
    refine (if_neg (show ¬ am_and (am_rd M (-1) x3) 63 = 18 by rw [hk]; decide)).trans ?_
    refine (if_neg (show ¬ am_and (am_rd M (-1) x3) 63 = 19 by rw [hk]; decide)).trans ?_
    refine (if_neg (show ¬ am_and (am_rd M (-1) x3) 63 = 20 by rw [hk]; decide)).trans ?_
    refine (if_neg (show ¬ am_and (am_rd M (-1) x3) 63 = 21 by rw [hk]; decide)).trans ?_
    refine (if_neg (show ¬ am_and (am_rd M (-1) x3) 63 = 22 by rw [hk]; decide)).trans ?_
    refine (if_neg (show ¬ am_and (am_rd M (-1) x3) 63 = 23 by rw [hk]; decide)).trans ?_
    refine (if_neg (show ¬ am_and (am_rd M (-1) x3) 63 = 24 by rw [hk]; decide)).trans ?_
    refine (if_neg (show ¬ am_and (am_rd M (-1) x3) 63 = 25 by rw [hk]; decide)).trans ?_
    refine (if_neg (show ¬ am_and (am_rd M (-1) x3) 63 = 26 by rw [hk]; decide)).trans ?_
    refine (if_neg (show ¬ am_and (am_rd M (-1) x3) 63 = 27 by rw [hk]; decide)).trans ?_
    refine (if_neg (show ¬ am_and (am_rd M (-1) x3) 63 = 28 by rw [hk]; decide)).trans ?_
    refine (if_neg (show ¬ am_and (am_rd M (-1) x3) 63 = 29 by rw [hk]; decide)).trans ?_
    refine (if_pos hk).trans ?_
    rw [ax_w32 (x := x3 + 1) (by omega) (by omega), ax_w32 (x := x3 + 2) (by omega) (by omega), ax_w32 (x := x3 + 3) (by omega) (by omega), ax_w32 (x := x3 + 4) (by omega) (by omega), hL, ax_gi (by omega) (by omega), ax_gi (by omega) (by omega), ax_gi (by omega) (by omega), ax_gi (by omega) (by omega)]
    rw [if_neg hb]
    rw [show am_ob 1 10 = true from rfl, ax_gt, e1, Option.bind_some]
    dsimp only []
    simp only [g1]
    rw [g4, ax_gi (by omega) (by omega), ax_gi (by omega) (by omega), ax_gi (by omega) (by omega), ax_gi (by omega) (by omega)]
    rw [if_neg hb]
    rw [show am_ob 447 11 = true from rfl, ax_gt, e2, Option.bind_some]
    dsimp only []
    rw [if_pos (by rw [ax_ce]), aq_306_1065, ax_w32 (by omega) (by omega), ax_let]
theorem lw_31 (a : RR M) (h : LX M L x3) (hk : am_and (am_rd M (-1) x3) 63 = 31) : LW d M x3 := by
  obtain ⟨hL, ⟨x0, x6, L1⟩, hR⟩ := h
  obtain ⟨r, M1, M2, e1, e2, R⟩ := (op_halves (d := d) a  : OP d M 244 270 [(0, am_rd M (-1) (x3 + 1)), (0, am_rd M (-1) (x3 + 2)), (0, am_rd M (-1) (x3 + 3))])
  have n1 : NG M M1 := ng_call rfl e1
  have n2 : NG M1 M2 := ng_call rfl e2
  have g4 : am_rd M1 (-4) 0 = L := (n1 _ _ (by decide)).trans hL
  have g1 : ∀ j, am_rd M1 (-1) j = am_rd M (-1) j := fun j => n1 _ _ (by decide)
  refine ⟨M2, ?_, R, ng_tr n1 n2⟩
  refine (aq_306_11 d 1 447 x3 M).trans ?_
  refine (if_pos (show x3 ≤ am_w32 (am_rd M (-4) 0 - 6) by rw [hL, ax_w32 (by omega) (by omega)]; omega)).trans ?_
  refine (ax_gi x0 (show x3 < am_rd M (-4) 0 by omega)).trans ?_
  refine (if_neg (show ¬ am_and (am_rd M (-1) x3) 63 = 0 by rw [hk]; decide)).trans ?_
  refine (if_neg (show ¬ am_and (am_rd M (-1) x3) 63 = 1 by rw [hk]; decide)).trans ?_
  refine (if_neg (show ¬ am_and (am_rd M (-1) x3) 63 = 2 by rw [hk]; decide)).trans ?_
  refine (if_neg (show ¬ am_and (am_rd M (-1) x3) 63 = 3 by rw [hk]; decide)).trans ?_
  refine (if_neg (show ¬ am_and (am_rd M (-1) x3) 63 = 4 by rw [hk]; decide)).trans ?_
  refine (if_neg (show ¬ am_and (am_rd M (-1) x3) 63 = 5 by rw [hk]; decide)).trans ?_
  refine (if_neg (show ¬ am_and (am_rd M (-1) x3) 63 = 6 by rw [hk]; decide)).trans ?_
  refine (if_neg (show ¬ am_and (am_rd M (-1) x3) 63 = 7 by rw [hk]; decide)).trans ?_
  refine (if_neg (show ¬ am_and (am_rd M (-1) x3) 63 = 8 by rw [hk]; decide)).trans ?_
  refine (if_neg (show ¬ am_and (am_rd M (-1) x3) 63 = 9 by rw [hk]; decide)).trans ?_
  refine (if_neg (show ¬ am_and (am_rd M (-1) x3) 63 = 10 by rw [hk]; decide)).trans ?_
  refine (if_neg (show ¬ am_and (am_rd M (-1) x3) 63 = 11 by rw [hk]; decide)).trans ?_
  refine (if_neg (show ¬ am_and (am_rd M (-1) x3) 63 = 12 by rw [hk]; decide)).trans ?_
  refine (if_neg (show ¬ am_and (am_rd M (-1) x3) 63 = 13 by rw [hk]; decide)).trans ?_
  refine (if_neg (show ¬ am_and (am_rd M (-1) x3) 63 = 14 by rw [hk]; decide)).trans ?_
  refine (if_neg (show ¬ am_and (am_rd M (-1) x3) 63 = 15 by rw [hk]; decide)).trans ?_
  refine (if_neg (show ¬ am_and (am_rd M (-1) x3) 63 = 16 by rw [hk]; decide)).trans ?_
  refine (if_neg (show ¬ am_and (am_rd M (-1) x3) 63 = 17 by rw [hk]; decide)).trans ?_
  refine (if_neg (show ¬ am_and (am_rd M (-1) x3) 63 = 18 by rw [hk]; decide)).trans ?_
  refine (if_neg (show ¬ am_and (am_rd M (-1) x3) 63 = 19 by rw [hk]; decide)).trans ?_
  refine (if_neg (show ¬ am_and (am_rd M (-1) x3) 63 = 20 by rw [hk]; decide)).trans ?_
  refine (if_neg (show ¬ am_and (am_rd M (-1) x3) 63 = 21 by rw [hk]; decide)).trans ?_
  refine (if_neg (show ¬ am_and (am_rd M (-1) x3) 63 = 22 by rw [hk]; decide)).trans ?_
  refine (if_neg (show ¬ am_and (am_rd M (-1) x3) 63 = 23 by rw [hk]; decide)).trans ?_
  refine (if_neg (show ¬ am_and (am_rd M (-1) x3) 63 = 24 by rw [hk]; decide)).trans ?_
  refine (if_neg (show ¬ am_and (am_rd M (-1) x3) 63 = 25 by rw [hk]; decide)).trans ?_
  refine (if_neg (show ¬ am_and (am_rd M (-1) x3) 63 = 26 by rw [hk]; decide)).trans ?_
  refine (if_neg (show ¬ am_and (am_rd M (-1) x3) 63 = 27 by rw [hk]; decide)).trans ?_
  refine (if_neg (show ¬ am_and (am_rd M (-1) x3) 63 = 28 by rw [hk]; decide)).trans ?_
  refine (if_neg (show ¬ am_and (am_rd M (-1) x3) 63 = 29 by rw [hk]; decide)).trans ?_
  refine (if_neg (show ¬ am_and (am_rd M (-1) x3) 63 = 30 by rw [hk]; decide)).trans ?_
  refine (if_pos hk).trans ?_
  rw [ax_w32 (x := x3 + 1) (by omega) (by omega), ax_w32 (x := x3 + 2) (by omega) (by omega), ax_w32 (x := x3 + 3) (by omega) (by omega), hL, ax_gi (by omega) (by omega), ax_gi (by omega) (by omega), ax_gi (by omega) (by omega)]
  rw [show am_ob 1 10 = true from rfl, ax_gt, e1, Option.bind_some]
  dsimp only []
  simp only [g1]
  rw [g4, ax_gi (by omega) (by omega), ax_gi (by omega) (by omega), ax_gi (by omega) (by omega)]
  rw [show am_ob 447 11 = true from rfl, ax_gt, e2, Option.bind_some]
  dsimp only []
  rw [if_pos rfl, aq_306_1065, ax_w32 (by omega) (by omega), ax_let]
theorem lw_32 (a : RR M) (h : LX M L x3) (hk : am_and (am_rd M (-1) x3) 63 = 32) : LW d M x3 := by
  obtain ⟨hL, ⟨x0, x6, L1⟩, hR⟩ := h
  obtain ⟨r, M1, M2, e1, e2, R⟩ := (op_back (d := d) a (hR _) : OP d M 141 231 [(0, am_rd M (-1) (x3 + 1))])
  have n1 : NG M M1 := ng_call rfl e1
  have n2 : NG M1 M2 := ng_call rfl e2
  have g4 : am_rd M1 (-4) 0 = L := (n1 _ _ (by decide)).trans hL
  have g1 : ∀ j, am_rd M1 (-1) j = am_rd M (-1) j := fun j => n1 _ _ (by decide)
  refine ⟨M2, ?_, R, ng_tr n1 n2⟩
  refine (aq_306_11 d 1 447 x3 M).trans ?_
  refine (if_pos (show x3 ≤ am_w32 (am_rd M (-4) 0 - 6) by rw [hL, ax_w32 (by omega) (by omega)]; omega)).trans ?_
  refine (ax_gi x0 (show x3 < am_rd M (-4) 0 by omega)).trans ?_
  refine (if_neg (show ¬ am_and (am_rd M (-1) x3) 63 = 0 by rw [hk]; decide)).trans ?_
  refine (if_neg (show ¬ am_and (am_rd M (-1) x3) 63 = 1 by rw [hk]; decide)).trans ?_
  refine (if_neg (show ¬ am_and (am_rd M (-1) x3) 63 = 2 by rw [hk]; decide)).trans ?_
  refine (if_neg (show ¬ am_and (am_rd M (-1) x3) 63 = 3 by rw [hk]; decide)).trans ?_
  refine (if_neg (show ¬ am_and (am_rd M (-1) x3) 63 = 4 by rw [hk]; decide)).trans ?_
  refine (if_neg (show ¬ am_and (am_rd M (-1) x3) 63 = 5 by rw [hk]; decide)).trans ?_
  refine (if_neg (show ¬ am_and (am_rd M (-1) x3) 63 = 6 by rw [hk]; decide)).trans ?_
  refine (if_neg (show ¬ am_and (am_rd M (-1) x3) 63 = 7 by rw [hk]; decide)).trans ?_
  refine (if_neg (show ¬ am_and (am_rd M (-1) x3) 63 = 8 by rw [hk]; decide)).trans ?_
  refine (if_neg (show ¬ am_and (am_rd M (-1) x3) 63 = 9 by rw [hk]; decide)).trans ?_
  refine (if_neg (show ¬ am_and (am_rd M (-1) x3) 63 = 10 by rw [hk]; decide)).trans ?_
  refine (if_neg (show ¬ am_and (am_rd M (-1) x3) 63 = 11 by rw [hk]; decide)).trans ?_
  refine (if_neg (show ¬ am_and (am_rd M (-1) x3) 63 = 12 by rw [hk]; decide)).trans ?_
  refine (if_neg (show ¬ am_and (am_rd M (-1) x3) 63 = 13 by rw [hk]; decide)).trans ?_
  refine (if_neg (show ¬ am_and (am_rd M (-1) x3) 63 = 14 by rw [hk]; decide)).trans ?_
  refine (if_neg (show ¬ am_and (am_rd M (-1) x3) 63 = 15 by rw [hk]; decide)).trans ?_
  refine (if_neg (show ¬ am_and (am_rd M (-1) x3) 63 = 16 by rw [hk]; decide)).trans ?_
  refine (if_neg (show ¬ am_and (am_rd M (-1) x3) 63 = 17 by rw [hk]; decide)).trans ?_
  refine (if_neg (show ¬ am_and (am_rd M (-1) x3) 63 = 18 by rw [hk]; decide)).trans ?_
  refine (if_neg (show ¬ am_and (am_rd M (-1) x3) 63 = 19 by rw [hk]; decide)).trans ?_
  refine (if_neg (show ¬ am_and (am_rd M (-1) x3) 63 = 20 by rw [hk]; decide)).trans ?_
  refine (if_neg (show ¬ am_and (am_rd M (-1) x3) 63 = 21 by rw [hk]; decide)).trans ?_
  refine (if_neg (show ¬ am_and (am_rd M (-1) x3) 63 = 22 by rw [hk]; decide)).trans ?_
  refine (if_neg (show ¬ am_and (am_rd M (-1) x3) 63 = 23 by rw [hk]; decide)).trans ?_
  refine (if_neg (show ¬ am_and (am_rd M (-1) x3) 63 = 24 by rw [hk]; decide)).trans ?_
  refine (if_neg (show ¬ am_and (am_rd M (-1) x3) 63 = 25 by rw [hk]; decide)).trans ?_
  refine (if_neg (show ¬ am_and (am_rd M (-1) x3) 63 = 26 by rw [hk]; decide)).trans ?_
  refine (if_neg (show ¬ am_and (am_rd M (-1) x3) 63 = 27 by rw [hk]; decide)).trans ?_
  refine (if_neg (show ¬ am_and (am_rd M (-1) x3) 63 = 28 by rw [hk]; decide)).trans ?_
  refine (if_neg (show ¬ am_and (am_rd M (-1) x3) 63 = 29 by rw [hk]; decide)).trans ?_
  refine (if_neg (show ¬ am_and (am_rd M (-1) x3) 63 = 30 by rw [hk]; decide)).trans ?_
  refine (if_neg (show ¬ am_and (am_rd M (-1) x3) 63 = 31 by rw [hk]; decide)).trans ?_
  refine (if_pos hk).trans ?_
  rw [ax_w32 (x := x3 + 1) (by omega) (by omega), hL, ax_gi (by omega) (by omega)]
  rw [show am_ob 1 10 = true from rfl, ax_gt, e1, Option.bind_some]
  dsimp only []
  simp only [g1]
  rw [g4, ax_gi (by omega) (by omega)]
  rw [show am_ob 447 11 = true from rfl, ax_gt, e2, Option.bind_some]
  dsimp only []
  rw [if_pos rfl, aq_306_1065, ax_w32 (by omega) (by omega), ax_let]
theorem lw_33 (a : RR M) (h : LX M L x3) (hk : am_and (am_rd M (-1) x3) 63 = 33) : LW d M x3 := by
  obtain ⟨hL, ⟨x0, x6, L1⟩, hR⟩ := h
  obtain ⟨r, M1, M2, e1, e2, R⟩ := (op_few (d := d) a (hR _) : OP d M 189 232 [(0, am_rd M (-1) (x3 + 1))])
  have n1 : NG M M1 := ng_call rfl e1
  have n2 : NG M1 M2 := ng_call rfl e2
  have g4 : am_rd M1 (-4) 0 = L := (n1 _ _ (by decide)).trans hL
  have g1 : ∀ j, am_rd M1 (-1) j = am_rd M (-1) j := fun j => n1 _ _ (by decide)
  refine ⟨M2, ?_, R, ng_tr n1 n2⟩
  refine (aq_306_11 d 1 447 x3 M).trans ?_
  refine (if_pos (show x3 ≤ am_w32 (am_rd M (-4) 0 - 6) by rw [hL, ax_w32 (by omega) (by omega)]; omega)).trans ?_
  refine (ax_gi x0 (show x3 < am_rd M (-4) 0 by omega)).trans ?_
  refine (if_neg (show ¬ am_and (am_rd M (-1) x3) 63 = 0 by rw [hk]; decide)).trans ?_
  refine (if_neg (show ¬ am_and (am_rd M (-1) x3) 63 = 1 by rw [hk]; decide)).trans ?_
  refine (if_neg (show ¬ am_and (am_rd M (-1) x3) 63 = 2 by rw [hk]; decide)).trans ?_
  refine (if_neg (show ¬ am_and (am_rd M (-1) x3) 63 = 3 by rw [hk]; decide)).trans ?_
  refine (if_neg (show ¬ am_and (am_rd M (-1) x3) 63 = 4 by rw [hk]; decide)).trans ?_
  refine (if_neg (show ¬ am_and (am_rd M (-1) x3) 63 = 5 by rw [hk]; decide)).trans ?_
  refine (if_neg (show ¬ am_and (am_rd M (-1) x3) 63 = 6 by rw [hk]; decide)).trans ?_
  refine (if_neg (show ¬ am_and (am_rd M (-1) x3) 63 = 7 by rw [hk]; decide)).trans ?_
  refine (if_neg (show ¬ am_and (am_rd M (-1) x3) 63 = 8 by rw [hk]; decide)).trans ?_
  refine (if_neg (show ¬ am_and (am_rd M (-1) x3) 63 = 9 by rw [hk]; decide)).trans ?_
  refine (if_neg (show ¬ am_and (am_rd M (-1) x3) 63 = 10 by rw [hk]; decide)).trans ?_
  refine (if_neg (show ¬ am_and (am_rd M (-1) x3) 63 = 11 by rw [hk]; decide)).trans ?_
  refine (if_neg (show ¬ am_and (am_rd M (-1) x3) 63 = 12 by rw [hk]; decide)).trans ?_
  refine (if_neg (show ¬ am_and (am_rd M (-1) x3) 63 = 13 by rw [hk]; decide)).trans ?_
  refine (if_neg (show ¬ am_and (am_rd M (-1) x3) 63 = 14 by rw [hk]; decide)).trans ?_
  refine (if_neg (show ¬ am_and (am_rd M (-1) x3) 63 = 15 by rw [hk]; decide)).trans ?_
  refine (if_neg (show ¬ am_and (am_rd M (-1) x3) 63 = 16 by rw [hk]; decide)).trans ?_
  refine (if_neg (show ¬ am_and (am_rd M (-1) x3) 63 = 17 by rw [hk]; decide)).trans ?_
  refine (if_neg (show ¬ am_and (am_rd M (-1) x3) 63 = 18 by rw [hk]; decide)).trans ?_
  refine (if_neg (show ¬ am_and (am_rd M (-1) x3) 63 = 19 by rw [hk]; decide)).trans ?_
  refine (if_neg (show ¬ am_and (am_rd M (-1) x3) 63 = 20 by rw [hk]; decide)).trans ?_
  refine (if_neg (show ¬ am_and (am_rd M (-1) x3) 63 = 21 by rw [hk]; decide)).trans ?_
  refine (if_neg (show ¬ am_and (am_rd M (-1) x3) 63 = 22 by rw [hk]; decide)).trans ?_
  refine (if_neg (show ¬ am_and (am_rd M (-1) x3) 63 = 23 by rw [hk]; decide)).trans ?_
  refine (if_neg (show ¬ am_and (am_rd M (-1) x3) 63 = 24 by rw [hk]; decide)).trans ?_
  refine (if_neg (show ¬ am_and (am_rd M (-1) x3) 63 = 25 by rw [hk]; decide)).trans ?_
  refine (if_neg (show ¬ am_and (am_rd M (-1) x3) 63 = 26 by rw [hk]; decide)).trans ?_
  refine (if_neg (show ¬ am_and (am_rd M (-1) x3) 63 = 27 by rw [hk]; decide)).trans ?_
  refine (if_neg (show ¬ am_and (am_rd M (-1) x3) 63 = 28 by rw [hk]; decide)).trans ?_
  refine (if_neg (show ¬ am_and (am_rd M (-1) x3) 63 = 29 by rw [hk]; decide)).trans ?_
  refine (if_neg (show ¬ am_and (am_rd M (-1) x3) 63 = 30 by rw [hk]; decide)).trans ?_
  refine (if_neg (show ¬ am_and (am_rd M (-1) x3) 63 = 31 by rw [hk]; decide)).trans ?_
  refine (if_neg (show ¬ am_and (am_rd M (-1) x3) 63 = 32 by rw [hk]; decide)).trans ?_
  refine (if_pos hk).trans ?_
  rw [ax_w32 (x := x3 + 1) (by omega) (by omega), hL, ax_gi (by omega) (by omega)]
  rw [show am_ob 1 10 = true from rfl, ax_gt, e1, Option.bind_some]
  dsimp only []
  simp only [g1]
  rw [g4, ax_gi (by omega) (by omega)]
  rw [show am_ob 447 11 = true from rfl, ax_gt, e2, Option.bind_some]
  dsimp only []
  rw [if_pos rfl, aq_306_1065, ax_w32 (by omega) (by omega), ax_let]
theorem lw_34 (a : RR M) (h : LX M L x3) (hk : am_and (am_rd M (-1) x3) 63 = 34) : LW d M x3 := by
  obtain ⟨hL, ⟨x0, x6, L1⟩, hR⟩ := h
  obtain ⟨r, M1, M2, e1, e2, R⟩ := (op_trial (d := d) a (hR _) : OP d M 245 202 [(0, am_rd M (-1) (x3 + 1)), (0, am_rd M (-1) (x3 + 2)), (0, am_rd M (-1) (x3 + 3))])
  have n1 : NG M M1 := ng_call rfl e1
  have n2 : NG M1 M2 := ng_call rfl e2
  have g4 : am_rd M1 (-4) 0 = L := (n1 _ _ (by decide)).trans hL
  have g1 : ∀ j, am_rd M1 (-1) j = am_rd M (-1) j := fun j => n1 _ _ (by decide)
  refine ⟨M2, ?_, R, ng_tr n1 n2⟩
  refine (aq_306_11 d 1 447 x3 M).trans ?_
  refine (if_pos (show x3 ≤ am_w32 (am_rd M (-4) 0 - 6) by rw [hL, ax_w32 (by omega) (by omega)]; omega)).trans ?_
  refine (ax_gi x0 (show x3 < am_rd M (-4) 0 by omega)).trans ?_
  refine (if_neg (show ¬ am_and (am_rd M (-1) x3) 63 = 0 by rw [hk]; decide)).trans ?_
  refine (if_neg (show ¬ am_and (am_rd M (-1) x3) 63 = 1 by rw [hk]; decide)).trans ?_
  refine (if_neg (show ¬ am_and (am_rd M (-1) x3) 63 = 2 by rw [hk]; decide)).trans ?_
  refine (if_neg (show ¬ am_and (am_rd M (-1) x3) 63 = 3 by rw [hk]; decide)).trans ?_
  refine (if_neg (show ¬ am_and (am_rd M (-1) x3) 63 = 4 by rw [hk]; decide)).trans ?_
  refine (if_neg (show ¬ am_and (am_rd M (-1) x3) 63 = 5 by rw [hk]; decide)).trans ?_
  refine (if_neg (show ¬ am_and (am_rd M (-1) x3) 63 = 6 by rw [hk]; decide)).trans ?_
  refine (if_neg (show ¬ am_and (am_rd M (-1) x3) 63 = 7 by rw [hk]; decide)).trans ?_
  refine (if_neg (show ¬ am_and (am_rd M (-1) x3) 63 = 8 by rw [hk]; decide)).trans ?_
  refine (if_neg (show ¬ am_and (am_rd M (-1) x3) 63 = 9 by rw [hk]; decide)).trans ?_
  refine (if_neg (show ¬ am_and (am_rd M (-1) x3) 63 = 10 by rw [hk]; decide)).trans ?_
  refine (if_neg (show ¬ am_and (am_rd M (-1) x3) 63 = 11 by rw [hk]; decide)).trans ?_
  refine (if_neg (show ¬ am_and (am_rd M (-1) x3) 63 = 12 by rw [hk]; decide)).trans ?_
  refine (if_neg (show ¬ am_and (am_rd M (-1) x3) 63 = 13 by rw [hk]; decide)).trans ?_
  refine (if_neg (show ¬ am_and (am_rd M (-1) x3) 63 = 14 by rw [hk]; decide)).trans ?_
  refine (if_neg (show ¬ am_and (am_rd M (-1) x3) 63 = 15 by rw [hk]; decide)).trans ?_
  refine (if_neg (show ¬ am_and (am_rd M (-1) x3) 63 = 16 by rw [hk]; decide)).trans ?_
  refine (if_neg (show ¬ am_and (am_rd M (-1) x3) 63 = 17 by rw [hk]; decide)).trans ?_
  refine (if_neg (show ¬ am_and (am_rd M (-1) x3) 63 = 18 by rw [hk]; decide)).trans ?_
  refine (if_neg (show ¬ am_and (am_rd M (-1) x3) 63 = 19 by rw [hk]; decide)).trans ?_
  refine (if_neg (show ¬ am_and (am_rd M (-1) x3) 63 = 20 by rw [hk]; decide)).trans ?_
  refine (if_neg (show ¬ am_and (am_rd M (-1) x3) 63 = 21 by rw [hk]; decide)).trans ?_
  refine (if_neg (show ¬ am_and (am_rd M (-1) x3) 63 = 22 by rw [hk]; decide)).trans ?_
  refine (if_neg (show ¬ am_and (am_rd M (-1) x3) 63 = 23 by rw [hk]; decide)).trans ?_
  refine (if_neg (show ¬ am_and (am_rd M (-1) x3) 63 = 24 by rw [hk]; decide)).trans ?_
  refine (if_neg (show ¬ am_and (am_rd M (-1) x3) 63 = 25 by rw [hk]; decide)).trans ?_
  refine (if_neg (show ¬ am_and (am_rd M (-1) x3) 63 = 26 by rw [hk]; decide)).trans ?_
  refine (if_neg (show ¬ am_and (am_rd M (-1) x3) 63 = 27 by rw [hk]; decide)).trans ?_
  refine (if_neg (show ¬ am_and (am_rd M (-1) x3) 63 = 28 by rw [hk]; decide)).trans ?_
  refine (if_neg (show ¬ am_and (am_rd M (-1) x3) 63 = 29 by rw [hk]; decide)).trans ?_
  refine (if_neg (show ¬ am_and (am_rd M (-1) x3) 63 = 30 by rw [hk]; decide)).trans ?_
  refine (if_neg (show ¬ am_and (am_rd M (-1) x3) 63 = 31 by rw [hk]; decide)).trans ?_
  refine (if_neg (show ¬ am_and (am_rd M (-1) x3) 63 = 32 by rw [hk]; decide)).trans ?_
  refine (if_neg (show ¬ am_and (am_rd M (-1) x3) 63 = 33 by rw [hk]; decide)).trans ?_
  refine (if_pos hk).trans ?_
  rw [ax_w32 (x := x3 + 1) (by omega) (by omega), ax_w32 (x := x3 + 2) (by omega) (by omega), ax_w32 (x := x3 + 3) (by omega) (by omega), hL, ax_gi (by omega) (by omega), ax_gi (by omega) (by omega), ax_gi (by omega) (by omega)]
  rw [show am_ob 1 10 = true from rfl, ax_gt, e1, Option.bind_some]
  dsimp only []
  simp only [g1]
  rw [g4, ax_gi (by omega) (by omega), ax_gi (by omega) (by omega), ax_gi (by omega) (by omega)]
  rw [show am_ob 447 11 = true from rfl, ax_gt, e2, Option.bind_some]
  dsimp only []
  rw [if_pos (by rw [ax_ce]), aq_306_1065, ax_w32 (by omega) (by omega), ax_let]
theorem lw_35 (a : RR M) (h : LX M L x3) (hk : am_and (am_rd M (-1) x3) 63 = 35) : LW d M x3 := by
  obtain ⟨hL, ⟨x0, x6, L1⟩, hR⟩ := h
  obtain ⟨r, M1, M2, e1, e2, R⟩ := (op_told (d := d) a (hR _) : OP d M 216 203 [(0, am_rd M (-1) (x3 + 1)), (0, am_rd M (-1) (x3 + 2))])
  have n1 : NG M M1 := ng_call rfl e1
  have n2 : NG M1 M2 := ng_call rfl e2
  have g4 : am_rd M1 (-4) 0 = L := (n1 _ _ (by decide)).trans hL
  have g1 : ∀ j, am_rd M1 (-1) j = am_rd M (-1) j := fun j => n1 _ _ (by decide)
  refine ⟨M2, ?_, R, ng_tr n1 n2⟩
  refine (aq_306_11 d 1 447 x3 M).trans ?_
  refine (if_pos (show x3 ≤ am_w32 (am_rd M (-4) 0 - 6) by rw [hL, ax_w32 (by omega) (by omega)]; omega)).trans ?_
  refine (ax_gi x0 (show x3 < am_rd M (-4) 0 by omega)).trans ?_
  refine (if_neg (show ¬ am_and (am_rd M (-1) x3) 63 = 0 by rw [hk]; decide)).trans ?_
  refine (if_neg (show ¬ am_and (am_rd M (-1) x3) 63 = 1 by rw [hk]; decide)).trans ?_
  refine (if_neg (show ¬ am_and (am_rd M (-1) x3) 63 = 2 by rw [hk]; decide)).trans ?_
  refine (if_neg (show ¬ am_and (am_rd M (-1) x3) 63 = 3 by rw [hk]; decide)).trans ?_
  refine (if_neg (show ¬ am_and (am_rd M (-1) x3) 63 = 4 by rw [hk]; decide)).trans ?_
  refine (if_neg (show ¬ am_and (am_rd M (-1) x3) 63 = 5 by rw [hk]; decide)).trans ?_
  refine (if_neg (show ¬ am_and (am_rd M (-1) x3) 63 = 6 by rw [hk]; decide)).trans ?_
  refine (if_neg (show ¬ am_and (am_rd M (-1) x3) 63 = 7 by rw [hk]; decide)).trans ?_
  refine (if_neg (show ¬ am_and (am_rd M (-1) x3) 63 = 8 by rw [hk]; decide)).trans ?_
  refine (if_neg (show ¬ am_and (am_rd M (-1) x3) 63 = 9 by rw [hk]; decide)).trans ?_
  refine (if_neg (show ¬ am_and (am_rd M (-1) x3) 63 = 10 by rw [hk]; decide)).trans ?_
  refine (if_neg (show ¬ am_and (am_rd M (-1) x3) 63 = 11 by rw [hk]; decide)).trans ?_
  refine (if_neg (show ¬ am_and (am_rd M (-1) x3) 63 = 12 by rw [hk]; decide)).trans ?_
  refine (if_neg (show ¬ am_and (am_rd M (-1) x3) 63 = 13 by rw [hk]; decide)).trans ?_
  refine (if_neg (show ¬ am_and (am_rd M (-1) x3) 63 = 14 by rw [hk]; decide)).trans ?_
  refine (if_neg (show ¬ am_and (am_rd M (-1) x3) 63 = 15 by rw [hk]; decide)).trans ?_
  refine (if_neg (show ¬ am_and (am_rd M (-1) x3) 63 = 16 by rw [hk]; decide)).trans ?_
  refine (if_neg (show ¬ am_and (am_rd M (-1) x3) 63 = 17 by rw [hk]; decide)).trans ?_
  refine (if_neg (show ¬ am_and (am_rd M (-1) x3) 63 = 18 by rw [hk]; decide)).trans ?_
  refine (if_neg (show ¬ am_and (am_rd M (-1) x3) 63 = 19 by rw [hk]; decide)).trans ?_
  refine (if_neg (show ¬ am_and (am_rd M (-1) x3) 63 = 20 by rw [hk]; decide)).trans ?_
  refine (if_neg (show ¬ am_and (am_rd M (-1) x3) 63 = 21 by rw [hk]; decide)).trans ?_
  refine (if_neg (show ¬ am_and (am_rd M (-1) x3) 63 = 22 by rw [hk]; decide)).trans ?_
  refine (if_neg (show ¬ am_and (am_rd M (-1) x3) 63 = 23 by rw [hk]; decide)).trans ?_
  refine (if_neg (show ¬ am_and (am_rd M (-1) x3) 63 = 24 by rw [hk]; decide)).trans ?_
  refine (if_neg (show ¬ am_and (am_rd M (-1) x3) 63 = 25 by rw [hk]; decide)).trans ?_
  refine (if_neg (show ¬ am_and (am_rd M (-1) x3) 63 = 26 by rw [hk]; decide)).trans ?_
  refine (if_neg (show ¬ am_and (am_rd M (-1) x3) 63 = 27 by rw [hk]; decide)).trans ?_
  refine (if_neg (show ¬ am_and (am_rd M (-1) x3) 63 = 28 by rw [hk]; decide)).trans ?_
  refine (if_neg (show ¬ am_and (am_rd M (-1) x3) 63 = 29 by rw [hk]; decide)).trans ?_
  refine (if_neg (show ¬ am_and (am_rd M (-1) x3) 63 = 30 by rw [hk]; decide)).trans ?_
  refine (if_neg (show ¬ am_and (am_rd M (-1) x3) 63 = 31 by rw [hk]; decide)).trans ?_
  refine (if_neg (show ¬ am_and (am_rd M (-1) x3) 63 = 32 by rw [hk]; decide)).trans ?_
  refine (if_neg (show ¬ am_and (am_rd M (-1) x3) 63 = 33 by rw [hk]; decide)).trans ?_
  refine (if_neg (show ¬ am_and (am_rd M (-1) x3) 63 = 34 by rw [hk]; decide)).trans ?_
  refine (if_pos hk).trans ?_
  rw [ax_w32 (x := x3 + 1) (by omega) (by omega), ax_w32 (x := x3 + 2) (by omega) (by omega), hL, ax_gi (by omega) (by omega), ax_gi (by omega) (by omega)]
  rw [show am_ob 1 10 = true from rfl, ax_gt, e1, Option.bind_some]
  dsimp only []
  simp only [g1]
  rw [g4, ax_gi (by omega) (by omega), ax_gi (by omega) (by omega)]
  rw [show am_ob 447 11 = true from rfl, ax_gt, e2, Option.bind_some]
  dsimp only []
  rw [if_pos rfl, aq_306_1065, ax_w32 (by omega) (by omega), ax_let]
theorem lw_36 (a : RR M) (h : LX M L x3) (hk : am_and (am_rd M (-1) x3) 63 = 36) : LW d M x3 := by
  obtain ⟨hL, ⟨x0, x6, L1⟩, hR⟩ := h
  obtain ⟨r, M1, M2, e1, e2, R⟩ := (op_spies (d := d) a (hR _) : OP d M 279 286 [(0, am_rd M (-1) (x3 + 1))])
  have n1 : NG M M1 := ng_call rfl e1
  have n2 : NG M1 M2 := ng_call rfl e2
  have g4 : am_rd M1 (-4) 0 = L := (n1 _ _ (by decide)).trans hL
  have g1 : ∀ j, am_rd M1 (-1) j = am_rd M (-1) j := fun j => n1 _ _ (by decide)
  refine ⟨M2, ?_, R, ng_tr n1 n2⟩
  refine (aq_306_11 d 1 447 x3 M).trans ?_
  refine (if_pos (show x3 ≤ am_w32 (am_rd M (-4) 0 - 6) by rw [hL, ax_w32 (by omega) (by omega)]; omega)).trans ?_
  refine (ax_gi x0 (show x3 < am_rd M (-4) 0 by omega)).trans ?_
  refine (if_neg (show ¬ am_and (am_rd M (-1) x3) 63 = 0 by rw [hk]; decide)).trans ?_
  refine (if_neg (show ¬ am_and (am_rd M (-1) x3) 63 = 1 by rw [hk]; decide)).trans ?_
  refine (if_neg (show ¬ am_and (am_rd M (-1) x3) 63 = 2 by rw [hk]; decide)).trans ?_
  refine (if_neg (show ¬ am_and (am_rd M (-1) x3) 63 = 3 by rw [hk]; decide)).trans ?_
  refine (if_neg (show ¬ am_and (am_rd M (-1) x3) 63 = 4 by rw [hk]; decide)).trans ?_
  refine (if_neg (show ¬ am_and (am_rd M (-1) x3) 63 = 5 by rw [hk]; decide)).trans ?_
  refine (if_neg (show ¬ am_and (am_rd M (-1) x3) 63 = 6 by rw [hk]; decide)).trans ?_
  refine (if_neg (show ¬ am_and (am_rd M (-1) x3) 63 = 7 by rw [hk]; decide)).trans ?_
  refine (if_neg (show ¬ am_and (am_rd M (-1) x3) 63 = 8 by rw [hk]; decide)).trans ?_
  refine (if_neg (show ¬ am_and (am_rd M (-1) x3) 63 = 9 by rw [hk]; decide)).trans ?_
  refine (if_neg (show ¬ am_and (am_rd M (-1) x3) 63 = 10 by rw [hk]; decide)).trans ?_
  refine (if_neg (show ¬ am_and (am_rd M (-1) x3) 63 = 11 by rw [hk]; decide)).trans ?_
  refine (if_neg (show ¬ am_and (am_rd M (-1) x3) 63 = 12 by rw [hk]; decide)).trans ?_
  refine (if_neg (show ¬ am_and (am_rd M (-1) x3) 63 = 13 by rw [hk]; decide)).trans ?_
  refine (if_neg (show ¬ am_and (am_rd M (-1) x3) 63 = 14 by rw [hk]; decide)).trans ?_
  refine (if_neg (show ¬ am_and (am_rd M (-1) x3) 63 = 15 by rw [hk]; decide)).trans ?_
  refine (if_neg (show ¬ am_and (am_rd M (-1) x3) 63 = 16 by rw [hk]; decide)).trans ?_
  refine (if_neg (show ¬ am_and (am_rd M (-1) x3) 63 = 17 by rw [hk]; decide)).trans ?_
  refine (if_neg (show ¬ am_and (am_rd M (-1) x3) 63 = 18 by rw [hk]; decide)).trans ?_
  refine (if_neg (show ¬ am_and (am_rd M (-1) x3) 63 = 19 by rw [hk]; decide)).trans ?_
  refine (if_neg (show ¬ am_and (am_rd M (-1) x3) 63 = 20 by rw [hk]; decide)).trans ?_
  refine (if_neg (show ¬ am_and (am_rd M (-1) x3) 63 = 21 by rw [hk]; decide)).trans ?_
  refine (if_neg (show ¬ am_and (am_rd M (-1) x3) 63 = 22 by rw [hk]; decide)).trans ?_
  refine (if_neg (show ¬ am_and (am_rd M (-1) x3) 63 = 23 by rw [hk]; decide)).trans ?_
  refine (if_neg (show ¬ am_and (am_rd M (-1) x3) 63 = 24 by rw [hk]; decide)).trans ?_
  refine (if_neg (show ¬ am_and (am_rd M (-1) x3) 63 = 25 by rw [hk]; decide)).trans ?_
  refine (if_neg (show ¬ am_and (am_rd M (-1) x3) 63 = 26 by rw [hk]; decide)).trans ?_
  refine (if_neg (show ¬ am_and (am_rd M (-1) x3) 63 = 27 by rw [hk]; decide)).trans ?_
  refine (if_neg (show ¬ am_and (am_rd M (-1) x3) 63 = 28 by rw [hk]; decide)).trans ?_
  refine (if_neg (show ¬ am_and (am_rd M (-1) x3) 63 = 29 by rw [hk]; decide)).trans ?_
  refine (if_neg (show ¬ am_and (am_rd M (-1) x3) 63 = 30 by rw [hk]; decide)).trans ?_
  refine (if_neg (show ¬ am_and (am_rd M (-1) x3) 63 = 31 by rw [hk]; decide)).trans ?_
  refine (if_neg (show ¬ am_and (am_rd M (-1) x3) 63 = 32 by rw [hk]; decide)).trans ?_
  refine (if_neg (show ¬ am_and (am_rd M (-1) x3) 63 = 33 by rw [hk]; decide)).trans ?_
  refine (if_neg (show ¬ am_and (am_rd M (-1) x3) 63 = 34 by rw [hk]; decide)).trans ?_
  refine (if_neg (show ¬ am_and (am_rd M (-1) x3) 63 = 35 by rw [hk]; decide)).trans ?_
  refine (if_pos hk).trans ?_
  rw [ax_w32 (x := x3 + 1) (by omega) (by omega), hL, ax_gi (by omega) (by omega)]
  rw [show am_ob 1 10 = true from rfl, ax_gt, e1, Option.bind_some]
  dsimp only []
  simp only [g1]
  rw [g4, ax_gi (by omega) (by omega)]
  rw [show am_ob 447 11 = true from rfl, ax_gt, e2, Option.bind_some]
  dsimp only []
  rw [if_pos rfl, aq_306_1065, ax_w32 (by omega) (by omega), ax_let]
theorem lw_37 (a : RR M) (h : LX M L x3) (hk : am_and (am_rd M (-1) x3) 63 = 37) : LW d M x3 := by
  obtain ⟨hL, ⟨x0, x6, L1⟩, hR⟩ := h
  obtain ⟨r, M1, M2, e1, e2, R⟩ := (op_sold (d := d) a  : OP d M 280 287 [(0, am_rd M (-1) (x3 + 1))])
  have n1 : NG M M1 := ng_call rfl e1
  have n2 : NG M1 M2 := ng_call rfl e2
  have g4 : am_rd M1 (-4) 0 = L := (n1 _ _ (by decide)).trans hL
  have g1 : ∀ j, am_rd M1 (-1) j = am_rd M (-1) j := fun j => n1 _ _ (by decide)
  refine ⟨M2, ?_, R, ng_tr n1 n2⟩
  refine (aq_306_11 d 1 447 x3 M).trans ?_
  refine (if_pos (show x3 ≤ am_w32 (am_rd M (-4) 0 - 6) by rw [hL, ax_w32 (by omega) (by omega)]; omega)).trans ?_
  refine (ax_gi x0 (show x3 < am_rd M (-4) 0 by omega)).trans ?_
  refine (if_neg (show ¬ am_and (am_rd M (-1) x3) 63 = 0 by rw [hk]; decide)).trans ?_
  refine (if_neg (show ¬ am_and (am_rd M (-1) x3) 63 = 1 by rw [hk]; decide)).trans ?_
  refine (if_neg (show ¬ am_and (am_rd M (-1) x3) 63 = 2 by rw [hk]; decide)).trans ?_
  refine (if_neg (show ¬ am_and (am_rd M (-1) x3) 63 = 3 by rw [hk]; decide)).trans ?_
  refine (if_neg (show ¬ am_and (am_rd M (-1) x3) 63 = 4 by rw [hk]; decide)).trans ?_
  refine (if_neg (show ¬ am_and (am_rd M (-1) x3) 63 = 5 by rw [hk]; decide)).trans ?_
  refine (if_neg (show ¬ am_and (am_rd M (-1) x3) 63 = 6 by rw [hk]; decide)).trans ?_
  refine (if_neg (show ¬ am_and (am_rd M (-1) x3) 63 = 7 by rw [hk]; decide)).trans ?_
  refine (if_neg (show ¬ am_and (am_rd M (-1) x3) 63 = 8 by rw [hk]; decide)).trans ?_
  refine (if_neg (show ¬ am_and (am_rd M (-1) x3) 63 = 9 by rw [hk]; decide)).trans ?_
  refine (if_neg (show ¬ am_and (am_rd M (-1) x3) 63 = 10 by rw [hk]; decide)).trans ?_
  refine (if_neg (show ¬ am_and (am_rd M (-1) x3) 63 = 11 by rw [hk]; decide)).trans ?_
  refine (if_neg (show ¬ am_and (am_rd M (-1) x3) 63 = 12 by rw [hk]; decide)).trans ?_
  refine (if_neg (show ¬ am_and (am_rd M (-1) x3) 63 = 13 by rw [hk]; decide)).trans ?_
  refine (if_neg (show ¬ am_and (am_rd M (-1) x3) 63 = 14 by rw [hk]; decide)).trans ?_
  refine (if_neg (show ¬ am_and (am_rd M (-1) x3) 63 = 15 by rw [hk]; decide)).trans ?_
  refine (if_neg (show ¬ am_and (am_rd M (-1) x3) 63 = 16 by rw [hk]; decide)).trans ?_
  refine (if_neg (show ¬ am_and (am_rd M (-1) x3) 63 = 17 by rw [hk]; decide)).trans ?_
  refine (if_neg (show ¬ am_and (am_rd M (-1) x3) 63 = 18 by rw [hk]; decide)).trans ?_
  refine (if_neg (show ¬ am_and (am_rd M (-1) x3) 63 = 19 by rw [hk]; decide)).trans ?_
  refine (if_neg (show ¬ am_and (am_rd M (-1) x3) 63 = 20 by rw [hk]; decide)).trans ?_
  refine (if_neg (show ¬ am_and (am_rd M (-1) x3) 63 = 21 by rw [hk]; decide)).trans ?_
  refine (if_neg (show ¬ am_and (am_rd M (-1) x3) 63 = 22 by rw [hk]; decide)).trans ?_
  refine (if_neg (show ¬ am_and (am_rd M (-1) x3) 63 = 23 by rw [hk]; decide)).trans ?_
  refine (if_neg (show ¬ am_and (am_rd M (-1) x3) 63 = 24 by rw [hk]; decide)).trans ?_
  refine (if_neg (show ¬ am_and (am_rd M (-1) x3) 63 = 25 by rw [hk]; decide)).trans ?_
  refine (if_neg (show ¬ am_and (am_rd M (-1) x3) 63 = 26 by rw [hk]; decide)).trans ?_
  refine (if_neg (show ¬ am_and (am_rd M (-1) x3) 63 = 27 by rw [hk]; decide)).trans ?_
  refine (if_neg (show ¬ am_and (am_rd M (-1) x3) 63 = 28 by rw [hk]; decide)).trans ?_
  refine (if_neg (show ¬ am_and (am_rd M (-1) x3) 63 = 29 by rw [hk]; decide)).trans ?_
  refine (if_neg (show ¬ am_and (am_rd M (-1) x3) 63 = 30 by rw [hk]; decide)).trans ?_
  refine (if_neg (show ¬ am_and (am_rd M (-1) x3) 63 = 31 by rw [hk]; decide)).trans ?_
  refine (if_neg (show ¬ am_and (am_rd M (-1) x3) 63 = 32 by rw [hk]; decide)).trans ?_
  refine (if_neg (show ¬ am_and (am_rd M (-1) x3) 63 = 33 by rw [hk]; decide)).trans ?_
  refine (if_neg (show ¬ am_and (am_rd M (-1) x3) 63 = 34 by rw [hk]; decide)).trans ?_
  refine (if_neg (show ¬ am_and (am_rd M (-1) x3) 63 = 35 by rw [hk]; decide)).trans ?_
  refine (if_neg (show ¬ am_and (am_rd M (-1) x3) 63 = 36 by rw [hk]; decide)).trans ?_
  refine (if_pos hk).trans ?_
  rw [ax_w32 (x := x3 + 1) (by omega) (by omega), hL, ax_gi (by omega) (by omega)]
  rw [show am_ob 1 10 = true from rfl, ax_gt, e1, Option.bind_some]
  dsimp only []
  simp only [g1]
  rw [g4, ax_gi (by omega) (by omega)]
  rw [show am_ob 447 11 = true from rfl, ax_gt, e2, Option.bind_some]
  dsimp only []
  rw [if_pos rfl, aq_306_1065, ax_w32 (by omega) (by omega), ax_let]
theorem lw_38 (a : RR M) (h : LX M L x3) (hk : am_and (am_rd M (-1) x3) 63 = 38) : LW d M x3 := by
  obtain ⟨hL, ⟨x0, x6, L1⟩, hR⟩ := h
  obtain ⟨r, M1, M2, e1, e2, R⟩ := (op_image (d := d) a  : OP d M 190 167 [])
  have n1 : NG M M1 := ng_call rfl e1
  have n2 : NG M1 M2 := ng_call rfl e2
  have g4 : am_rd M1 (-4) 0 = L := (n1 _ _ (by decide)).trans hL
  have g1 : ∀ j, am_rd M1 (-1) j = am_rd M (-1) j := fun j => n1 _ _ (by decide)
  refine ⟨M2, ?_, R, ng_tr n1 n2⟩
  refine (aq_306_11 d 1 447 x3 M).trans ?_
  refine (if_pos (show x3 ≤ am_w32 (am_rd M (-4) 0 - 6) by rw [hL, ax_w32 (by omega) (by omega)]; omega)).trans ?_
  refine (ax_gi x0 (show x3 < am_rd M (-4) 0 by omega)).trans ?_
  refine (if_neg (show ¬ am_and (am_rd M (-1) x3) 63 = 0 by rw [hk]; decide)).trans ?_
  refine (if_neg (show ¬ am_and (am_rd M (-1) x3) 63 = 1 by rw [hk]; decide)).trans ?_
  refine (if_neg (show ¬ am_and (am_rd M (-1) x3) 63 = 2 by rw [hk]; decide)).trans ?_
  refine (if_neg (show ¬ am_and (am_rd M (-1) x3) 63 = 3 by rw [hk]; decide)).trans ?_
  refine (if_neg (show ¬ am_and (am_rd M (-1) x3) 63 = 4 by rw [hk]; decide)).trans ?_
  refine (if_neg (show ¬ am_and (am_rd M (-1) x3) 63 = 5 by rw [hk]; decide)).trans ?_
  refine (if_neg (show ¬ am_and (am_rd M (-1) x3) 63 = 6 by rw [hk]; decide)).trans ?_
  refine (if_neg (show ¬ am_and (am_rd M (-1) x3) 63 = 7 by rw [hk]; decide)).trans ?_
  refine (if_neg (show ¬ am_and (am_rd M (-1) x3) 63 = 8 by rw [hk]; decide)).trans ?_
  refine (if_neg (show ¬ am_and (am_rd M (-1) x3) 63 = 9 by rw [hk]; decide)).trans ?_
  refine (if_neg (show ¬ am_and (am_rd M (-1) x3) 63 = 10 by rw [hk]; decide)).trans ?_
  refine (if_neg (show ¬ am_and (am_rd M (-1) x3) 63 = 11 by rw [hk]; decide)).trans ?_
  refine (if_neg (show ¬ am_and (am_rd M (-1) x3) 63 = 12 by rw [hk]; decide)).trans ?_
  refine (if_neg (show ¬ am_and (am_rd M (-1) x3) 63 = 13 by rw [hk]; decide)).trans ?_
  refine (if_neg (show ¬ am_and (am_rd M (-1) x3) 63 = 14 by rw [hk]; decide)).trans ?_
  refine (if_neg (show ¬ am_and (am_rd M (-1) x3) 63 = 15 by rw [hk]; decide)).trans ?_
  refine (if_neg (show ¬ am_and (am_rd M (-1) x3) 63 = 16 by rw [hk]; decide)).trans ?_
  refine (if_neg (show ¬ am_and (am_rd M (-1) x3) 63 = 17 by rw [hk]; decide)).trans ?_
  refine (if_neg (show ¬ am_and (am_rd M (-1) x3) 63 = 18 by rw [hk]; decide)).trans ?_
  refine (if_neg (show ¬ am_and (am_rd M (-1) x3) 63 = 19 by rw [hk]; decide)).trans ?_
  refine (if_neg (show ¬ am_and (am_rd M (-1) x3) 63 = 20 by rw [hk]; decide)).trans ?_
  refine (if_neg (show ¬ am_and (am_rd M (-1) x3) 63 = 21 by rw [hk]; decide)).trans ?_
  refine (if_neg (show ¬ am_and (am_rd M (-1) x3) 63 = 22 by rw [hk]; decide)).trans ?_
  refine (if_neg (show ¬ am_and (am_rd M (-1) x3) 63 = 23 by rw [hk]; decide)).trans ?_
  refine (if_neg (show ¬ am_and (am_rd M (-1) x3) 63 = 24 by rw [hk]; decide)).trans ?_
  refine (if_neg (show ¬ am_and (am_rd M (-1) x3) 63 = 25 by rw [hk]; decide)).trans ?_
  refine (if_neg (show ¬ am_and (am_rd M (-1) x3) 63 = 26 by rw [hk]; decide)).trans ?_
  refine (if_neg (show ¬ am_and (am_rd M (-1) x3) 63 = 27 by rw [hk]; decide)).trans ?_
  refine (if_neg (show ¬ am_and (am_rd M (-1) x3) 63 = 28 by rw [hk]; decide)).trans ?_
  refine (if_neg (show ¬ am_and (am_rd M (-1) x3) 63 = 29 by rw [hk]; decide)).trans ?_
  refine (if_neg (show ¬ am_and (am_rd M (-1) x3) 63 = 30 by rw [hk]; decide)).trans ?_
  refine (if_neg (show ¬ am_and (am_rd M (-1) x3) 63 = 31 by rw [hk]; decide)).trans ?_
  refine (if_neg (show ¬ am_and (am_rd M (-1) x3) 63 = 32 by rw [hk]; decide)).trans ?_
  refine (if_neg (show ¬ am_and (am_rd M (-1) x3) 63 = 33 by rw [hk]; decide)).trans ?_
  refine (if_neg (show ¬ am_and (am_rd M (-1) x3) 63 = 34 by rw [hk]; decide)).trans ?_
  refine (if_neg (show ¬ am_and (am_rd M (-1) x3) 63 = 35 by rw [hk]; decide)).trans ?_
  refine (if_neg (show ¬ am_and (am_rd M (-1) x3) 63 = 36 by rw [hk]; decide)).trans ?_
  refine (if_neg (show ¬ am_and (am_rd M (-1) x3) 63 = 37 by rw [hk]; decide)).trans ?_
  refine (if_pos hk).trans ?_
  rw [show am_ob 1 10 = true from rfl, ax_gt, e1, Option.bind_some]
  dsimp only []
  rw [show am_ob 447 11 = true from rfl, ax_gt, e2, Option.bind_some]
  dsimp only []
  rw [if_pos rfl, aq_306_1065, ax_w32 (by omega) (by omega), ax_let]
theorem lw_39 (a : RR M) (h : LX M L x3) (hk : am_and (am_rd M (-1) x3) 63 = 39) : LW d M x3 := by
  obtain ⟨hL, ⟨x0, x6, L1⟩, hR⟩ := h
  obtain ⟨r, M1, M2, e1, e2, R⟩ := (op_again (d := d) a  : OP d M 191 168 [])
  have n1 : NG M M1 := ng_call rfl e1
  have n2 : NG M1 M2 := ng_call rfl e2
  have g4 : am_rd M1 (-4) 0 = L := (n1 _ _ (by decide)).trans hL
  have g1 : ∀ j, am_rd M1 (-1) j = am_rd M (-1) j := fun j => n1 _ _ (by decide)
  refine ⟨M2, ?_, R, ng_tr n1 n2⟩
  refine (aq_306_11 d 1 447 x3 M).trans ?_
  refine (if_pos (show x3 ≤ am_w32 (am_rd M (-4) 0 - 6) by rw [hL, ax_w32 (by omega) (by omega)]; omega)).trans ?_
  refine (ax_gi x0 (show x3 < am_rd M (-4) 0 by omega)).trans ?_
  refine (if_neg (show ¬ am_and (am_rd M (-1) x3) 63 = 0 by rw [hk]; decide)).trans ?_
  refine (if_neg (show ¬ am_and (am_rd M (-1) x3) 63 = 1 by rw [hk]; decide)).trans ?_
  refine (if_neg (show ¬ am_and (am_rd M (-1) x3) 63 = 2 by rw [hk]; decide)).trans ?_
  refine (if_neg (show ¬ am_and (am_rd M (-1) x3) 63 = 3 by rw [hk]; decide)).trans ?_
  refine (if_neg (show ¬ am_and (am_rd M (-1) x3) 63 = 4 by rw [hk]; decide)).trans ?_
  refine (if_neg (show ¬ am_and (am_rd M (-1) x3) 63 = 5 by rw [hk]; decide)).trans ?_
  refine (if_neg (show ¬ am_and (am_rd M (-1) x3) 63 = 6 by rw [hk]; decide)).trans ?_
  refine (if_neg (show ¬ am_and (am_rd M (-1) x3) 63 = 7 by rw [hk]; decide)).trans ?_
  refine (if_neg (show ¬ am_and (am_rd M (-1) x3) 63 = 8 by rw [hk]; decide)).trans ?_
  refine (if_neg (show ¬ am_and (am_rd M (-1) x3) 63 = 9 by rw [hk]; decide)).trans ?_
  refine (if_neg (show ¬ am_and (am_rd M (-1) x3) 63 = 10 by rw [hk]; decide)).trans ?_
  refine (if_neg (show ¬ am_and (am_rd M (-1) x3) 63 = 11 by rw [hk]; decide)).trans ?_
  refine (if_neg (show ¬ am_and (am_rd M (-1) x3) 63 = 12 by rw [hk]; decide)).trans ?_
  refine (if_neg (show ¬ am_and (am_rd M (-1) x3) 63 = 13 by rw [hk]; decide)).trans ?_
  refine (if_neg (show ¬ am_and (am_rd M (-1) x3) 63 = 14 by rw [hk]; decide)).trans ?_
  refine (if_neg (show ¬ am_and (am_rd M (-1) x3) 63 = 15 by rw [hk]; decide)).trans ?_
  refine (if_neg (show ¬ am_and (am_rd M (-1) x3) 63 = 16 by rw [hk]; decide)).trans ?_
  refine (if_neg (show ¬ am_and (am_rd M (-1) x3) 63 = 17 by rw [hk]; decide)).trans ?_
  refine (if_neg (show ¬ am_and (am_rd M (-1) x3) 63 = 18 by rw [hk]; decide)).trans ?_
  refine (if_neg (show ¬ am_and (am_rd M (-1) x3) 63 = 19 by rw [hk]; decide)).trans ?_
  refine (if_neg (show ¬ am_and (am_rd M (-1) x3) 63 = 20 by rw [hk]; decide)).trans ?_
  refine (if_neg (show ¬ am_and (am_rd M (-1) x3) 63 = 21 by rw [hk]; decide)).trans ?_
  refine (if_neg (show ¬ am_and (am_rd M (-1) x3) 63 = 22 by rw [hk]; decide)).trans ?_
  refine (if_neg (show ¬ am_and (am_rd M (-1) x3) 63 = 23 by rw [hk]; decide)).trans ?_
  refine (if_neg (show ¬ am_and (am_rd M (-1) x3) 63 = 24 by rw [hk]; decide)).trans ?_
  refine (if_neg (show ¬ am_and (am_rd M (-1) x3) 63 = 25 by rw [hk]; decide)).trans ?_
  refine (if_neg (show ¬ am_and (am_rd M (-1) x3) 63 = 26 by rw [hk]; decide)).trans ?_
  refine (if_neg (show ¬ am_and (am_rd M (-1) x3) 63 = 27 by rw [hk]; decide)).trans ?_
  refine (if_neg (show ¬ am_and (am_rd M (-1) x3) 63 = 28 by rw [hk]; decide)).trans ?_
  refine (if_neg (show ¬ am_and (am_rd M (-1) x3) 63 = 29 by rw [hk]; decide)).trans ?_
  refine (if_neg (show ¬ am_and (am_rd M (-1) x3) 63 = 30 by rw [hk]; decide)).trans ?_
  refine (if_neg (show ¬ am_and (am_rd M (-1) x3) 63 = 31 by rw [hk]; decide)).trans ?_
  refine (if_neg (show ¬ am_and (am_rd M (-1) x3) 63 = 32 by rw [hk]; decide)).trans ?_
  refine (if_neg (show ¬ am_and (am_rd M (-1) x3) 63 = 33 by rw [hk]; decide)).trans ?_
  refine (if_neg (show ¬ am_and (am_rd M (-1) x3) 63 = 34 by rw [hk]; decide)).trans ?_
  refine (if_neg (show ¬ am_and (am_rd M (-1) x3) 63 = 35 by rw [hk]; decide)).trans ?_
  refine (if_neg (show ¬ am_and (am_rd M (-1) x3) 63 = 36 by rw [hk]; decide)).trans ?_
  refine (if_neg (show ¬ am_and (am_rd M (-1) x3) 63 = 37 by rw [hk]; decide)).trans ?_
  refine (if_neg (show ¬ am_and (am_rd M (-1) x3) 63 = 38 by rw [hk]; decide)).trans ?_
  refine (if_pos hk).trans ?_
  rw [show am_ob 1 10 = true from rfl, ax_gt, e1, Option.bind_some]
  dsimp only []
  rw [show am_ob 447 11 = true from rfl, ax_gt, e2, Option.bind_some]
  dsimp only []
  rw [if_pos rfl, aq_306_1065, ax_w32 (by omega) (by omega), ax_let]
theorem lw_40 (a : RR M) (h : LX M L x3) (hk : am_and (am_rd M (-1) x3) 63 = 40) : LW d M x3 := by
  obtain ⟨hL, ⟨x0, x6, L1⟩, hR⟩ := h
  obtain ⟨r, M1, M2, e1, e2, R⟩ := (op_about (d := d) a  : OP d M 63 98 [(0, am_rd M (-1) (x3 + 1))])
  have n1 : NG M M1 := ng_call rfl e1
  have n2 : NG M1 M2 := ng_call rfl e2
  have g4 : am_rd M1 (-4) 0 = L := (n1 _ _ (by decide)).trans hL
  have g1 : ∀ j, am_rd M1 (-1) j = am_rd M (-1) j := fun j => n1 _ _ (by decide)
  refine ⟨M2, ?_, R, ng_tr n1 n2⟩
  refine (aq_306_11 d 1 447 x3 M).trans ?_
  refine (if_pos (show x3 ≤ am_w32 (am_rd M (-4) 0 - 6) by rw [hL, ax_w32 (by omega) (by omega)]; omega)).trans ?_
  refine (ax_gi x0 (show x3 < am_rd M (-4) 0 by omega)).trans ?_
  refine (if_neg (show ¬ am_and (am_rd M (-1) x3) 63 = 0 by rw [hk]; decide)).trans ?_
  refine (if_neg (show ¬ am_and (am_rd M (-1) x3) 63 = 1 by rw [hk]; decide)).trans ?_
  refine (if_neg (show ¬ am_and (am_rd M (-1) x3) 63 = 2 by rw [hk]; decide)).trans ?_
  refine (if_neg (show ¬ am_and (am_rd M (-1) x3) 63 = 3 by rw [hk]; decide)).trans ?_
  refine (if_neg (show ¬ am_and (am_rd M (-1) x3) 63 = 4 by rw [hk]; decide)).trans ?_
  refine (if_neg (show ¬ am_and (am_rd M (-1) x3) 63 = 5 by rw [hk]; decide)).trans ?_
  refine (if_neg (show ¬ am_and (am_rd M (-1) x3) 63 = 6 by rw [hk]; decide)).trans ?_
  refine (if_neg (show ¬ am_and (am_rd M (-1) x3) 63 = 7 by rw [hk]; decide)).trans ?_
  refine (if_neg (show ¬ am_and (am_rd M (-1) x3) 63 = 8 by rw [hk]; decide)).trans ?_
  refine (if_neg (show ¬ am_and (am_rd M (-1) x3) 63 = 9 by rw [hk]; decide)).trans ?_
  refine (if_neg (show ¬ am_and (am_rd M (-1) x3) 63 = 10 by rw [hk]; decide)).trans ?_
  refine (if_neg (show ¬ am_and (am_rd M (-1) x3) 63 = 11 by rw [hk]; decide)).trans ?_
  refine (if_neg (show ¬ am_and (am_rd M (-1) x3) 63 = 12 by rw [hk]; decide)).trans ?_
  refine (if_neg (show ¬ am_and (am_rd M (-1) x3) 63 = 13 by rw [hk]; decide)).trans ?_
  refine (if_neg (show ¬ am_and (am_rd M (-1) x3) 63 = 14 by rw [hk]; decide)).trans ?_
  refine (if_neg (show ¬ am_and (am_rd M (-1) x3) 63 = 15 by rw [hk]; decide)).trans ?_
  refine (if_neg (show ¬ am_and (am_rd M (-1) x3) 63 = 16 by rw [hk]; decide)).trans ?_
  refine (if_neg (show ¬ am_and (am_rd M (-1) x3) 63 = 17 by rw [hk]; decide)).trans ?_
  refine (if_neg (show ¬ am_and (am_rd M (-1) x3) 63 = 18 by rw [hk]; decide)).trans ?_
  refine (if_neg (show ¬ am_and (am_rd M (-1) x3) 63 = 19 by rw [hk]; decide)).trans ?_
  refine (if_neg (show ¬ am_and (am_rd M (-1) x3) 63 = 20 by rw [hk]; decide)).trans ?_
  refine (if_neg (show ¬ am_and (am_rd M (-1) x3) 63 = 21 by rw [hk]; decide)).trans ?_
  refine (if_neg (show ¬ am_and (am_rd M (-1) x3) 63 = 22 by rw [hk]; decide)).trans ?_
  refine (if_neg (show ¬ am_and (am_rd M (-1) x3) 63 = 23 by rw [hk]; decide)).trans ?_
  refine (if_neg (show ¬ am_and (am_rd M (-1) x3) 63 = 24 by rw [hk]; decide)).trans ?_
  refine (if_neg (show ¬ am_and (am_rd M (-1) x3) 63 = 25 by rw [hk]; decide)).trans ?_
  refine (if_neg (show ¬ am_and (am_rd M (-1) x3) 63 = 26 by rw [hk]; decide)).trans ?_
  refine (if_neg (show ¬ am_and (am_rd M (-1) x3) 63 = 27 by rw [hk]; decide)).trans ?_
  refine (if_neg (show ¬ am_and (am_rd M (-1) x3) 63 = 28 by rw [hk]; decide)).trans ?_
  refine (if_neg (show ¬ am_and (am_rd M (-1) x3) 63 = 29 by rw [hk]; decide)).trans ?_
  refine (if_neg (show ¬ am_and (am_rd M (-1) x3) 63 = 30 by rw [hk]; decide)).trans ?_
  refine (if_neg (show ¬ am_and (am_rd M (-1) x3) 63 = 31 by rw [hk]; decide)).trans ?_
  refine (if_neg (show ¬ am_and (am_rd M (-1) x3) 63 = 32 by rw [hk]; decide)).trans ?_
  refine (if_neg (show ¬ am_and (am_rd M (-1) x3) 63 = 33 by rw [hk]; decide)).trans ?_
  refine (if_neg (show ¬ am_and (am_rd M (-1) x3) 63 = 34 by rw [hk]; decide)).trans ?_
  refine (if_neg (show ¬ am_and (am_rd M (-1) x3) 63 = 35 by rw [hk]; decide)).trans ?_
  refine (if_neg (show ¬ am_and (am_rd M (-1) x3) 63 = 36 by rw [hk]; decide)).trans ?_
  refine (if_neg (show ¬ am_and (am_rd M (-1) x3) 63 = 37 by rw [hk]; decide)).trans ?_
  refine (if_neg (show ¬ am_and (am_rd M (-1) x3) 63 = 38 by rw [hk]; decide)).trans ?_
  refine (if_neg (show ¬ am_and (am_rd M (-1) x3) 63 = 39 by rw [hk]; decide)).trans ?_
  refine (if_pos hk).trans ?_
  rw [ax_w32 (x := x3 + 1) (by omega) (by omega), hL, ax_gi (by omega) (by omega)]
  rw [show am_ob 1 10 = true from rfl, ax_gt, e1, Option.bind_some]
  dsimp only []
  simp only [g1]
  rw [g4, ax_gi (by omega) (by omega)]
  rw [show am_ob 447 11 = true from rfl, ax_gt, e2, Option.bind_some]
  dsimp only []
  rw [if_pos rfl, aq_306_1065, ax_w32 (by omega) (by omega), ax_let]
end
