/-! the law, call by call -/
section
variable {M : am_M} {d : Nat} {x3 L : Int}
theorem lw_14 (a : RR M) (h : LX M L x3) (hk : am_and (am_rd M (-1) x3) 63 = 14) : LW d M x3 := by
  obtain ⟨hL, ⟨x0, x6, L1⟩, hR⟩ := h
  obtain ⟨r, M1, M2, e1, e2, R⟩ := (op_feed (d := d) a  : OP d M 138 149 [(0, am_rd M (-1) (x3 + 1)), (0, am_rd M (-1) (x3 + 2)), (0, am_rd M (-1) (x3 + 3)), (0, am_rd M (-1) (x3 + 4)), (0, am_rd M (-1) (x3 + 5))])
  have n1 : NG M M1 := ng_call rfl e1
  have n2 : NG M1 M2 := ng_call rfl e2
  have g4 : am_rd M1 (-4) 0 = L := (n1 _ _ (by decide)).trans hL
  have g1 : ∀ j, am_rd M1 (-1) j = am_rd M (-1) j := fun j => n1 _ _ (by decide)
  refine ⟨M2, ?_, R, ng_tr n1 n2⟩
  refine (aq_306_11 d 1 447 x3 M).trans ?_
  refine (if_pos (show x3 ≤ am_w32 (am_rd M (-4) 0 - 6) by rw [hL, ax_w32 (by omega) (by omega)]; omega)).trans ?_
  refine (ax_gi x0 (show x3 < am_rd M (-4) 0 by omega)).trans ?_
  refine (if_neg (show ¬ am_and (am_rd M (-1) x3) 63 = 0 by rw [hk]; decide)).trans ?_
  refine (if_neg (show ¬ am_and (am_rd M (-1) x3) 63 = 1 by rw [hk]; decide)).trans ?_
  refine (if_neg (show ¬ am_and (am_rd M (-1) x3) 63 = 2 by rw [hk]; decide)).trans ?_
  refine (if_neg (show ¬ am_and (am_rd M (-1) x3) 63 = 3 by rw [hk]; decide)).trans ?_
  refine (if_neg (show ¬ am_and (am_rd M (-1) x3) 63 = 4 by rw [hk]; decide)).trans ?_
  refine (if_neg (show ¬ am_and (am_rd M (-1) x3) 63 = 5 by rw [hk]; decide)).trans ?_
  refine (if_neg (show ¬ am_and (am_rd M (-1) x3) 63 = 6 by rw [hk]; decide)).trans ?_
  refine (if_neg (show ¬ am_and (am_rd M (-1) x3) 63 = 7 by rw [hk]; decide)).trans ?_
  refine (if_neg (show ¬ am_and (am_rd M (-1) x3) 63 = 8 by rw [hk]; decide)).trans ?_
  refine (if_neg (show ¬ am_and (am_rd M (-1) x3) 63 = 9 by rw [hk]; decide)).trans ?_
  refine (if_neg (show ¬ am_and (am_rd M (-1) x3) 63 = 10 by rw [hk]; decide)).trans ?_
  refine (if_neg (show ¬ am_and (am_rd M (-1) x3) 63 = 11 by rw [hk]; decide)).trans ?_
  refine (if_neg (show ¬ am_and (am_rd M (-1) x3) 63 = 12 by rw [hk]; decide)).trans ?_
  refine (if_neg (show ¬ am_and (am_rd M (-1) x3) 63 = 13 by rw [hk]; decide)).trans ?_
  refine (if_pos hk).trans ?_
  rw [ax_w32 (x := x3 + 1) (by omega) (by omega), ax_w32 (x := x3 + 2) (by omega) (by omega), ax_w32 (x := x3 + 3) (by omega) (by omega), ax_w32 (x := x3 + 4) (by omega) (by omega), ax_w32 (x := x3 + 5) (by omega) (by omega), hL, ax_gi (by omega) (by omega), ax_gi (by omega) (by omega), ax_gi (by omega) (by omega), ax_gi (by omega) (by omega), ax_gi (by omega) (by omega)]
  rw [show am_ob 1 10 = true from rfl, ax_gt, e1, Option.bind_some]
  dsimp only []
  simp only [g1]
  rw [g4, ax_gi (by omega) (by omega), ax_gi (by omega) (by omega), ax_gi (by omega) (by omega), ax_gi (by omega) (by omega), ax_gi (by omega) (by omega)]
  rw [show am_ob 447 11 = true from rfl, ax_gt, e2, Option.bind_some]
  dsimp only []
  rw [if_pos rfl, aq_306_1065, ax_w32 (by omega) (by omega), ax_let]
theorem lw_15 (a : RR M) (h : LX M L x3) (hk : am_and (am_rd M (-1) x3) 63 = 15) : LW d M x3 := by
  obtain ⟨hL, ⟨x0, x6, L1⟩, hR⟩ := h
  obtain ⟨r, M1, M2, e1, e2, R⟩ := (op_end (d := d) a  : OP d M 61 150 [(0, am_rd M (-1) (x3 + 1))])
  have n1 : NG M M1 := ng_call rfl e1
  have n2 : NG M1 M2 := ng_call rfl e2
  have g4 : am_rd M1 (-4) 0 = L := (n1 _ _ (by decide)).trans hL
  have g1 : ∀ j, am_rd M1 (-1) j = am_rd M (-1) j := fun j => n1 _ _ (by decide)
  refine ⟨M2, ?_, R, ng_tr n1 n2⟩
  refine (aq_306_11 d 1 447 x3 M).trans ?_
  refine (if_pos (show x3 ≤ am_w32 (am_rd M (-4) 0 - 6) by rw [hL, ax_w32 (by omega) (by omega)]; omega)).trans ?_
  refine (ax_gi x0 (show x3 < am_rd M (-4) 0 by omega)).trans ?_
  refine (if_neg (show ¬ am_and (am_rd M (-1) x3) 63 = 0 by rw [hk]; decide)).trans ?_
  refine (if_neg (show ¬ am_and (am_rd M (-1) x3) 63 = 1 by rw [hk]; decide)).trans ?_
  refine (if_neg (show ¬ am_and (am_rd M (-1) x3) 63 = 2 by rw [hk]; decide)).trans ?_
  refine (if_neg (show ¬ am_and (am_rd M (-1) x3) 63 = 3 by rw [hk]; decide)).trans ?_
  refine (if_neg (show ¬ am_and (am_rd M (-1) x3) 63 = 4 by rw [hk]; decide)).trans ?_
  refine (if_neg (show ¬ am_and (am_rd M (-1) x3) 63 = 5 by rw [hk]; decide)).trans ?_
  refine (if_neg (show ¬ am_and (am_rd M (-1) x3) 63 = 6 by rw [hk]; decide)).trans ?_
  refine (if_neg (show ¬ am_and (am_rd M (-1) x3) 63 = 7 by rw [hk]; decide)).trans ?_
  refine (if_neg (show ¬ am_and (am_rd M (-1) x3) 63 = 8 by rw [hk]; decide)).trans ?_
  refine (if_neg (show ¬ am_and (am_rd M (-1) x3) 63 = 9 by rw [hk]; decide)).trans ?_
  refine (if_neg (show ¬ am_and (am_rd M (-1) x3) 63 = 10 by rw [hk]; decide)).trans ?_
  refine (if_neg (show ¬ am_and (am_rd M (-1) x3) 63 = 11 by rw [hk]; decide)).trans ?_
  refine (if_neg (show ¬ am_and (am_rd M (-1) x3) 63 = 12 by rw [hk]; decide)).trans ?_
  refine (if_neg (show ¬ am_and (am_rd M (-1) x3) 63 = 13 by rw [hk]; decide)).trans ?_
  refine (if_neg (show ¬ am_and (am_rd M (-1) x3) 63 = 14 by rw [hk]; decide)).trans ?_
  refine (if_pos hk).trans ?_
  rw [ax_w32 (x := x3 + 1) (by omega) (by omega), hL, ax_gi (by omega) (by omega)]
  rw [show am_ob 1 10 = true from rfl, ax_gt, e1, Option.bind_some]
  dsimp only []
  simp only [g1]
  rw [g4, ax_gi (by omega) (by omega)]
  rw [show am_ob 447 11 = true from rfl, ax_gt, e2, Option.bind_some]
  dsimp only []
  rw [if_pos rfl, aq_306_1065, ax_w32 (by omega) (by omega), ax_let]
theorem lw_16 (hd : 9 ≤ d) (a : RR M) (h : LX M L x3) (hk : am_and (am_rd M (-1) x3) 63 = 16) : LW d M x3 := by
  obtain ⟨hL, ⟨x0, x6, L1⟩, hR⟩ := h
  obtain ⟨r, M1, M2, e1, e2, R⟩ := (op_text (d := d) hd a  : OP d M 300 295 [])
  have n1 : NG M M1 := ng_call rfl e1
  have n2 : NG M1 M2 := ng_call rfl e2
  have g4 : am_rd M1 (-4) 0 = L := (n1 _ _ (by decide)).trans hL
  have g1 : ∀ j, am_rd M1 (-1) j = am_rd M (-1) j := fun j => n1 _ _ (by decide)
  refine ⟨M2, ?_, R, ng_tr n1 n2⟩
  refine (aq_306_11 d 1 447 x3 M).trans ?_
  refine (if_pos (show x3 ≤ am_w32 (am_rd M (-4) 0 - 6) by rw [hL, ax_w32 (by omega) (by omega)]; omega)).trans ?_
  refine (ax_gi x0 (show x3 < am_rd M (-4) 0 by omega)).trans ?_
  refine (if_neg (show ¬ am_and (am_rd M (-1) x3) 63 = 0 by rw [hk]; decide)).trans ?_
  refine (if_neg (show ¬ am_and (am_rd M (-1) x3) 63 = 1 by rw [hk]; decide)).trans ?_
  refine (if_neg (show ¬ am_and (am_rd M (-1) x3) 63 = 2 by rw [hk]; decide)).trans ?_
  refine (if_neg (show ¬ am_and (am_rd M (-1) x3) 63 = 3 by rw [hk]; decide)).trans ?_
  refine (if_neg (show ¬ am_and (am_rd M (-1) x3) 63 = 4 by rw [hk]; decide)).trans ?_
  refine (if_neg (show ¬ am_and (am_rd M (-1) x3) 63 = 5 by rw [hk]; decide)).trans ?_
  refine (if_neg (show ¬ am_and (am_rd M (-1) x3) 63 = 6 by rw [hk]; decide)).trans ?_
  refine (if_neg (show ¬ am_and (am_rd M (-1) x3) 63 = 7 by rw [hk]; decide)).trans ?_
  refine (if_neg (show ¬ am_and (am_rd M (-1) x3) 63 = 8 by rw [hk]; decide)).trans ?_
  refine (if_neg (show ¬ am_and (am_rd M (-1) x3) 63 = 9 by rw [hk]; decide)).trans ?_
  refine (if_neg (show ¬ am_and (am_rd M (-1) x3) 63 = 10 by rw [hk]; decide)).trans ?_
  refine (if_neg (show ¬ am_and (am_rd M (-1) x3) 63 = 11 by rw [hk]; decide)).trans ?_
  refine (if_neg (show ¬ am_and (am_rd M (-1) x3) 63 = 12 by rw [hk]; decide)).trans ?_
  refine (if_neg (show ¬ am_and (am_rd M (-1) x3) 63 = 13 by rw [hk]; decide)).trans ?_
  refine (if_neg (show ¬ am_and (am_rd M (-1) x3) 63 = 14 by rw [hk]; decide)).trans ?_
  refine (if_neg (show ¬ am_and (am_rd M (-1) x3) 63 = 15 by rw [hk]; decide)).trans ?_
  refine (if_pos hk).trans ?_
  rw [show am_ob 1 10 = true from rfl, ax_gt, e1, Option.bind_some]
  dsimp only []
  rw [show am_ob 447 11 = true from rfl, ax_gt, e2, Option.bind_some]
  dsimp only []
  rw [if_pos rfl, aq_306_1065, ax_w32 (by omega) (by omega), ax_let]
theorem lw_17 (a : RR M) (h : LX M L x3) (hk : am_and (am_rd M (-1) x3) 63 = 17) : LW d M x3 := by
  obtain ⟨hL, ⟨x0, x6, L1⟩, hR⟩ := h
  obtain ⟨r, M1, M2, e1, e2, R⟩ := (op_fault (d := d) a  : OP d M 62 83 [(0, am_rd M (-1) (x3 + 1))])
  have n1 : NG M M1 := ng_call rfl e1
  have n2 : NG M1 M2 := ng_call rfl e2
  have g4 : am_rd M1 (-4) 0 = L := (n1 _ _ (by decide)).trans hL
  have g1 : ∀ j, am_rd M1 (-1) j = am_rd M (-1) j := fun j => n1 _ _ (by decide)
  refine ⟨M2, ?_, R, ng_tr n1 n2⟩
  refine (aq_306_11 d 1 447 x3 M).trans ?_
  refine (if_pos (show x3 ≤ am_w32 (am_rd M (-4) 0 - 6) by rw [hL, ax_w32 (by omega) (by omega)]; omega)).trans ?_
  refine (ax_gi x0 (show x3 < am_rd M (-4) 0 by omega)).trans ?_
  refine (if_neg (show ¬ am_and (am_rd M (-1) x3) 63 = 0 by rw [hk]; decide)).trans ?_
  refine (if_neg (show ¬ am_and (am_rd M (-1) x3) 63 = 1 by rw [hk]; decide)).trans ?_
  refine (if_neg (show ¬ am_and (am_rd M (-1) x3) 63 = 2 by rw [hk]; decide)).trans ?_
  refine (if_neg (show ¬ am_and (am_rd M (-1) x3) 63 = 3 by rw [hk]; decide)).trans ?_
  refine (if_neg (show ¬ am_and (am_rd M (-1) x3) 63 = 4 by rw [hk]; decide)).trans ?_
  refine (if_neg (show ¬ am_and (am_rd M (-1) x3) 63 = 5 by rw [hk]; decide)).trans ?_
  refine (if_neg (show ¬ am_and (am_rd M (-1) x3) 63 = 6 by rw [hk]; decide)).trans ?_
  refine (if_neg (show ¬ am_and (am_rd M (-1) x3) 63 = 7 by rw [hk]; decide)).trans ?_
  refine (if_neg (show ¬ am_and (am_rd M (-1) x3) 63 = 8 by rw [hk]; decide)).trans ?_
  refine (if_neg (show ¬ am_and (am_rd M (-1) x3) 63 = 9 by rw [hk]; decide)).trans ?_
  refine (if_neg (show ¬ am_and (am_rd M (-1) x3) 63 = 10 by rw [hk]; decide)).trans ?_
  refine (if_neg (show ¬ am_and (am_rd M (-1) x3) 63 = 11 by rw [hk]; decide)).trans ?_
  refine (if_neg (show ¬ am_and (am_rd M (-1) x3) 63 = 12 by rw [hk]; decide)).trans ?_
  refine (if_neg (show ¬ am_and (am_rd M (-1) x3) 63 = 13 by rw [hk]; decide)).trans ?_
  refine (if_neg (show ¬ am_and (am_rd M (-1) x3) 63 = 14 by rw [hk]; decide)).trans ?_
  refine (if_neg (show ¬ am_and (am_rd M (-1) x3) 63 = 15 by rw [hk]; decide)).trans ?_
  refine (if_neg (show ¬ am_and (am_rd M (-1) x3) 63 = 16 by rw [hk]; decide)).trans ?_
  refine (if_pos hk).trans ?_
  rw [ax_w32 (x := x3 + 1) (by omega) (by omega), hL, ax_gi (by omega) (by omega)]
  rw [show am_ob 1 10 = true from rfl, ax_gt, e1, Option.bind_some]
  dsimp only []
  simp only [g1]
  rw [g4, ax_gi (by omega) (by omega)]
  rw [show am_ob 447 11 = true from rfl, ax_gt, e2, Option.bind_some]
  dsimp only []
  rw [if_pos rfl, aq_306_1065, ax_w32 (by omega) (by omega), ax_let]
theorem lw_18 (a : RR M) (h : LX M L x3) (hk : am_and (am_rd M (-1) x3) 63 = 18) : LW d M x3 := by
  obtain ⟨hL, ⟨x0, x6, L1⟩, hR⟩ := h
  obtain ⟨r, M1, M2, e1, e2, R⟩ := (op_by (d := d) a  : OP d M 139 156 [(0, am_rd M (-1) (x3 + 1))])
  have n1 : NG M M1 := ng_call rfl e1
  have n2 : NG M1 M2 := ng_call rfl e2
  have g4 : am_rd M1 (-4) 0 = L := (n1 _ _ (by decide)).trans hL
  have g1 : ∀ j, am_rd M1 (-1) j = am_rd M (-1) j := fun j => n1 _ _ (by decide)
  refine ⟨M2, ?_, R, ng_tr n1 n2⟩
  refine (aq_306_11 d 1 447 x3 M).trans ?_
  refine (if_pos (show x3 ≤ am_w32 (am_rd M (-4) 0 - 6) by rw [hL, ax_w32 (by omega) (by omega)]; omega)).trans ?_
  refine (ax_gi x0 (show x3 < am_rd M (-4) 0 by omega)).trans ?_
  refine (if_neg (show ¬ am_and (am_rd M (-1) x3) 63 = 0 by rw [hk]; decide)).trans ?_
  refine (if_neg (show ¬ am_and (am_rd M (-1) x3) 63 = 1 by rw [hk]; decide)).trans ?_
  refine (if_neg (show ¬ am_and (am_rd M (-1) x3) 63 = 2 by rw [hk]; decide)).trans ?_
  refine (if_neg (show ¬ am_and (am_rd M (-1) x3) 63 = 3 by rw [hk]; decide)).trans ?_
  refine (if_neg (show ¬ am_and (am_rd M (-1) x3) 63 = 4 by rw [hk]; decide)).trans ?_
  refine (if_neg (show ¬ am_and (am_rd M (-1) x3) 63 = 5 by rw [hk]; decide)).trans ?_
  refine (if_neg (show ¬ am_and (am_rd M (-1) x3) 63 = 6 by rw [hk]; decide)).trans ?_
  refine (if_neg (show ¬ am_and (am_rd M (-1) x3) 63 = 7 by rw [hk]; decide)).trans ?_
  refine (if_neg (show ¬ am_and (am_rd M (-1) x3) 63 = 8 by rw [hk]; decide)).trans ?_
  refine (if_neg (show ¬ am_and (am_rd M (-1) x3) 63 = 9 by rw [hk]; decide)).trans ?_
  refine (if_neg (show ¬ am_and (am_rd M (-1) x3) 63 = 10 by rw [hk]; decide)).trans ?_
  refine (if_neg (show ¬ am_and (am_rd M (-1) x3) 63 = 11 by rw [hk]; decide)).trans ?_
  refine (if_neg (show ¬ am_and (am_rd M (-1) x3) 63 = 12 by rw [hk]; decide)).trans ?_
  refine (if_neg (show ¬ am_and (am_rd M (-1) x3) 63 = 13 by rw [hk]; decide)).trans ?_
  refine (if_neg (show ¬ am_and (am_rd M (-1) x3) 63 = 14 by rw [hk]; decide)).trans ?_
  refine (if_neg (show ¬ am_and (am_rd M (-1) x3) 63 = 15 by rw [hk]; decide)).trans ?_
  refine (if_neg (show ¬ am_and (am_rd M (-1) x3) 63 = 16 by rw [hk]; decide)).trans ?_
  refine (if_neg (show ¬ am_and (am_rd M (-1) x3) 63 = 17 by rw [hk]; decide)).trans ?_
  refine (if_pos hk).trans ?_
  rw [ax_w32 (x := x3 + 1) (by omega) (by omega), hL, ax_gi (by omega) (by omega)]
  rw [show am_ob 1 10 = true from rfl, ax_gt, e1, Option.bind_some]
  dsimp only []
  simp only [g1]
  rw [g4, ax_gi (by omega) (by omega)]
  rw [show am_ob 447 11 = true from rfl, ax_gt, e2, Option.bind_some]
  dsimp only []
  rw [if_pos rfl, aq_306_1065, ax_w32 (by omega) (by omega), ax_let]
theorem lw_19 (a : RR M) (h : LX M L x3) (hk : am_and (am_rd M (-1) x3) 63 = 19) : LW d M x3 := by
  obtain ⟨hL, ⟨x0, x6, L1⟩, hR⟩ := h
  obtain ⟨r, M1, M2, e1, e2, R⟩ := (op_played (d := d) a  : OP d M 291 305 [(0, am_rd M (-1) (x3 + 1))])
  have n1 : NG M M1 := ng_call rfl e1
  have n2 : NG M1 M2 := ng_call rfl e2
  have g4 : am_rd M1 (-4) 0 = L := (n1 _ _ (by decide)).trans hL
  have g1 : ∀ j, am_rd M1 (-1) j = am_rd M (-1) j := fun j => n1 _ _ (by decide)
  refine ⟨M2, ?_, R, ng_tr n1 n2⟩
  refine (aq_306_11 d 1 447 x3 M).trans ?_
  refine (if_pos (show x3 ≤ am_w32 (am_rd M (-4) 0 - 6) by rw [hL, ax_w32 (by omega) (by omega)]; omega)).trans ?_
  refine (ax_gi x0 (show x3 < am_rd M (-4) 0 by omega)).trans ?_
  refine (if_neg (show ¬ am_and (am_rd M (-1) x3) 63 = 0 by rw [hk]; decide)).trans ?_
  refine (if_neg (show ¬ am_and (am_rd M (-1) x3) 63 = 1 by rw [hk]; decide)).trans ?_
  refine (if_neg (show ¬ am_and (am_rd M (-1) x3) 63 = 2 by rw [hk]; decide)).trans ?_
  refine (if_neg (show ¬ am_and (am_rd M (-1) x3) 63 = 3 by rw [hk]; decide)).trans ?_
  refine (if_neg (show ¬ am_and (am_rd M (-1) x3) 63 = 4 by rw [hk]; decide)).trans ?_
  refine (if_neg (show ¬ am_and (am_rd M (-1) x3) 63 = 5 by rw [hk]; decide)).trans ?_
  refine (if_neg (show ¬ am_and (am_rd M (-1) x3) 63 = 6 by rw [hk]; decide)).trans ?_
  refine (if_neg (show ¬ am_and (am_rd M (-1) x3) 63 = 7 by rw [hk]; decide)).trans ?_
  refine (if_neg (show ¬ am_and (am_rd M (-1) x3) 63 = 8 by rw [hk]; decide)).trans ?_
  refine (if_neg (show ¬ am_and (am_rd M (-1) x3) 63 = 9 by rw [hk]; decide)).trans ?_
  refine (if_neg (show ¬ am_and (am_rd M (-1) x3) 63 = 10 by rw [hk]; decide)).trans ?_
  refine (if_neg (show ¬ am_and (am_rd M (-1) x3) 63 = 11 by rw [hk]; decide)).trans ?_
  refine (if_neg (show ¬ am_and (am_rd M (-1) x3) 63 = 12 by rw [hk]; decide)).trans ?_
  refine (if_neg (show ¬ am_and (am_rd M (-1) x3) 63 = 13 by rw [hk]; decide)).trans ?_
  refine (if_neg (show ¬ am_and (am_rd M (-1) x3) 63 = 14 by rw [hk]; decide)).trans ?_
  refine (if_neg (show ¬ am_and (am_rd M (-1) x3) 63 = 15 by rw [hk]; decide)).trans ?_
  refine (if_neg (show ¬ am_and (am_rd M (-1) x3) 63 = 16 by rw [hk]; decide)).trans ?_
  refine (if_neg (show ¬ am_and (am_rd M (-1) x3) 63 = 17 by rw [hk]; decide)).trans ?_
  refine (if_neg (show ¬ am_and (am_rd M (-1) x3) 63 = 18 by rw [hk]; decide)).trans ?_
  refine (if_pos hk).trans ?_
  rw [ax_w32 (x := x3 + 1) (by omega) (by omega), hL, ax_gi (by omega) (by omega)]
  rw [show am_ob 1 10 = true from rfl, ax_gt, e1, Option.bind_some]
  dsimp only []
  simp only [g1]
  rw [g4, ax_gi (by omega) (by omega)]
  rw [show am_ob 447 11 = true from rfl, ax_gt, e2, Option.bind_some]
  dsimp only []
  rw [if_pos rfl, aq_306_1065, ax_w32 (by omega) (by omega), ax_let]
theorem lw_20 (a : RR M) (h : LX M L x3) (hk : am_and (am_rd M (-1) x3) 63 = 20) : LW d M x3 := by
  obtain ⟨hL, ⟨x0, x6, L1⟩, hR⟩ := h
  obtain ⟨r, M1, M2, e1, e2, R⟩ := (op_undo (d := d) a  : OP d M 187 69 [])
  have n1 : NG M M1 := ng_call rfl e1
  have n2 : NG M1 M2 := ng_call rfl e2
  have g4 : am_rd M1 (-4) 0 = L := (n1 _ _ (by decide)).trans hL
  have g1 : ∀ j, am_rd M1 (-1) j = am_rd M (-1) j := fun j => n1 _ _ (by decide)
  refine ⟨M2, ?_, R, ng_tr n1 n2⟩
  refine (aq_306_11 d 1 447 x3 M).trans ?_
  refine (if_pos (show x3 ≤ am_w32 (am_rd M (-4) 0 - 6) by rw [hL, ax_w32 (by omega) (by omega)]; omega)).trans ?_
  refine (ax_gi x0 (show x3 < am_rd M (-4) 0 by omega)).trans ?_
  refine (if_neg (show ¬ am_and (am_rd M (-1) x3) 63 = 0 by rw [hk]; decide)).trans ?_
  refine (if_neg (show ¬ am_and (am_rd M (-1) x3) 63 = 1 by rw [hk]; decide)).trans ?_
  refine (if_neg (show ¬ am_and (am_rd M (-1) x3) 63 = 2 by rw [hk]; decide)).trans ?_
  refine (if_neg (show ¬ am_and (am_rd M (-1) x3) 63 = 3 by rw [hk]; decide)).trans ?_
  refine (if_neg (show ¬ am_and (am_rd M (-1) x3) 63 = 4 by rw [hk]; decide)).trans ?_
  refine (if_neg (show ¬ am_and (am_rd M (-1) x3) 63 = 5 by rw [hk]; decide)).trans ?_
  refine (if_neg (show ¬ am_and (am_rd M (-1) x3) 63 = 6 by rw [hk]; decide)).trans ?_
  refine (if_neg (show ¬ am_and (am_rd M (-1) x3) 63 = 7 by rw [hk]; decide)).trans ?_
  refine (if_neg (show ¬ am_and (am_rd M (-1) x3) 63 = 8 by rw [hk]; decide)).trans ?_
  refine (if_neg (show ¬ am_and (am_rd M (-1) x3) 63 = 9 by rw [hk]; decide)).trans ?_
  refine (if_neg (show ¬ am_and (am_rd M (-1) x3) 63 = 10 by rw [hk]; decide)).trans ?_
  refine (if_neg (show ¬ am_and (am_rd M (-1) x3) 63 = 11 by rw [hk]; decide)).trans ?_
  refine (if_neg (show ¬ am_and (am_rd M (-1) x3) 63 = 12 by rw [hk]; decide)).trans ?_
  refine (if_neg (show ¬ am_and (am_rd M (-1) x3) 63 = 13 by rw [hk]; decide)).trans ?_
  refine (if_neg (show ¬ am_and (am_rd M (-1) x3) 63 = 14 by rw [hk]; decide)).trans ?_
  refine (if_neg (show ¬ am_and (am_rd M (-1) x3) 63 = 15 by rw [hk]; decide)).trans ?_
  refine (if_neg (show ¬ am_and (am_rd M (-1) x3) 63 = 16 by rw [hk]; decide)).trans ?_
  refine (if_neg (show ¬ am_and (am_rd M (-1) x3) 63 = 17 by rw [hk]; decide)).trans ?_
  refine (if_neg (show ¬ am_and (am_rd M (-1) x3) 63 = 18 by rw [hk]; decide)).trans ?_
  refine (if_neg (show ¬ am_and (am_rd M (-1) x3) 63 = 19 by rw [hk]; decide)).trans ?_
  refine (if_pos hk).trans ?_
  rw [show am_ob 1 10 = true from rfl, ax_gt, e1, Option.bind_some]
  dsimp only []
  rw [show am_ob 447 11 = true from rfl, ax_gt, e2, Option.bind_some]
  dsimp only []
  rw [if_pos rfl, aq_306_1065, ax_w32 (by omega) (by omega), ax_let]
theorem lw_21 (a : RR M) (h : LX M L x3) (hk : am_and (am_rd M (-1) x3) 63 = 21) : LW d M x3 := by
  obtain ⟨hL, ⟨x0, x6, L1⟩, hR⟩ := h
  obtain ⟨r, M1, M2, e1, e2, R⟩ := (op_of (d := d) a  : OP d M 243 267 [(0, am_rd M (-1) (x3 + 1)), (0, am_rd M (-1) (x3 + 2))])
  have n1 : NG M M1 := ng_call rfl e1
  have n2 : NG M1 M2 := ng_call rfl e2
  have g4 : am_rd M1 (-4) 0 = L := (n1 _ _ (by decide)).trans hL
  have g1 : ∀ j, am_rd M1 (-1) j = am_rd M (-1) j := fun j => n1 _ _ (by decide)
  refine ⟨M2, ?_, R, ng_tr n1 n2⟩
  refine (aq_306_11 d 1 447 x3 M).trans ?_
  refine (if_pos (show x3 ≤ am_w32 (am_rd M (-4) 0 - 6) by rw [hL, ax_w32 (by omega) (by omega)]; omega)).trans ?_
  refine (ax_gi x0 (show x3 < am_rd M (-4) 0 by omega)).trans ?_
  refine (if_neg (show ¬ am_and (am_rd M (-1) x3) 63 = 0 by rw [hk]; decide)).trans ?_
  refine (if_neg (show ¬ am_and (am_rd M (-1) x3) 63 = 1 by rw [hk]; decide)).trans ?_
  refine (if_neg (show ¬ am_and (am_rd M (-1) x3) 63 = 2 by rw [hk]; decide)).trans ?_
  refine (if_neg (show ¬ am_and (am_rd M (-1) x3) 63 = 3 by rw [hk]; decide)).trans ?_
  refine (if_neg (show ¬ am_and (am_rd M (-1) x3) 63 = 4 by rw [hk]; decide)).trans ?_
  refine (if_neg (show ¬ am_and (am_rd M (-1) x3) 63 = 5 by rw [hk]; decide)).trans ?_
  refine (if_neg (show ¬ am_and (am_rd M (-1) x3) 63 = 6 by rw [hk]; decide)).trans ?_
  refine (if_neg (show ¬ am_and (am_rd M (-1) x3) 63 = 7 by rw [hk]; decide)).trans ?_
  refine (if_neg (show ¬ am_and (am_rd M (-1) x3) 63 = 8 by rw [hk]; decide)).trans ?_
  refine (if_neg (show ¬ am_and (am_rd M (-1) x3) 63 = 9 by rw [hk]; decide)).trans ?_
  refine (if_neg (show ¬ am_and (am_rd M (-1) x3) 63 = 10 by rw [hk]; decide)).trans ?_
  refine (if_neg (show ¬ am_and (am_rd M (-1) x3) 63 = 11 by rw [hk]; decide)).trans ?_
  refine (if_neg (show ¬ am_and (am_rd M (-1) x3) 63 = 12 by rw [hk]; decide)).trans ?_
  refine (if_neg (show ¬ am_and (am_rd M (-1) x3) 63 = 13 by rw [hk]; decide)).trans ?_
  refine (if_neg (show ¬ am_and (am_rd M (-1) x3) 63 = 14 by rw [hk]; decide)).trans ?_
  refine (if_neg (show ¬ am_and (am_rd M (-1) x3) 63 = 15 by rw [hk]; decide)).trans ?_
  refine (if_neg (show ¬ am_and (am_rd M (-1) x3) 63 = 16 by rw [hk]; decide)).trans ?_
  refine (if_neg (show ¬ am_and (am_rd M (-1) x3) 63 = 17 by rw [hk]; decide)).trans ?_
  refine (if_neg (show ¬ am_and (am_rd M (-1) x3) 63 = 18 by rw [hk]; decide)).trans ?_
  refine (if_neg (show ¬ am_and (am_rd M (-1) x3) 63 = 19 by rw [hk]; decide)).trans ?_
  refine (if_neg (show ¬ am_and (am_rd M (-1) x3) 63 = 20 by rw [hk]; decide)).trans ?_
  refine (if_pos hk).trans ?_
  rw [ax_w32 (x := x3 + 1) (by omega) (by omega), ax_w32 (x := x3 + 2) (by omega) (by omega), hL, ax_gi (by omega) (by omega), ax_gi (by omega) (by omega)]
  rw [show am_ob 1 10 = true from rfl, ax_gt, e1, Option.bind_some]
  dsimp only []
  simp only [g1]
  rw [g4, ax_gi (by omega) (by omega), ax_gi (by omega) (by omega)]
  rw [show am_ob 447 11 = true from rfl, ax_gt, e2, Option.bind_some]
  dsimp only []
  rw [if_pos rfl, aq_306_1065, ax_w32 (by omega) (by omega), ax_let]
theorem lw_22 (a : RR M) (h : LX M L x3) (hk : am_and (am_rd M (-1) x3) 63 = 22) : LW d M x3 := by
  obtain ⟨hL, ⟨x0, x6, L1⟩, hR⟩ := h
  obtain ⟨r, M1, M2, e1, e2, R⟩ := (op_hand (d := d) a  : OP d M 214 255 [(0, am_rd M (-1) (x3 + 1)), (0, am_rd M (-1) (x3 + 2)), (0, am_rd M (-1) (x3 + 3))])
  have n1 : NG M M1 := ng_call rfl e1
  have n2 : NG M1 M2 := ng_call rfl e2
  have g4 : am_rd M1 (-4) 0 = L := (n1 _ _ (by decide)).trans hL
  have g1 : ∀ j, am_rd M1 (-1) j = am_rd M (-1) j := fun j => n1 _ _ (by decide)
  refine ⟨M2, ?_, R, ng_tr n1 n2⟩
  refine (aq_306_11 d 1 447 x3 M).trans ?_
  refine (if_pos (show x3 ≤ am_w32 (am_rd M (-4) 0 - 6) by rw [hL, ax_w32 (by omega) (by omega)]; omega)).trans ?_
  refine (ax_gi x0 (show x3 < am_rd M (-4) 0 by omega)).trans ?_
  refine (if_neg (show ¬ am_and (am_rd M (-1) x3) 63 = 0 by rw [hk]; decide)).trans ?_
  refine (if_neg (show ¬ am_and (am_rd M (-1) x3) 63 = 1 by rw [hk]; decide)).trans ?_
  refine (if_neg (show ¬ am_and (am_rd M (-1) x3) 63 = 2 by rw [hk]; decide)).trans ?_
  refine (if_neg (show ¬ am_and (am_rd M (-1) x3) 63 = 3 by rw [hk]; decide)).trans ?_
  refine (if_neg (show ¬ am_and (am_rd M (-1) x3) 63 = 4 by rw [hk]; decide)).trans ?_
  refine (if_neg (show ¬ am_and (am_rd M (-1) x3) 63 = 5 by rw [hk]; decide)).trans ?_
  refine (if_neg (show ¬ am_and (am_rd M (-1) x3) 63 = 6 by rw [hk]; decide)).trans ?_
  refine (if_neg (show ¬ am_and (am_rd M (-1) x3) 63 = 7 by rw [hk]; decide)).trans ?_
  refine (if_neg (show ¬ am_and (am_rd M (-1) x3) 63 = 8 by rw [hk]; decide)).trans ?_
  refine (if_neg (show ¬ am_and (am_rd M (-1) x3) 63 = 9 by rw [hk]; decide)).trans ?_
  refine (if_neg (show ¬ am_and (am_rd M (-1) x3) 63 = 10 by rw [hk]; decide)).trans ?_
  refine (if_neg (show ¬ am_and (am_rd M (-1) x3) 63 = 11 by rw [hk]; decide)).trans ?_
  refine (if_neg (show ¬ am_and (am_rd M (-1) x3) 63 = 12 by rw [hk]; decide)).trans ?_
  refine (if_neg (show ¬ am_and (am_rd M (-1) x3) 63 = 13 by rw [hk]; decide)).trans ?_
  refine (if_neg (show ¬ am_and (am_rd M (-1) x3) 63 = 14 by rw [hk]; decide)).trans ?_
  refine (if_neg (show ¬ am_and (am_rd M (-1) x3) 63 = 15 by rw [hk]; decide)).trans ?_
  refine (if_neg (show ¬ am_and (am_rd M (-1) x3) 63 = 16 by rw [hk]; decide)).trans ?_
  refine (if_neg (show ¬ am_and (am_rd M (-1) x3) 63 = 17 by rw [hk]; decide)).trans ?_
  refine (if_neg (show ¬ am_and (am_rd M (-1) x3) 63 = 18 by rw [hk]; decide)).trans ?_
  refine (if_neg (show ¬ am_and (am_rd M (-1) x3) 63 = 19 by rw [hk]; decide)).trans ?_
  refine (if_neg (show ¬ am_and (am_rd M (-1) x3) 63 = 20 by rw [hk]; decide)).trans ?_
  refine (if_neg (show ¬ am_and (am_rd M (-1) x3) 63 = 21 by rw [hk]; decide)).trans ?_
  refine (if_pos hk).trans ?_
  rw [ax_w32 (x := x3 + 1) (by omega) (by omega), ax_w32 (x := x3 + 2) (by omega) (by omega), ax_w32 (x := x3 + 3) (by omega) (by omega), hL, ax_gi (by omega) (by omega), ax_gi (by omega) (by omega), ax_gi (by omega) (by omega)]
  rw [show am_ob 1 10 = true from rfl, ax_gt, e1, Option.bind_some]
  dsimp only []
  simp only [g1]
  rw [g4, ax_gi (by omega) (by omega), ax_gi (by omega) (by omega), ax_gi (by omega) (by omega)]
  rw [show am_ob 447 11 = true from rfl, ax_gt, e2, Option.bind_some]
  dsimp only []
  rw [if_pos rfl, aq_306_1065, ax_w32 (by omega) (by omega), ax_let]
theorem lw_23 (a : RR M) (h : LX M L x3) (hk : am_and (am_rd M (-1) x3) 63 = 23) : LW d M x3 := by
  obtain ⟨hL, ⟨x0, x6, L1⟩, hR⟩ := h
  obtain ⟨r, M1, M2, e1, e2, R⟩ := (op_ofTurn (d := d) a  : OP d M 188 198 [(0, am_rd M (-1) (x3 + 1)), (0, am_rd M (-1) (x3 + 2))])
  have n1 : NG M M1 := ng_call rfl e1
  have n2 : NG M1 M2 := ng_call rfl e2
  have g4 : am_rd M1 (-4) 0 = L := (n1 _ _ (by decide)).trans hL
  have g1 : ∀ j, am_rd M1 (-1) j = am_rd M (-1) j := fun j => n1 _ _ (by decide)
  refine ⟨M2, ?_, R, ng_tr n1 n2⟩
  refine (aq_306_11 d 1 447 x3 M).trans ?_
  refine (if_pos (show x3 ≤ am_w32 (am_rd M (-4) 0 - 6) by rw [hL, ax_w32 (by omega) (by omega)]; omega)).trans ?_
  refine (ax_gi x0 (show x3 < am_rd M (-4) 0 by omega)).trans ?_
  refine (if_neg (show ¬ am_and (am_rd M (-1) x3) 63 = 0 by rw [hk]; decide)).trans ?_
  refine (if_neg (show ¬ am_and (am_rd M (-1) x3) 63 = 1 by rw [hk]; decide)).trans ?_
  refine (if_neg (show ¬ am_and (am_rd M (-1) x3) 63 = 2 by rw [hk]; decide)).trans ?_
  refine (if_neg (show ¬ am_and (am_rd M (-1) x3) 63 = 3 by rw [hk]; decide)).trans ?_
  refine (if_neg (show ¬ am_and (am_rd M (-1) x3) 63 = 4 by rw [hk]; decide)).trans ?_
  refine (if_neg (show ¬ am_and (am_rd M (-1) x3) 63 = 5 by rw [hk]; decide)).trans ?_
  refine (if_neg (show ¬ am_and (am_rd M (-1) x3) 63 = 6 by rw [hk]; decide)).trans ?_
  refine (if_neg (show ¬ am_and (am_rd M (-1) x3) 63 = 7 by rw [hk]; decide)).trans ?_
  refine (if_neg (show ¬ am_and (am_rd M (-1) x3) 63 = 8 by rw [hk]; decide)).trans ?_
  refine (if_neg (show ¬ am_and (am_rd M (-1) x3) 63 = 9 by rw [hk]; decide)).trans ?_
  refine (if_neg (show ¬ am_and (am_rd M (-1) x3) 63 = 10 by rw [hk]; decide)).trans ?_
  refine (if_neg (show ¬ am_and (am_rd M (-1) x3) 63 = 11 by rw [hk]; decide)).trans ?_
  refine (if_neg (show ¬ am_and (am_rd M (-1) x3) 63 = 12 by rw [hk]; decide)).trans ?_
  refine (if_neg (show ¬ am_and (am_rd M (-1) x3) 63 = 13 by rw [hk]; decide)).trans ?_
  refine (if_neg (show ¬ am_and (am_rd M (-1) x3) 63 = 14 by rw [hk]; decide)).trans ?_
  refine (if_neg (show ¬ am_and (am_rd M (-1) x3) 63 = 15 by rw [hk]; decide)).trans ?_
  refine (if_neg (show ¬ am_and (am_rd M (-1) x3) 63 = 16 by rw [hk]; decide)).trans ?_
  refine (if_neg (show ¬ am_and (am_rd M (-1) x3) 63 = 17 by rw [hk]; decide)).trans ?_
  refine (if_neg (show ¬ am_and (am_rd M (-1) x3) 63 = 18 by rw [hk]; decide)).trans ?_
  refine (if_neg (show ¬ am_and (am_rd M (-1) x3) 63 = 19 by rw [hk]; decide)).trans ?_
  refine (if_neg (show ¬ am_and (am_rd M (-1) x3) 63 = 20 by rw [hk]; decide)).trans ?_
  refine (if_neg (show ¬ am_and (am_rd M (-1) x3) 63 = 21 by rw [hk]; decide)).trans ?_
  refine (if_neg (show ¬ am_and (am_rd M (-1) x3) 63 = 22 by rw [hk]; decide)).trans ?_
  refine (if_pos hk).trans ?_
  rw [ax_w32 (x := x3 + 1) (by omega) (by omega), ax_w32 (x := x3 + 2) (by omega) (by omega), hL, ax_gi (by omega) (by omega), ax_gi (by omega) (by omega)]
  rw [show am_ob 1 10 = true from rfl, ax_gt, e1, Option.bind_some]
  dsimp only []
  simp only [g1]
  rw [g4, ax_gi (by omega) (by omega), ax_gi (by omega) (by omega)]
  rw [show am_ob 447 11 = true from rfl, ax_gt, e2, Option.bind_some]
  dsimp only []
  rw [if_pos rfl, aq_306_1065, ax_w32 (by omega) (by omega), ax_let]
theorem lw_24 (a : RR M) (h : LX M L x3) (hk : am_and (am_rd M (-1) x3) 63 = 24) : LW d M x3 := by
  obtain ⟨hL, ⟨x0, x6, L1⟩, hR⟩ := h
  obtain ⟨r, M1, M2, e1, e2, R⟩ := (op_foretold (d := d) a  : OP d M 292 297 [(0, am_rd M (-1) (x3 + 1)), (0, am_rd M (-1) (x3 + 2))])
  have n1 : NG M M1 := ng_call rfl e1
  have n2 : NG M1 M2 := ng_call rfl e2
  have g4 : am_rd M1 (-4) 0 = L := (n1 _ _ (by decide)).trans hL
  have g1 : ∀ j, am_rd M1 (-1) j = am_rd M (-1) j := fun j => n1 _ _ (by decide)
  refine ⟨M2, ?_, R, ng_tr n1 n2⟩
  refine (aq_306_11 d 1 447 x3 M).trans ?_
  refine (if_pos (show x3 ≤ am_w32 (am_rd M (-4) 0 - 6) by rw [hL, ax_w32 (by omega) (by omega)]; omega)).trans ?_
  refine (ax_gi x0 (show x3 < am_rd M (-4) 0 by omega)).trans ?_
  refine (if_neg (show ¬ am_and (am_rd M (-1) x3) 63 = 0 by rw [hk]; decide)).trans ?_
  refine (if_neg (show ¬ am_and (am_rd M (-1) x3) 63 = 1 by rw [hk]; decide)).trans ?_
  refine (if_neg (show ¬ am_and (am_rd M (-1) x3) 63 = 2 by rw [hk]; decide)).trans ?_
  refine (if_neg (show ¬ am_and (am_rd M (-1) x3) 63 = 3 by rw [hk]; decide)).trans ?_
  refine (if_neg (show ¬ am_and (am_rd M (-1) x3) 63 = 4 by rw [hk]; decide)).trans ?_
  refine (if_neg (show ¬ am_and (am_rd M (-1) x3) 63 = 5 by rw [hk]; decide)).trans ?_
  refine (if_neg (show ¬ am_and (am_rd M (-1) x3) 63 = 6 by rw [hk]; decide)).trans ?_
  refine (if_neg (show ¬ am_and (am_rd M (-1) x3) 63 = 7 by rw [hk]; decide)).trans ?_
  refine (if_neg (show ¬ am_and (am_rd M (-1) x3) 63 = 8 by rw [hk]; decide)).trans ?_
  refine (if_neg (show ¬ am_and (am_rd M (-1) x3) 63 = 9 by rw [hk]; decide)).trans ?_
  refine (if_neg (show ¬ am_and (am_rd M (-1) x3) 63 = 10 by rw [hk]; decide)).trans ?_
  refine (if_neg (show ¬ am_and (am_rd M (-1) x3) 63 = 11 by rw [hk]; decide)).trans ?_
  refine (if_neg (show ¬ am_and (am_rd M (-1) x3) 63 = 12 by rw [hk]; decide)).trans ?_
  refine (if_neg (show ¬ am_and (am_rd M (-1) x3) 63 = 13 by rw [hk]; decide)).trans ?_
  refine (if_neg (show ¬ am_and (am_rd M (-1) x3) 63 = 14 by rw [hk]; decide)).trans ?_
  refine (if_neg (show ¬ am_and (am_rd M (-1) x3) 63 = 15 by rw [hk]; decide)).trans ?_
  refine (if_neg (show ¬ am_and (am_rd M (-1) x3) 63 = 16 by rw [hk]; decide)).trans ?_
  refine (if_neg (show ¬ am_and (am_rd M (-1) x3) 63 = 17 by rw [hk]; decide)).trans ?_
  refine (if_neg (show ¬ am_and (am_rd M (-1) x3) 63 = 18 by rw [hk]; decide)).trans ?_
  refine (if_neg (show ¬ am_and (am_rd M (-1) x3) 63 = 19 by rw [hk]; decide)).trans ?_
  refine (if_neg (show ¬ am_and (am_rd M (-1) x3) 63 = 20 by rw [hk]; decide)).trans ?_
  refine (if_neg (show ¬ am_and (am_rd M (-1) x3) 63 = 21 by rw [hk]; decide)).trans ?_
  refine (if_neg (show ¬ am_and (am_rd M (-1) x3) 63 = 22 by rw [hk]; decide)).trans ?_
  refine (if_neg (show ¬ am_and (am_rd M (-1) x3) 63 = 23 by rw [hk]; decide)).trans ?_
  refine (if_pos hk).trans ?_
  rw [ax_w32 (x := x3 + 1) (by omega) (by omega), ax_w32 (x := x3 + 2) (by omega) (by omega), hL, ax_gi (by omega) (by omega), ax_gi (by omega) (by omega)]
  rw [show am_ob 1 10 = true from rfl, ax_gt, e1, Option.bind_some]
  dsimp only []
  simp only [g1]
  rw [g4, ax_gi (by omega) (by omega), ax_gi (by omega) (by omega)]
  rw [show am_ob 447 11 = true from rfl, ax_gt, e2, Option.bind_some]
  dsimp only []
  rw [if_pos rfl, aq_306_1065, ax_w32 (by omega) (by omega), ax_let]
theorem lw_25 (a : RR M) (h : LX M L x3) (hk : am_and (am_rd M (-1) x3) 63 = 25) : LW d M x3 := by
  obtain ⟨hL, ⟨x0, x6, L1⟩, hR⟩ := h
  obtain ⟨r, M1, M2, e1, e2, R⟩ := (op_free (d := d) a  : OP d M 293 298 [(0, am_rd M (-1) (x3 + 1)), (0, am_rd M (-1) (x3 + 2))])
  have n1 : NG M M1 := ng_call rfl e1
  have n2 : NG M1 M2 := ng_call rfl e2
  have g4 : am_rd M1 (-4) 0 = L := (n1 _ _ (by decide)).trans hL
  have g1 : ∀ j, am_rd M1 (-1) j = am_rd M (-1) j := fun j => n1 _ _ (by decide)
  refine ⟨M2, ?_, R, ng_tr n1 n2⟩
  refine (aq_306_11 d 1 447 x3 M).trans ?_
  refine (if_pos (show x3 ≤ am_w32 (am_rd M (-4) 0 - 6) by rw [hL, ax_w32 (by omega) (by omega)]; omega)).trans ?_
  refine (ax_gi x0 (show x3 < am_rd M (-4) 0 by omega)).trans ?_
  refine (if_neg (show ¬ am_and (am_rd M (-1) x3) 63 = 0 by rw [hk]; decide)).trans ?_
  refine (if_neg (show ¬ am_and (am_rd M (-1) x3) 63 = 1 by rw [hk]; decide)).trans ?_
  refine (if_neg (show ¬ am_and (am_rd M (-1) x3) 63 = 2 by rw [hk]; decide)).trans ?_
  refine (if_neg (show ¬ am_and (am_rd M (-1) x3) 63 = 3 by rw [hk]; decide)).trans ?_
  refine (if_neg (show ¬ am_and (am_rd M (-1) x3) 63 = 4 by rw [hk]; decide)).trans ?_
  refine (if_neg (show ¬ am_and (am_rd M (-1) x3) 63 = 5 by rw [hk]; decide)).trans ?_
  refine (if_neg (show ¬ am_and (am_rd M (-1) x3) 63 = 6 by rw [hk]; decide)).trans ?_
  refine (if_neg (show ¬ am_and (am_rd M (-1) x3) 63 = 7 by rw [hk]; decide)).trans ?_
  refine (if_neg (show ¬ am_and (am_rd M (-1) x3) 63 = 8 by rw [hk]; decide)).trans ?_
  refine (if_neg (show ¬ am_and (am_rd M (-1) x3) 63 = 9 by rw [hk]; decide)).trans ?_
  refine (if_neg (show ¬ am_and (am_rd M (-1) x3) 63 = 10 by rw [hk]; decide)).trans ?_
  refine (if_neg (show ¬ am_and (am_rd M (-1) x3) 63 = 11 by rw [hk]; decide)).trans ?_
  refine (if_neg (show ¬ am_and (am_rd M (-1) x3) 63 = 12 by rw [hk]; decide)).trans ?_
  refine (if_neg (show ¬ am_and (am_rd M (-1) x3) 63 = 13 by rw [hk]; decide)).trans ?_
  refine (if_neg (show ¬ am_and (am_rd M (-1) x3) 63 = 14 by rw [hk]; decide)).trans ?_
  refine (if_neg (show ¬ am_and (am_rd M (-1) x3) 63 = 15 by rw [hk]; decide)).trans ?_
  refine (if_neg (show ¬ am_and (am_rd M (-1) x3) 63 = 16 by rw [hk]; decide)).trans ?_
  refine (if_neg (show ¬ am_and (am_rd M (-1) x3) 63 = 17 by rw [hk]; decide)).trans ?_
  refine (if_neg (show ¬ am_and (am_rd M (-1) x3) 63 = 18 by rw [hk]; decide)).trans ?_
  refine (if_neg (show ¬ am_and (am_rd M (-1) x3) 63 = 19 by rw [hk]; decide)).trans ?_
  refine (if_neg (show ¬ am_and (am_rd M (-1) x3) 63 = 20 by rw [hk]; decide)).trans ?_
  refine (if_neg (show ¬ am_and (am_rd M (-1) x3) 63 = 21 by rw [hk]; decide)).trans ?_
  refine (if_neg (show ¬ am_and (am_rd M (-1) x3) 63 = 22 by rw [hk]; decide)).trans ?_
  refine (if_neg (show ¬ am_and (am_rd M (-1) x3) 63 = 23 by rw [hk]; decide)).trans ?_
  refine (if_neg (show ¬ am_and (am_rd M (-1) x3) 63 = 24 by rw [hk]; decide)).trans ?_
  refine (if_pos hk).trans ?_
  rw [ax_w32 (x := x3 + 1) (by omega) (by omega), ax_w32 (x := x3 + 2) (by omega) (by omega), hL, ax_gi (by omega) (by omega), ax_gi (by omega) (by omega)]
  rw [show am_ob 1 10 = true from rfl, ax_gt, e1, Option.bind_some]
  dsimp only []
  simp only [g1]
  rw [g4, ax_gi (by omega) (by omega), ax_gi (by omega) (by omega)]
  rw [show am_ob 447 11 = true from rfl, ax_gt, e2, Option.bind_some]
  dsimp only []
  rw [if_pos rfl, aq_306_1065, ax_w32 (by omega) (by omega), ax_let]
theorem lw_26 (a : RR M) (h : LX M L x3) (hk : am_and (am_rd M (-1) x3) 63 = 26) : LW d M x3 := by
  obtain ⟨hL, ⟨x0, x6, L1⟩, hR⟩ := h
  obtain ⟨r, M1, M2, e1, e2, R⟩ := (op_lasts (d := d) a  : OP d M 294 299 [(0, am_rd M (-1) (x3 + 1)), (0, am_rd M (-1) (x3 + 2))])
  have n1 : NG M M1 := ng_call rfl e1
  have n2 : NG M1 M2 := ng_call rfl e2
  have g4 : am_rd M1 (-4) 0 = L := (n1 _ _ (by decide)).trans hL
  have g1 : ∀ j, am_rd M1 (-1) j = am_rd M (-1) j := fun j => n1 _ _ (by decide)
  refine ⟨M2, ?_, R, ng_tr n1 n2⟩
  refine (aq_306_11 d 1 447 x3 M).trans ?_
  refine (if_pos (show x3 ≤ am_w32 (am_rd M (-4) 0 - 6) by rw [hL, ax_w32 (by omega) (by omega)]; omega)).trans ?_
  refine (ax_gi x0 (show x3 < am_rd M (-4) 0 by omega)).trans ?_
  refine (if_neg (show ¬ am_and (am_rd M (-1) x3) 63 = 0 by rw [hk]; decide)).trans ?_
  refine (if_neg (show ¬ am_and (am_rd M (-1) x3) 63 = 1 by rw [hk]; decide)).trans ?_
  refine (if_neg (show ¬ am_and (am_rd M (-1) x3) 63 = 2 by rw [hk]; decide)).trans ?_
  refine (if_neg (show ¬ am_and (am_rd M (-1) x3) 63 = 3 by rw [hk]; decide)).trans ?_
  refine (if_neg (show ¬ am_and (am_rd M (-1) x3) 63 = 4 by rw [hk]; decide)).trans ?_
  refine (if_neg (show ¬ am_and (am_rd M (-1) x3) 63 = 5 by rw [hk]; decide)).trans ?_
  refine (if_neg (show ¬ am_and (am_rd M (-1) x3) 63 = 6 by rw [hk]; decide)).trans ?_
  refine (if_neg (show ¬ am_and (am_rd M (-1) x3) 63 = 7 by rw [hk]; decide)).trans ?_
  refine (if_neg (show ¬ am_and (am_rd M (-1) x3) 63 = 8 by rw [hk]; decide)).trans ?_
  refine (if_neg (show ¬ am_and (am_rd M (-1) x3) 63 = 9 by rw [hk]; decide)).trans ?_
  refine (if_neg (show ¬ am_and (am_rd M (-1) x3) 63 = 10 by rw [hk]; decide)).trans ?_
  refine (if_neg (show ¬ am_and (am_rd M (-1) x3) 63 = 11 by rw [hk]; decide)).trans ?_
  refine (if_neg (show ¬ am_and (am_rd M (-1) x3) 63 = 12 by rw [hk]; decide)).trans ?_
  refine (if_neg (show ¬ am_and (am_rd M (-1) x3) 63 = 13 by rw [hk]; decide)).trans ?_
  refine (if_neg (show ¬ am_and (am_rd M (-1) x3) 63 = 14 by rw [hk]; decide)).trans ?_
  refine (if_neg (show ¬ am_and (am_rd M (-1) x3) 63 = 15 by rw [hk]; decide)).trans ?_
  refine (if_neg (show ¬ am_and (am_rd M (-1) x3) 63 = 16 by rw [hk]; decide)).trans ?_
  refine (if_neg (show ¬ am_and (am_rd M (-1) x3) 63 = 17 by rw [hk]; decide)).trans ?_
  refine (if_neg (show ¬ am_and (am_rd M (-1) x3) 63 = 18 by rw [hk]; decide)).trans ?_
  refine (if_neg (show ¬ am_and (am_rd M (-1) x3) 63 = 19 by rw [hk]; decide)).trans ?_
  refine (if_neg (show ¬ am_and (am_rd M (-1) x3) 63 = 20 by rw [hk]; decide)).trans ?_
  refine (if_neg (show ¬ am_and (am_rd M (-1) x3) 63 = 21 by rw [hk]; decide)).trans ?_
  refine (if_neg (show ¬ am_and (am_rd M (-1) x3) 63 = 22 by rw [hk]; decide)).trans ?_
  refine (if_neg (show ¬ am_and (am_rd M (-1) x3) 63 = 23 by rw [hk]; decide)).trans ?_
  refine (if_neg (show ¬ am_and (am_rd M (-1) x3) 63 = 24 by rw [hk]; decide)).trans ?_
  refine (if_neg (show ¬ am_and (am_rd M (-1) x3) 63 = 25 by rw [hk]; decide)).trans ?_
  refine (if_pos hk).trans ?_
  rw [ax_w32 (x := x3 + 1) (by omega) (by omega), ax_w32 (x := x3 + 2) (by omega) (by omega), hL, ax_gi (by omega) (by omega), ax_gi (by omega) (by omega)]
  rw [show am_ob 1 10 = true from rfl, ax_gt, e1, Option.bind_some]
  dsimp only []
  simp only [g1]
  rw [g4, ax_gi (by omega) (by omega), ax_gi (by omega) (by omega)]
  rw [show am_ob 447 11 = true from rfl, ax_gt, e2, Option.bind_some]
  dsimp only []
  rw [if_pos rfl, aq_306_1065, ax_w32 (by omega) (by omega), ax_let]
theorem lw_27 (a : RR M) (h : LX M L x3) (hk : am_and (am_rd M (-1) x3) 63 = 27) : LW d M x3 := by
  obtain ⟨hL, ⟨x0, x6, L1⟩, hR⟩ := h
  obtain ⟨r, M1, M2, e1, e2, R⟩ := (op_wrongs (d := d) a  : OP d M 262 285 [(0, am_rd M (-1) (x3 + 1)), (0, am_rd M (-1) (x3 + 2)), (0, am_rd M (-1) (x3 + 3)), (0, am_rd M (-1) (x3 + 4)), (0, am_rd M (-1) (x3 + 5))])
  have n1 : NG M M1 := ng_call rfl e1
  have n2 : NG M1 M2 := ng_call rfl e2
  have g4 : am_rd M1 (-4) 0 = L := (n1 _ _ (by decide)).trans hL
  have g1 : ∀ j, am_rd M1 (-1) j = am_rd M (-1) j := fun j => n1 _ _ (by decide)
  refine ⟨M2, ?_, R, ng_tr n1 n2⟩
  refine (aq_306_11 d 1 447 x3 M).trans ?_
  refine (if_pos (show x3 ≤ am_w32 (am_rd M (-4) 0 - 6) by rw [hL, ax_w32 (by omega) (by omega)]; omega)).trans ?_
  refine (ax_gi x0 (show x3 < am_rd M (-4) 0 by omega)).trans ?_
  refine (if_neg (show ¬ am_and (am_rd M (-1) x3) 63 = 0 by rw [hk]; decide)).trans ?_
  refine (if_neg (show ¬ am_and (am_rd M (-1) x3) 63 = 1 by rw [hk]; decide)).trans ?_
  refine (if_neg (show ¬ am_and (am_rd M (-1) x3) 63 = 2 by rw [hk]; decide)).trans ?_
  refine (if_neg (show ¬ am_and (am_rd M (-1) x3) 63 = 3 by rw [hk]; decide)).trans ?_
  refine (if_neg (show ¬ am_and (am_rd M (-1) x3) 63 = 4 by rw [hk]; decide)).trans ?_
  refine (if_neg (show ¬ am_and (am_rd M (-1) x3) 63 = 5 by rw [hk]; decide)).trans ?_
  refine (if_neg (show ¬ am_and (am_rd M (-1) x3) 63 = 6 by rw [hk]; decide)).trans ?_
  refine (if_neg (show ¬ am_and (am_rd M (-1) x3) 63 = 7 by rw [hk]; decide)).trans ?_
  refine (if_neg (show ¬ am_and (am_rd M (-1) x3) 63 = 8 by rw [hk]; decide)).trans ?_
  refine (if_neg (show ¬ am_and (am_rd M (-1) x3) 63 = 9 by rw [hk]; decide)).trans ?_
  refine (if_neg (show ¬ am_and (am_rd M (-1) x3) 63 = 10 by rw [hk]; decide)).trans ?_
  refine (if_neg (show ¬ am_and (am_rd M (-1) x3) 63 = 11 by rw [hk]; decide)).trans ?_
  refine (if_neg (show ¬ am_and (am_rd M (-1) x3) 63 = 12 by rw [hk]; decide)).trans ?_
  refine (if_neg (show ¬ am_and (am_rd M (-1) x3) 63 = 13 by rw [hk]; decide)).trans ?_
  refine (if_neg (show ¬ am_and (am_rd M (-1) x3) 63 = 14 by rw [hk]; decide)).trans ?_
  refine (if_neg (show ¬ am_and (am_rd M (-1) x3) 63 = 15 by rw [hk]; decide)).trans ?_
  refine (if_neg (show ¬ am_and (am_rd M (-1) x3) 63 = 16 by rw [hk]; decide)).trans ?_
  refine (if_neg (show ¬ am_and (am_rd M (-1) x3) 63 = 17 by rw [hk]; decide)).trans ?_
  refine (if_neg (show ¬ am_and (am_rd M (-1) x3) 63 = 18 by rw [hk]; decide)).trans ?_
  refine (if_neg (show ¬ am_and (am_rd M (-1) x3) 63 = 19 by rw [hk]; decide)).trans ?_
  refine (if_neg (show ¬ am_and (am_rd M (-1) x3) 63 = 20 by rw [hk]; decide)).trans ?_
  refine (if_neg (show ¬ am_and (am_rd M (-1) x3) 63 = 21 by rw [hk]; decide)).trans ?_
  refine (if_neg (show ¬ am_and (am_rd M (-1) x3) 63 = 22 by rw [hk]; decide)).trans ?_
  refine (if_neg (show ¬ am_and (am_rd M (-1) x3) 63 = 23 by rw [hk]; decide)).trans ?_
  refine (if_neg (show ¬ am_and (am_rd M (-1) x3) 63 = 24 by rw [hk]; decide)).trans ?_
  refine (if_neg (show ¬ am_and (am_rd M (-1) x3) 63 = 25 by rw [hk]; decide)).trans ?_
  refine (if_neg (show ¬ am_and (am_rd M (-1) x3) 63 = 26 by rw [hk]; decide)).trans ?_
  refine (if_pos hk).trans ?_
  rw [ax_w32 (x := x3 + 1) (by omega) (by omega), ax_w32 (x := x3 + 2) (by omega) (by omega), ax_w32 (x := x3 + 3) (by omega) (by omega), ax_w32 (x := x3 + 4) (by omega) (by omega), ax_w32 (x := x3 + 5) (by omega) (by omega), hL, ax_gi (by omega) (by omega), ax_gi (by omega) (by omega), ax_gi (by omega) (by omega), ax_gi (by omega) (by omega), ax_gi (by omega) (by omega)]
  rw [show am_ob 1 10 = true from rfl, ax_gt, e1, Option.bind_some]
  dsimp only []
  simp only [g1]
  rw [g4, ax_gi (by omega) (by omega), ax_gi (by omega) (by omega), ax_gi (by omega) (by omega), ax_gi (by omega) (by omega), ax_gi (by omega) (by omega)]
  rw [show am_ob 447 11 = true from rfl, ax_gt, e2, Option.bind_some]
  dsimp only []
  rw [if_pos rfl, aq_306_1065, ax_w32 (by omega) (by omega), ax_let]
end
