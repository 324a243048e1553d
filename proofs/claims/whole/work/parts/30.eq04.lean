/-! equations of the methods 123 .. 123 -/
-- 123: UnlearnedHand$Laws.run(LUnlearnedHand$Script;II)I
set_option maxRecDepth 10000 in
theorem aq_123 (d : Nat) (x0 x1 x2 x3 : Int) (M : am_M) : am_Call d 123 [(2, x0), (2, x1), (0, x2), (0, x3)] M = (am_Ex d 123 5 [(2, x0), (2, x1), am_N, (0, x3), (0, 0), (0, x2), am_N, am_N, am_N, am_N, am_N, am_N, am_N] [] M) := by
  show am_Ex d 123 0 [(2, x0), (2, x1), (0, x2), (0, x3), am_N, am_N, am_N, am_N, am_N, am_N, am_N, am_N, am_N] [] M = _
  refine (am_e0 rfl rfl).trans ?_
  refine (am_e0 rfl rfl).trans ?_
  refine (am_e0 rfl rfl).trans ?_
  refine (am_e0 rfl rfl).trans ?_
  exact (am_e5 rfl).trans rfl
set_option maxRecDepth 10000 in
theorem aq_123_5 (d : Nat) (x0 x1 x3 x4 x5 : Int) (M : am_M) : am_Ex d 123 5 [(2, x0), (2, x1), am_N, (0, x3), (0, x4), (0, x5), am_N, am_N, am_N, am_N, am_N, am_N, am_N] [] M = (if x5 < x3 then (if x5 < 0 then (am_Ex d 123 138 [(2, x0), am_N, am_N, am_N, (0, x4), am_N, am_N, am_N, am_N, am_N, am_N, am_N, am_N] [] M) else (if x5 < 300 then (am_g (am_ob x1 8) <| am_g (am_ar (am_rd M x1 0) 20 x5) <| am_let (am_rd M (am_rd M x1 0) x5) fun v106 => if v106 < 0 then (am_Ex d 123 24 [(2, x0), (2, x1), am_N, (0, x3), (0, x4), (0, x5), (0, v106), am_N, am_N, am_N, am_N, am_N, am_N] [(0, am_w32 (-v106))] M) else (am_Ex d 123 24 [(2, x0), (2, x1), am_N, (0, x3), (0, x4), (0, x5), (0, v106), am_N, am_N, am_N, am_N, am_N, am_N] [(0, 42)] M)) else (am_Ex d 123 138 [(2, x0), am_N, am_N, am_N, (0, x4), am_N, am_N, am_N, am_N, am_N, am_N, am_N, am_N] [] M))) else (am_Ex d 123 138 [(2, x0), am_N, am_N, am_N, (0, x4), am_N, am_N, am_N, am_N, am_N, am_N, am_N, am_N] [] M)) := by
  refine (am_e0 rfl rfl).trans ?_
  refine (am_e0 rfl rfl).trans ?_
  refine (am_i_ge rfl).trans (am_if_congr (fun c101 => ?_) (fun c101 => ?_))
  · refine (am_e0 rfl rfl).trans ?_
    refine (am_z_lt rfl).trans (am_if_congr (fun c102 => ?_) (fun c102 => ?_))
    · exact (am_e5 rfl).trans rfl
    · refine (am_e0 rfl rfl).trans ?_
      refine (am_e0 rfl rfl).trans ?_
      refine (am_i_ge rfl).trans (am_if_congr (fun c103 => ?_) (fun c103 => ?_))
      · refine (am_e0 rfl rfl).trans ?_
        refine (am_gf (c := 8) (t := 2) rfl rfl rfl).trans (am_g_congr fun h104 => ?_)
        refine (am_e0 rfl rfl).trans ?_
        refine (am_ial rfl).trans (am_g_congr fun h105 => ?_)
        refine (am_e0 rfl rfl).trans ?_
        refine am_lets (L := fun v106 => [(2, x0), (2, x1), am_N, (0, x3), (0, x4), (0, x5), (0, v106), am_N, am_N, am_N, am_N, am_N, am_N]) (fun v106 => ?_)
        refine (am_e0 rfl rfl).trans ?_
        refine (am_z_ge rfl).trans (am_if_congr (fun c107 => ?_) (fun c107 => ?_))
        · refine (am_e0 rfl rfl).trans ?_
          refine (am_e0 rfl rfl).trans ?_
          refine (am_e1 rfl rfl).trans ?_
          exact rfl
        · refine (am_e0 rfl rfl).trans ?_
          exact rfl
      · exact (am_e5 rfl).trans rfl
  · exact (am_e5 rfl).trans rfl
set_option maxRecDepth 10000 in
theorem aq_123_138 (d : Nat) (x0 x4 : Int) (M : am_M) : am_Ex d 123 138 [(2, x0), am_N, am_N, am_N, (0, x4), am_N, am_N, am_N, am_N, am_N, am_N, am_N, am_N] [] M = (if x4 ≤ 0 then (am_Ex d 123 148 [(2, x0), am_N, am_N, am_N, (0, x4), am_N, am_N, am_N, am_N, am_N, am_N, am_N, am_N] [(0, 0)] M) else (am_g (am_ob x0 4) <| am_g (am_ar (am_rd M x0 3) 20 (am_w32 (x4 - 1))) <| am_Ex d 123 148 [(2, x0), am_N, am_N, am_N, (0, x4), am_N, am_N, am_N, am_N, am_N, am_N, am_N, am_N] [(0, am_rd M (am_rd M x0 3) (am_w32 (x4 - 1)))] M)) := by
  refine (am_e0 rfl rfl).trans ?_
  refine (am_z_le rfl).trans (am_if_congr (fun c101 => ?_) (fun c101 => ?_))
  · refine (am_e0 rfl rfl).trans ?_
    exact rfl
  · refine (am_e0 rfl rfl).trans ?_
    refine (am_gf (c := 4) (t := 2) rfl rfl rfl).trans (am_g_congr fun h102 => ?_)
    refine (am_e0 rfl rfl).trans ?_
    refine (am_e0 rfl rfl).trans ?_
    refine (am_e0 rfl rfl).trans ?_
    refine (am_ial rfl).trans (am_g_congr fun h103 => ?_)
    refine (am_e1 rfl rfl).trans ?_
    exact rfl
set_option maxRecDepth 10000 in
theorem aq_123_24 (d : Nat) (y0 x0 x1 x3 x4 x5 x6 : Int) (M : am_M) : am_Ex d 123 24 [(2, x0), (2, x1), am_N, (0, x3), (0, x4), (0, x5), (0, x6), am_N, am_N, am_N, am_N, am_N, am_N] [(0, y0)] M = (am_let (y0) fun v101 => if v101 = 42 then (am_Ex d 123 35 [(2, x0), (2, x1), am_N, (0, x3), (0, x4), (0, x5), (0, x6), (0, v101), am_N, am_N, am_N, am_N, am_N] [] M) else (if v101 < 12 then (am_Ex d 123 38 [(2, x0), (2, x1), am_N, (0, x3), (0, x4), (0, x5), (0, x6), (0, v101), am_N, am_N, am_N, am_N, am_N] [] M) else (if v101 ≤ 20 then (am_Ex d 123 35 [(2, x0), (2, x1), am_N, (0, x3), (0, x4), (0, x5), (0, x6), (0, v101), am_N, am_N, am_N, am_N, am_N] [] M) else (am_Ex d 123 38 [(2, x0), (2, x1), am_N, (0, x3), (0, x4), (0, x5), (0, x6), (0, v101), am_N, am_N, am_N, am_N, am_N] [] M)))) := by
  refine (am_e0 rfl rfl).trans ?_
  refine am_lets (L := fun v101 => [(2, x0), (2, x1), am_N, (0, x3), (0, x4), (0, x5), (0, x6), (0, v101), am_N, am_N, am_N, am_N, am_N]) (fun v101 => ?_)
  refine (am_e0 rfl rfl).trans ?_
  refine (am_e0 rfl rfl).trans ?_
  refine (am_i_eq rfl).trans (am_if_congr (fun c102 => ?_) (fun c102 => ?_))
  · exact (am_e5 rfl).trans rfl
  · refine (am_e0 rfl rfl).trans ?_
    refine (am_e0 rfl rfl).trans ?_
    refine (am_i_lt rfl).trans (am_if_congr (fun c103 => ?_) (fun c103 => ?_))
    · exact (am_e5 rfl).trans rfl
    · refine (am_e0 rfl rfl).trans ?_
      refine (am_e0 rfl rfl).trans ?_
      refine (am_i_gt rfl).trans (am_if_congr (fun c104 => ?_) (fun c104 => ?_))
      · exact (am_e5 rfl).trans rfl
      · exact (am_e5 rfl).trans rfl
set_option maxRecDepth 10000 in
theorem aq_123_148 (d : Nat) (y0 x0 x4 : Int) (M : am_M) : am_Ex d 123 148 [(2, x0), am_N, am_N, am_N, (0, x4), am_N, am_N, am_N, am_N, am_N, am_N, am_N, am_N] [(0, y0)] M = (some (y0, M)) := by
  exact (am_e4i rfl rfl).trans rfl
set_option maxRecDepth 10000 in
theorem aq_123_35 (d : Nat) (x0 x1 x3 x4 x5 x6 x7 : Int) (M : am_M) : am_Ex d 123 35 [(2, x0), (2, x1), am_N, (0, x3), (0, x4), (0, x5), (0, x6), (0, x7), am_N, am_N, am_N, am_N, am_N] [] M = (am_Ex d 123 39 [(2, x0), (2, x1), am_N, (0, x3), (0, x4), (0, x5), (0, x6), (0, x7), am_N, am_N, am_N, am_N, am_N] [(0, 1)] M) := by
  refine (am_e0 rfl rfl).trans ?_
  refine (am_e1 rfl rfl).trans ?_
  exact rfl
set_option maxRecDepth 10000 in
theorem aq_123_38 (d : Nat) (x0 x1 x3 x4 x5 x6 x7 : Int) (M : am_M) : am_Ex d 123 38 [(2, x0), (2, x1), am_N, (0, x3), (0, x4), (0, x5), (0, x6), (0, x7), am_N, am_N, am_N, am_N, am_N] [] M = (am_Ex d 123 39 [(2, x0), (2, x1), am_N, (0, x3), (0, x4), (0, x5), (0, x6), (0, x7), am_N, am_N, am_N, am_N, am_N] [(0, 0)] M) := by
  refine (am_e0 rfl rfl).trans ?_
  exact rfl
set_option maxRecDepth 10000 in
theorem aq_123_39 (d : Nat) (y0 x0 x1 x3 x4 x5 x6 x7 : Int) (M : am_M) : am_Ex d 123 39 [(2, x0), (2, x1), am_N, (0, x3), (0, x4), (0, x5), (0, x6), (0, x7), am_N, am_N, am_N, am_N, am_N] [(0, y0)] M = (am_let (y0) fun v101 => if x7 = 23 then (am_Ex d 123 50 [(2, x0), (2, x1), am_N, (0, x3), (0, x4), (0, x5), (0, x6), (0, x7), (0, v101), am_N, am_N, am_N, am_N] [] M) else (if x7 = 24 then (am_Ex d 123 50 [(2, x0), (2, x1), am_N, (0, x3), (0, x4), (0, x5), (0, x6), (0, x7), (0, v101), am_N, am_N, am_N, am_N] [] M) else (if x7 = 45 then (am_Ex d 123 50 [(2, x0), (2, x1), am_N, (0, x3), (0, x4), (0, x5), (0, x6), (0, x7), (0, v101), am_N, am_N, am_N, am_N] [] M) else (am_Ex d 123 53 [(2, x0), (2, x1), am_N, (0, x3), (0, x4), (0, x5), (0, x6), (0, x7), (0, v101), am_N, am_N, am_N, am_N] [(0, 0)] M)))) := by
  refine (am_e0 rfl rfl).trans ?_
  refine am_lets (L := fun v101 => [(2, x0), (2, x1), am_N, (0, x3), (0, x4), (0, x5), (0, x6), (0, x7), (0, v101), am_N, am_N, am_N, am_N]) (fun v101 => ?_)
  refine (am_e0 rfl rfl).trans ?_
  refine (am_e0 rfl rfl).trans ?_
  refine (am_i_eq rfl).trans (am_if_congr (fun c102 => ?_) (fun c102 => ?_))
  · exact (am_e5 rfl).trans rfl
  · refine (am_e0 rfl rfl).trans ?_
    refine (am_e0 rfl rfl).trans ?_
    refine (am_i_eq rfl).trans (am_if_congr (fun c103 => ?_) (fun c103 => ?_))
    · exact (am_e5 rfl).trans rfl
    · refine (am_e0 rfl rfl).trans ?_
      refine (am_e0 rfl rfl).trans ?_
      refine (am_i_ne rfl).trans (am_if_congr (fun c104 => ?_) (fun c104 => ?_))
      · exact (am_e5 rfl).trans rfl
      · refine (am_e0 rfl rfl).trans ?_
        exact rfl
set_option maxRecDepth 10000 in
theorem aq_123_50 (d : Nat) (x0 x1 x3 x4 x5 x6 x7 x8 : Int) (M : am_M) : am_Ex d 123 50 [(2, x0), (2, x1), am_N, (0, x3), (0, x4), (0, x5), (0, x6), (0, x7), (0, x8), am_N, am_N, am_N, am_N] [] M = (am_Ex d 123 53 [(2, x0), (2, x1), am_N, (0, x3), (0, x4), (0, x5), (0, x6), (0, x7), (0, x8), am_N, am_N, am_N, am_N] [(0, 1)] M) := by
  refine (am_e0 rfl rfl).trans ?_
  refine (am_e1 rfl rfl).trans ?_
  exact rfl
set_option maxRecDepth 10000 in
theorem aq_123_53 (d : Nat) (y0 x0 x1 x3 x4 x5 x6 x7 x8 : Int) (M : am_M) : am_Ex d 123 53 [(2, x0), (2, x1), am_N, (0, x3), (0, x4), (0, x5), (0, x6), (0, x7), (0, x8), am_N, am_N, am_N, am_N] [(0, y0)] M = (am_let (y0) fun v101 => if x8 = 0 then (if v101 = 0 then (am_Ex d 123 63 [(2, x0), (2, x1), am_N, (0, x3), (0, x4), (0, x5), (0, x6), (0, x7), (0, x8), (0, v101), am_N, am_N, am_N] [(0, 2)] M) else (am_Ex d 123 63 [(2, x0), (2, x1), am_N, (0, x3), (0, x4), (0, x5), (0, x6), (0, x7), (0, x8), (0, v101), am_N, am_N, am_N] [(0, 1)] M)) else (am_Ex d 123 63 [(2, x0), (2, x1), am_N, (0, x3), (0, x4), (0, x5), (0, x6), (0, x7), (0, x8), (0, v101), am_N, am_N, am_N] [(0, 0)] M)) := by
  refine (am_e0 rfl rfl).trans ?_
  refine am_lets (L := fun v101 => [(2, x0), (2, x1), am_N, (0, x3), (0, x4), (0, x5), (0, x6), (0, x7), (0, x8), (0, v101), am_N, am_N, am_N]) (fun v101 => ?_)
  refine (am_e0 rfl rfl).trans ?_
  refine (am_z_eq rfl).trans (am_if_congr (fun c102 => ?_) (fun c102 => ?_))
  · refine (am_e0 rfl rfl).trans ?_
    refine (am_z_eq rfl).trans (am_if_congr (fun c103 => ?_) (fun c103 => ?_))
    · refine (am_e0 rfl rfl).trans ?_
      exact rfl
    · refine (am_e0 rfl rfl).trans ?_
      refine (am_e1 rfl rfl).trans ?_
      exact rfl
  · refine (am_e0 rfl rfl).trans ?_
    refine (am_e1 rfl rfl).trans ?_
    exact rfl
set_option maxRecDepth 10000 in
theorem aq_123_63 (d : Nat) (y0 x0 x1 x3 x4 x5 x6 x7 x8 x9 : Int) (M : am_M) : am_Ex d 123 63 [(2, x0), (2, x1), am_N, (0, x3), (0, x4), (0, x5), (0, x6), (0, x7), (0, x8), (0, x9), am_N, am_N, am_N] [(0, y0)] M = (am_let (y0) fun v101 => if x4 < v101 then (some (0, M)) else (if am_w32 (x4 - v101) < 64 then (if v101 ≤ 0 then (am_Ex d 123 85 [(2, x0), (2, x1), am_N, (0, x3), (0, x4), (0, x5), (0, x6), (0, x7), (0, x8), (0, x9), (0, v101), am_N, am_N] [(0, 0)] M) else (am_g (am_ob x0 4) <| am_g (am_ar (am_rd M x0 3) 20 (am_w32 (x4 - 1))) <| am_Ex d 123 85 [(2, x0), (2, x1), am_N, (0, x3), (0, x4), (0, x5), (0, x6), (0, x7), (0, x8), (0, x9), (0, v101), am_N, am_N] [(0, am_rd M (am_rd M x0 3) (am_w32 (x4 - 1)))] M)) else (some (0, M)))) := by
  refine (am_e0 rfl rfl).trans ?_
  refine am_lets (L := fun v101 => [(2, x0), (2, x1), am_N, (0, x3), (0, x4), (0, x5), (0, x6), (0, x7), (0, x8), (0, x9), (0, v101), am_N, am_N]) (fun v101 => ?_)
  refine (am_e0 rfl rfl).trans ?_
  refine (am_e0 rfl rfl).trans ?_
  refine (am_i_lt rfl).trans (am_if_congr (fun c102 => ?_) (fun c102 => ?_))
  · refine (am_e5 rfl).trans ?_
    show am_Ex d 123 73 [am_N, am_N, am_N, am_N, am_N, am_N, am_N, am_N, am_N, am_N, am_N, am_N, am_N] [] M = _
    refine (am_e0 rfl rfl).trans ?_
    exact (am_e4i rfl rfl).trans rfl
  · refine (am_e0 rfl rfl).trans ?_
    refine (am_e0 rfl rfl).trans ?_
    refine (am_e0 rfl rfl).trans ?_
    refine (am_e0 rfl rfl).trans ?_
    refine (am_i_lt rfl).trans (am_if_congr (fun c103 => ?_) (fun c103 => ?_))
    · refine (am_e0 rfl rfl).trans ?_
      refine (am_z_le rfl).trans (am_if_congr (fun c104 => ?_) (fun c104 => ?_))
      · refine (am_e0 rfl rfl).trans ?_
        exact rfl
      · refine (am_e0 rfl rfl).trans ?_
        refine (am_gf (c := 4) (t := 2) rfl rfl rfl).trans (am_g_congr fun h105 => ?_)
        refine (am_e0 rfl rfl).trans ?_
        refine (am_e0 rfl rfl).trans ?_
        refine (am_e0 rfl rfl).trans ?_
        refine (am_ial rfl).trans (am_g_congr fun h106 => ?_)
        refine (am_e1 rfl rfl).trans ?_
        exact rfl
    · refine (am_e5 rfl).trans ?_
      show am_Ex d 123 73 [am_N, am_N, am_N, am_N, am_N, am_N, am_N, am_N, am_N, am_N, am_N, am_N, am_N] [] M = _
      refine (am_e0 rfl rfl).trans ?_
      exact (am_e4i rfl rfl).trans rfl
set_option maxRecDepth 10000 in
theorem aq_123_85 (d : Nat) (y0 x0 x1 x3 x4 x5 x6 x7 x8 x9 x10 : Int) (M : am_M) : am_Ex d 123 85 [(2, x0), (2, x1), am_N, (0, x3), (0, x4), (0, x5), (0, x6), (0, x7), (0, x8), (0, x9), (0, x10), am_N, am_N] [(0, y0)] M = (am_let (y0) fun v101 => if x10 ≤ 1 then (am_Ex d 123 97 [(2, x0), (2, x1), am_N, (0, x3), (0, x4), (0, x5), (0, x6), (0, x7), (0, x8), (0, x9), (0, x10), (0, v101), am_N] [(0, 0)] M) else (am_g (am_ob x0 4) <| am_g (am_ar (am_rd M x0 3) 20 (am_w32 (x4 - 2))) <| am_Ex d 123 97 [(2, x0), (2, x1), am_N, (0, x3), (0, x4), (0, x5), (0, x6), (0, x7), (0, x8), (0, x9), (0, x10), (0, v101), am_N] [(0, am_rd M (am_rd M x0 3) (am_w32 (x4 - 2)))] M)) := by
  refine (am_e0 rfl rfl).trans ?_
  refine am_lets (L := fun v101 => [(2, x0), (2, x1), am_N, (0, x3), (0, x4), (0, x5), (0, x6), (0, x7), (0, x8), (0, x9), (0, x10), (0, v101), am_N]) (fun v101 => ?_)
  refine (am_e0 rfl rfl).trans ?_
  refine (am_e0 rfl rfl).trans ?_
  refine (am_i_le rfl).trans (am_if_congr (fun c102 => ?_) (fun c102 => ?_))
  · refine (am_e0 rfl rfl).trans ?_
    exact rfl
  · refine (am_e0 rfl rfl).trans ?_
    refine (am_gf (c := 4) (t := 2) rfl rfl rfl).trans (am_g_congr fun h103 => ?_)
    refine (am_e0 rfl rfl).trans ?_
    refine (am_e0 rfl rfl).trans ?_
    refine (am_e0 rfl rfl).trans ?_
    refine (am_ial rfl).trans (am_g_congr fun h104 => ?_)
    refine (am_e1 rfl rfl).trans ?_
    exact rfl
set_option maxRecDepth 10000 in
theorem aq_123_97 (d : Nat) (y0 x0 x1 x3 x4 x5 x6 x7 x8 x9 x10 x11 : Int) (M : am_M) : am_Ex d 123 97 [(2, x0), (2, x1), am_N, (0, x3), (0, x4), (0, x5), (0, x6), (0, x7), (0, x8), (0, x9), (0, x10), (0, x11), am_N] [(0, y0)] M = (am_let (y0) fun v101 => am_let (am_w32 (x4 - x10)) fun v102 => if x8 = 0 then (am_g (am_ob x0 4) <| if x9 = 0 then ((am_Call d 33 [(0, x7), (0, v101), (0, x11)] M).bind fun r106 => am_Ex d 123 132 [(2, x0), (2, x1), am_N, (0, x3), (0, v102), (0, x5), (0, x6), (0, x7), (0, x8), (0, x9), (0, x10), (0, x11), (0, v101)] [(0, r106.1), (0, v102), (2, am_rd M x0 3)] r106.2) else ((am_Call d 32 [(0, x7), (0, x11)] M).bind fun r107 => am_Ex d 123 132 [(2, x0), (2, x1), am_N, (0, x3), (0, v102), (0, x5), (0, x6), (0, x7), (0, x8), (0, x9), (0, x10), (0, x11), (0, v101)] [(0, r107.1), (0, v102), (2, am_rd M x0 3)] r107.2)) else (am_g (am_ob x0 4) <| if x6 < 0 then (am_g (am_ar (am_rd M x0 2) 20 (am_w32 (x7 - 12))) <| am_Ex d 123 117 [(2, x0), (2, x1), am_N, (0, x3), (0, v102), (0, x5), (0, x6), (0, x7), (0, x8), (0, x9), (0, x10), (0, x11), (0, v101)] [(0, am_rd M (am_rd M x0 2) (am_w32 (x7 - 12))), (0, v102), (2, am_rd M x0 3)] M) else (am_Ex d 123 117 [(2, x0), (2, x1), am_N, (0, x3), (0, v102), (0, x5), (0, x6), (0, x7), (0, x8), (0, x9), (0, x10), (0, x11), (0, v101)] [(0, x6), (0, v102), (2, am_rd M x0 3)] M))) := by
  refine (am_e0 rfl rfl).trans ?_
  refine am_lets (L := fun v101 => [(2, x0), (2, x1), am_N, (0, x3), (0, x4), (0, x5), (0, x6), (0, x7), (0, x8), (0, x9), (0, x10), (0, x11), (0, v101)]) (fun v101 => ?_)
  refine (am_e0 rfl rfl).trans ?_
  refine (am_e0 rfl rfl).trans ?_
  refine (am_e0 rfl rfl).trans ?_
  refine (am_e0 rfl rfl).trans ?_
  refine am_lets (L := fun v102 => [(2, x0), (2, x1), am_N, (0, x3), (0, v102), (0, x5), (0, x6), (0, x7), (0, x8), (0, x9), (0, x10), (0, x11), (0, v101)]) (fun v102 => ?_)
  refine (am_e0 rfl rfl).trans ?_
  refine (am_z_eq rfl).trans (am_if_congr (fun c103 => ?_) (fun c103 => ?_))
  · refine (am_e0 rfl rfl).trans ?_
    refine (am_gf (c := 4) (t := 2) rfl rfl rfl).trans (am_g_congr fun h104 => ?_)
    refine (am_e0 rfl rfl).trans ?_
    refine (am_e0 rfl rfl).trans ?_
    refine (am_z_eq rfl).trans (am_if_congr (fun c105 => ?_) (fun c105 => ?_))
    · refine (am_e0 rfl rfl).trans ?_
      refine (am_e0 rfl rfl).trans ?_
      refine (am_e0 rfl rfl).trans ?_
      refine (am_cal3 (z := 33) (k := 3) (c := true) rfl rfl rfl rfl rfl rfl rfl rfl).trans ((am_g_t rfl).trans ?_)
      refine am_bind_congr fun r106 => ?_
      show am_Ex d 123 132 [(2, x0), (2, x1), am_N, (0, x3), (0, v102), (0, x5), (0, x6), (0, x7), (0, x8), (0, x9), (0, x10), (0, x11), (0, v101)] [(0, r106.1), (0, v102), (2, am_rd M x0 3)] r106.2 = _
      exact rfl
    · refine (am_e0 rfl rfl).trans ?_
      refine (am_e0 rfl rfl).trans ?_
      refine (am_cal3 (z := 32) (k := 2) (c := true) rfl rfl rfl rfl rfl rfl rfl rfl).trans ((am_g_t rfl).trans ?_)
      refine am_bind_congr fun r107 => ?_
      show am_Ex d 123 127 [(2, x0), (2, x1), am_N, (0, x3), (0, v102), (0, x5), (0, x6), (0, x7), (0, x8), (0, x9), (0, x10), (0, x11), (0, v101)] [(0, r107.1), (0, v102), (2, am_rd M x0 3)] r107.2 = _
      refine (am_e1 rfl rfl).trans ?_
      exact rfl
  · refine (am_e0 rfl rfl).trans ?_
    refine (am_gf (c := 4) (t := 2) rfl rfl rfl).trans (am_g_congr fun h108 => ?_)
    refine (am_e0 rfl rfl).trans ?_
    refine (am_e0 rfl rfl).trans ?_
    refine (am_z_lt rfl).trans (am_if_congr (fun c109 => ?_) (fun c109 => ?_))
    · refine (am_e0 rfl rfl).trans ?_
      refine (am_gf (c := 4) (t := 2) rfl rfl rfl).trans ((am_g_t h108).trans ?_)
      refine (am_e0 rfl rfl).trans ?_
      refine (am_e0 rfl rfl).trans ?_
      refine (am_e0 rfl rfl).trans ?_
      refine (am_ial rfl).trans (am_g_congr fun h110 => ?_)
      exact rfl
    · refine (am_e0 rfl rfl).trans ?_
      refine (am_e1 rfl rfl).trans ?_
      exact rfl
set_option maxRecDepth 10000 in
theorem aq_123_132 (d : Nat) (y0 y1 y2 x0 x1 x3 x4 x5 x6 x7 x8 x9 x10 x11 x12 : Int) (M : am_M) : am_Ex d 123 132 [(2, x0), (2, x1), am_N, (0, x3), (0, x4), (0, x5), (0, x6), (0, x7), (0, x8), (0, x9), (0, x10), (0, x11), (0, x12)] [(0, y2), (0, y1), (2, y0)] M = (am_g (am_ar y0 20 y1) <| am_let (am_wr M y0 y1 y2) fun M102 => am_Ex d 123 134 [(2, x0), (2, x1), am_N, (0, x3), (0, x4), (0, x5), am_N, am_N, am_N, am_N, am_N, am_N, am_N] [] M102) := by
  refine (am_ias rfl).trans (am_g_congr fun h101 => ?_)
  refine am_letm (fun M102 => ?_)
  exact (am_e5 rfl).trans rfl
set_option maxRecDepth 10000 in
theorem aq_123_117 (d : Nat) (y0 y1 y2 x0 x1 x3 x4 x5 x6 x7 x8 x9 x10 x11 x12 : Int) (M : am_M) : am_Ex d 123 117 [(2, x0), (2, x1), am_N, (0, x3), (0, x4), (0, x5), (0, x6), (0, x7), (0, x8), (0, x9), (0, x10), (0, x11), (0, x12)] [(0, y2), (0, y1), (2, y0)] M = (am_g (am_ar y0 20 y1) <| am_let (am_wr M y0 y1 y2) fun M102 => am_Ex d 123 134 [(2, x0), (2, x1), am_N, (0, x3), (0, x4), (0, x5), am_N, am_N, am_N, am_N, am_N, am_N, am_N] [] M102) := by
  refine (am_ias rfl).trans (am_g_congr fun h101 => ?_)
  refine am_letm (fun M102 => ?_)
  refine (am_e1 rfl rfl).trans ?_
  exact (am_e5 rfl).trans rfl
set_option maxRecDepth 10000 in
theorem aq_123_134 (d : Nat) (x0 x1 x3 x4 x5 : Int) (M : am_M) : am_Ex d 123 134 [(2, x0), (2, x1), am_N, (0, x3), (0, x4), (0, x5), am_N, am_N, am_N, am_N, am_N, am_N, am_N] [] M = (am_let (am_w32 (x4 + 1)) fun v101 => am_let (am_w32 (x5 + 1)) fun v102 => am_Ex d 123 5 [(2, x0), (2, x1), am_N, (0, x3), (0, v101), (0, v102), am_N, am_N, am_N, am_N, am_N, am_N, am_N] [] M) := by
  refine (am_e0 rfl rfl).trans ?_
  refine am_lets (L := fun v101 => [(2, x0), (2, x1), am_N, (0, x3), (0, v101), (0, x5), am_N, am_N, am_N, am_N, am_N, am_N, am_N]) (fun v101 => ?_)
  refine (am_e0 rfl rfl).trans ?_
  refine am_lets (L := fun v102 => [(2, x0), (2, x1), am_N, (0, x3), (0, v101), (0, v102), am_N, am_N, am_N, am_N, am_N, am_N, am_N]) (fun v102 => ?_)
  refine (am_e1 rfl rfl).trans ?_
  exact (am_e5 rfl).trans rfl
