/-! equations of the methods 63 .. 102 -/
-- 63: UnlearnedHand.about(I)I
set_option maxRecDepth 10000 in
theorem aq_63 (d : Nat) (x0 x1 : Int) (M : am_M) : am_Call d 63 [(2, x0), (0, x1)] M = (if x1 = 0 then (am_g (am_ob x0 10) <| am_g (am_ob (am_rd M x0 0) 2) <| some (am_rd M (am_rd M x0 0) 5, M)) else if x1 = 1 then (am_g (am_ob x0 10) <| am_g (am_ob (am_rd M x0 0) 2) <| some (am_rd M (am_rd M x0 0) 6, M)) else if x1 = 2 then (am_g (am_ob x0 10) <| am_g (am_ob (am_rd M x0 0) 2) <| some (am_rd M (am_rd M x0 0) 7, M)) else if x1 = 3 then (am_g (am_ob x0 10) <| am_g (am_ob (am_rd M x0 2) 3) <| some (am_rd M (am_rd M x0 2) 6, M)) else if x1 = 4 then (am_g (am_ob x0 10) <| am_g (am_ob (am_rd M x0 2) 3) <| some (am_rd M (am_rd M x0 2) 7, M)) else if x1 = 5 then (am_g (am_ob x0 10) <| am_g (am_ob (am_rd M x0 0) 2) <| some (am_rd M (am_rd M x0 0) 11, M)) else if x1 = 6 then (am_g (am_ob x0 10) <| am_g (am_ob (am_rd M x0 0) 2) <| some (am_rd M (am_rd M x0 0) 12, M)) else if x1 = 7 then (am_g (am_ob x0 10) <| am_g (am_ob (am_rd M x0 4) 9) <| some (am_rd M (am_rd M x0 4) 2, M)) else if x1 = 8 then (am_g (am_ob x0 10) <| am_g (am_ob (am_rd M x0 0) 2) <| some (am_rd M (am_rd M x0 0) 8, M)) else if x1 = 9 then (am_g (am_ob x0 10) <| am_g (am_ob (am_rd M x0 0) 2) <| some (am_rd M (am_rd M x0 0) 10, M)) else if x1 = 10 then (am_g (am_ob x0 10) <| some (am_rd M x0 8, M)) else (some ((-2), M))) := by
  show am_Ex d 63 0 [(2, x0), (0, x1)] [] M = _
  refine (am_e0 rfl rfl).trans ?_
  refine (am_tsw rfl).trans ?_
  refine (am_sw_c).trans (am_if_congr (fun c101 => ?_) (fun c101 => ?_))
  · refine (am_e0 rfl rfl).trans ?_
    refine (am_gf (c := 10) (t := 2) rfl rfl rfl).trans (am_g_congr fun h102 => ?_)
    refine (am_gf (c := 2) (t := 0) rfl rfl rfl).trans (am_g_congr fun h103 => ?_)
    exact (am_e4i rfl rfl).trans rfl
  refine (am_sw_c).trans (am_if_congr (fun c104 => ?_) (fun c104 => ?_))
  · refine (am_e0 rfl rfl).trans ?_
    refine (am_gf (c := 10) (t := 2) rfl rfl rfl).trans (am_g_congr fun h105 => ?_)
    refine (am_gf (c := 2) (t := 0) rfl rfl rfl).trans (am_g_congr fun h106 => ?_)
    exact (am_e4i rfl rfl).trans rfl
  refine (am_sw_c).trans (am_if_congr (fun c107 => ?_) (fun c107 => ?_))
  · refine (am_e0 rfl rfl).trans ?_
    refine (am_gf (c := 10) (t := 2) rfl rfl rfl).trans (am_g_congr fun h108 => ?_)
    refine (am_gf (c := 2) (t := 0) rfl rfl rfl).trans (am_g_congr fun h109 => ?_)
    exact (am_e4i rfl rfl).trans rfl
  refine (am_sw_c).trans (am_if_congr (fun c110 => ?_) (fun c110 => ?_))
  · refine (am_e0 rfl rfl).trans ?_
    refine (am_gf (c := 10) (t := 2) rfl rfl rfl).trans (am_g_congr fun h111 => ?_)
    refine (am_gf (c := 3) (t := 0) rfl rfl rfl).trans (am_g_congr fun h112 => ?_)
    exact (am_e4i rfl rfl).trans rfl
  refine (am_sw_c).trans (am_if_congr (fun c113 => ?_) (fun c113 => ?_))
  · refine (am_e0 rfl rfl).trans ?_
    refine (am_gf (c := 10) (t := 2) rfl rfl rfl).trans (am_g_congr fun h114 => ?_)
    refine (am_gf (c := 3) (t := 0) rfl rfl rfl).trans (am_g_congr fun h115 => ?_)
    exact (am_e4i rfl rfl).trans rfl
  refine (am_sw_c).trans (am_if_congr (fun c116 => ?_) (fun c116 => ?_))
  · refine (am_e0 rfl rfl).trans ?_
    refine (am_gf (c := 10) (t := 2) rfl rfl rfl).trans (am_g_congr fun h117 => ?_)
    refine (am_gf (c := 2) (t := 0) rfl rfl rfl).trans (am_g_congr fun h118 => ?_)
    exact (am_e4i rfl rfl).trans rfl
  refine (am_sw_c).trans (am_if_congr (fun c119 => ?_) (fun c119 => ?_))
  · refine (am_e0 rfl rfl).trans ?_
    refine (am_gf (c := 10) (t := 2) rfl rfl rfl).trans (am_g_congr fun h120 => ?_)
    refine (am_gf (c := 2) (t := 0) rfl rfl rfl).trans (am_g_congr fun h121 => ?_)
    exact (am_e4i rfl rfl).trans rfl
  refine (am_sw_c).trans (am_if_congr (fun c122 => ?_) (fun c122 => ?_))
  · refine (am_e0 rfl rfl).trans ?_
    refine (am_gf (c := 10) (t := 2) rfl rfl rfl).trans (am_g_congr fun h123 => ?_)
    refine (am_gf (c := 9) (t := 0) rfl rfl rfl).trans (am_g_congr fun h124 => ?_)
    exact (am_e4i rfl rfl).trans rfl
  refine (am_sw_c).trans (am_if_congr (fun c125 => ?_) (fun c125 => ?_))
  · refine (am_e0 rfl rfl).trans ?_
    refine (am_gf (c := 10) (t := 2) rfl rfl rfl).trans (am_g_congr fun h126 => ?_)
    refine (am_gf (c := 2) (t := 0) rfl rfl rfl).trans (am_g_congr fun h127 => ?_)
    exact (am_e4i rfl rfl).trans rfl
  refine (am_sw_c).trans (am_if_congr (fun c128 => ?_) (fun c128 => ?_))
  · refine (am_e0 rfl rfl).trans ?_
    refine (am_gf (c := 10) (t := 2) rfl rfl rfl).trans (am_g_congr fun h129 => ?_)
    refine (am_gf (c := 2) (t := 0) rfl rfl rfl).trans (am_g_congr fun h130 => ?_)
    exact (am_e4i rfl rfl).trans rfl
  refine (am_sw_c).trans (am_if_congr (fun c131 => ?_) (fun c131 => ?_))
  · refine (am_e0 rfl rfl).trans ?_
    refine (am_gf (c := 10) (t := 0) rfl rfl rfl).trans (am_g_congr fun h132 => ?_)
    exact (am_e4i rfl rfl).trans rfl
  refine (am_sw_n).trans ?_
  refine (am_e0 rfl rfl).trans ?_
  exact (am_e4i rfl rfl).trans rfl
-- 64: UnlearnedHandModel.in(III)Z
set_option maxRecDepth 10000 in
theorem aq_64 (d : Nat) (x0 x1 x2 : Int) (M : am_M) : am_Call d 64 [(0, x0), (0, x1), (0, x2)] M = (if x0 < x1 then (some (0, M)) else (if x0 ≤ x2 then (some (1, M)) else (some (0, M)))) := by
  show am_Ex d 64 0 [(0, x0), (0, x1), (0, x2)] [] M = _
  refine (am_e0 rfl rfl).trans ?_
  refine (am_e0 rfl rfl).trans ?_
  refine (am_i_lt rfl).trans (am_if_congr (fun c101 => ?_) (fun c101 => ?_))
  · refine (am_e5 rfl).trans ?_
    show am_Ex d 64 9 [am_N, am_N, am_N] [] M = _
    refine (am_e0 rfl rfl).trans ?_
    exact (am_e4i rfl rfl).trans rfl
  · refine (am_e0 rfl rfl).trans ?_
    refine (am_e0 rfl rfl).trans ?_
    refine (am_i_gt rfl).trans (am_if_congr (fun c102 => ?_) (fun c102 => ?_))
    · refine (am_e0 rfl rfl).trans ?_
      refine (am_e1 rfl rfl).trans ?_
      exact (am_e4i rfl rfl).trans rfl
    · refine (am_e5 rfl).trans ?_
      show am_Ex d 64 9 [am_N, am_N, am_N] [] M = _
      refine (am_e0 rfl rfl).trans ?_
      exact (am_e4i rfl rfl).trans rfl
-- 65: UnlearnedHandModel.has(II)Z
set_option maxRecDepth 10000 in
theorem aq_65 (d : Nat) (x0 x1 : Int) (M : am_M) : am_Call d 65 [(0, x0), (0, x1)] M = (if am_and (am_shr x0 x1) 1 = 1 then (some (1, M)) else (some (0, M))) := by
  show am_Ex d 65 0 [(0, x0), (0, x1)] [] M = _
  refine (am_e0 rfl rfl).trans ?_
  refine (am_e0 rfl rfl).trans ?_
  refine (am_e0 rfl rfl).trans ?_
  refine (am_e0 rfl rfl).trans ?_
  refine (am_e0 rfl rfl).trans ?_
  refine (am_e0 rfl rfl).trans ?_
  refine (am_i_ne rfl).trans (am_if_congr (fun c101 => ?_) (fun c101 => ?_))
  · refine (am_e0 rfl rfl).trans ?_
    refine (am_e1 rfl rfl).trans ?_
    exact (am_e4i rfl rfl).trans rfl
  · refine (am_e0 rfl rfl).trans ?_
    exact (am_e4i rfl rfl).trans rfl
-- 66: UnlearnedHandModel.many(I)I
set_option maxRecDepth 10000 in
theorem aq_66 (d : Nat) (x0 : Int) (M : am_M) : am_Call d 66 [(0, x0)] M = (am_Ex d 66 5 [am_N, (0, 0), (0, x0)] [] M) := by
  show am_Ex d 66 0 [(0, x0), am_N, am_N] [] M = _
  refine (am_e0 rfl rfl).trans ?_
  refine (am_e0 rfl rfl).trans ?_
  refine (am_e0 rfl rfl).trans ?_
  refine (am_e0 rfl rfl).trans ?_
  exact (am_e5 rfl).trans rfl
set_option maxRecDepth 10000 in
theorem aq_66_5 (d : Nat) (x1 x2 : Int) (M : am_M) : am_Ex d 66 5 [am_N, (0, x1), (0, x2)] [] M = (if x2 = 0 then (some (x1, M)) else (am_let (am_w32 (x1 + (am_and x2 1))) fun v102 => am_let (am_shr x2 1) fun v103 => am_Ex d 66 5 [am_N, (0, v102), (0, v103)] [] M)) := by
  refine (am_e0 rfl rfl).trans ?_
  refine (am_z_eq rfl).trans (am_if_congr (fun c101 => ?_) (fun c101 => ?_))
  · refine (am_e0 rfl rfl).trans ?_
    exact (am_e4i rfl rfl).trans rfl
  · refine (am_e0 rfl rfl).trans ?_
    refine (am_e0 rfl rfl).trans ?_
    refine (am_e0 rfl rfl).trans ?_
    refine (am_e0 rfl rfl).trans ?_
    refine (am_e0 rfl rfl).trans ?_
    refine (am_e0 rfl rfl).trans ?_
    refine am_lets (L := fun v102 => [am_N, (0, v102), (0, x2)]) (fun v102 => ?_)
    refine (am_e0 rfl rfl).trans ?_
    refine (am_e0 rfl rfl).trans ?_
    refine (am_e0 rfl rfl).trans ?_
    refine (am_e0 rfl rfl).trans ?_
    refine am_lets (L := fun v103 => [am_N, (0, v102), (0, v103)]) (fun v103 => ?_)
    refine (am_e1 rfl rfl).trans ?_
    exact (am_e5 rfl).trans rfl
-- 67: UnlearnedHandModel.copies(Z)V
set_option maxRecDepth 10000 in
theorem aq_67 (d : Nat) (x0 x1 : Int) (M : am_M) : am_Call d 67 [(2, x0), (0, x1)] M = (am_Ex d 67 3 [(2, x0), (0, x1), (0, 0)] [] M) := by
  show am_Ex d 67 0 [(2, x0), (0, x1), am_N] [] M = _
  refine (am_e0 rfl rfl).trans ?_
  refine (am_e0 rfl rfl).trans ?_
  exact (am_e5 rfl).trans rfl
set_option maxRecDepth 10000 in
theorem aq_67_3 (d : Nat) (x0 x1 x2 : Int) (M : am_M) : am_Ex d 67 3 [(2, x0), (0, x1), (0, x2)] [] M = (if x2 < 5160 then (if x1 = 0 then (am_g (am_ob x0 11) <| am_g (am_ar (am_rd M x0 1) 20 x2) <| am_g (am_ar (am_rd M x0 0) 20 x2) <| am_let (am_wr M (am_rd M x0 0) x2 (am_rd M (am_rd M x0 1) x2)) fun M106 => am_Ex d 67 26 [(2, x0), (0, x1), (0, x2)] [] M106) else (am_g (am_ob x0 11) <| am_g (am_ar (am_rd M x0 0) 20 x2) <| am_g (am_ar (am_rd M x0 1) 20 x2) <| am_let (am_wr M (am_rd M x0 1) x2 (am_rd M (am_rd M x0 0) x2)) fun M110 => am_Ex d 67 26 [(2, x0), (0, x1), (0, x2)] [] M110)) else (some (0, M))) := by
  refine (am_e0 rfl rfl).trans ?_
  refine (am_e0 rfl rfl).trans ?_
  refine (am_i_ge rfl).trans (am_if_congr (fun c101 => ?_) (fun c101 => ?_))
  · refine (am_e0 rfl rfl).trans ?_
    refine (am_z_eq rfl).trans (am_if_congr (fun c102 => ?_) (fun c102 => ?_))
    · refine (am_e0 rfl rfl).trans ?_
      refine (am_gf (c := 11) (t := 2) rfl rfl rfl).trans (am_g_congr fun h103 => ?_)
      refine (am_e0 rfl rfl).trans ?_
      refine (am_e0 rfl rfl).trans ?_
      refine (am_gf (c := 11) (t := 2) rfl rfl rfl).trans ((am_g_t h103).trans ?_)
      refine (am_e0 rfl rfl).trans ?_
      refine (am_ial rfl).trans (am_g_congr fun h104 => ?_)
      refine (am_ias rfl).trans (am_g_congr fun h105 => ?_)
      refine am_letm (fun M106 => ?_)
      exact (am_e5 rfl).trans rfl
    · refine (am_e0 rfl rfl).trans ?_
      refine (am_gf (c := 11) (t := 2) rfl rfl rfl).trans (am_g_congr fun h107 => ?_)
      refine (am_e0 rfl rfl).trans ?_
      refine (am_e0 rfl rfl).trans ?_
      refine (am_gf (c := 11) (t := 2) rfl rfl rfl).trans ((am_g_t h107).trans ?_)
      refine (am_e0 rfl rfl).trans ?_
      refine (am_ial rfl).trans (am_g_congr fun h108 => ?_)
      refine (am_ias rfl).trans (am_g_congr fun h109 => ?_)
      refine am_letm (fun M110 => ?_)
      refine (am_e1 rfl rfl).trans ?_
      exact (am_e5 rfl).trans rfl
  · exact (am_e4v rfl rfl).trans rfl
set_option maxRecDepth 10000 in
theorem aq_67_26 (d : Nat) (x0 x1 x2 : Int) (M : am_M) : am_Ex d 67 26 [(2, x0), (0, x1), (0, x2)] [] M = (am_let (am_w32 (x2 + 1)) fun v101 => am_Ex d 67 3 [(2, x0), (0, x1), (0, v101)] [] M) := by
  refine (am_e0 rfl rfl).trans ?_
  refine am_lets (L := fun v101 => [(2, x0), (0, x1), (0, v101)]) (fun v101 => ?_)
  refine (am_e1 rfl rfl).trans ?_
  exact (am_e5 rfl).trans rfl
-- 68: UnlearnedHandModel.keepsStep()V
set_option maxRecDepth 10000 in
theorem aq_68 (d : Nat) (x0 : Int) (M : am_M) : am_Call d 68 [(2, x0)] M = (am_g (am_ob x0 11) <| am_g (am_ar (am_rd M x0 0) 20 5) <| if am_rd M (am_rd M x0 0) 5 = 30 then (am_Ex d 68 9 [(2, x0), (0, 240)] [] M) else (am_Ex d 68 30 [(2, x0), am_N] [] M)) := by
  show am_Ex d 68 0 [(2, x0), am_N] [] M = _
  refine (am_e0 rfl rfl).trans ?_
  refine (am_gf (c := 11) (t := 2) rfl rfl rfl).trans (am_g_congr fun h101 => ?_)
  refine (am_e0 rfl rfl).trans ?_
  refine (am_ial rfl).trans (am_g_congr fun h102 => ?_)
  refine (am_e0 rfl rfl).trans ?_
  refine (am_i_ne rfl).trans (am_if_congr (fun c103 => ?_) (fun c103 => ?_))
  · refine (am_e0 rfl rfl).trans ?_
    refine (am_e0 rfl rfl).trans ?_
    exact (am_e5 rfl).trans rfl
  · exact (am_e5 rfl).trans rfl
set_option maxRecDepth 10000 in
theorem aq_68_9 (d : Nat) (x0 x1 : Int) (M : am_M) : am_Ex d 68 9 [(2, x0), (0, x1)] [] M = (if x1 < 4996 then (am_g (am_ob x0 11) <| am_g (am_ar (am_rd M x0 0) 20 (am_w32 (x1 + 164))) <| am_g (am_ar (am_rd M x0 0) 20 x1) <| am_let (am_wr M (am_rd M x0 0) x1 (am_rd M (am_rd M x0 0) (am_w32 (x1 + 164)))) fun M105 => am_let (am_w32 (x1 + 1)) fun v106 => am_Ex d 68 9 [(2, x0), (0, v106)] [] M105) else (am_g (am_ob x0 11) <| am_g (am_ar (am_rd M x0 0) 20 5) <| am_let (am_wr M (am_rd M x0 0) 5 29) fun M109 => am_Ex d 68 30 [(2, x0), am_N] [] M109)) := by
  refine (am_e0 rfl rfl).trans ?_
  refine (am_e0 rfl rfl).trans ?_
  refine (am_i_ge rfl).trans (am_if_congr (fun c101 => ?_) (fun c101 => ?_))
  · refine (am_e0 rfl rfl).trans ?_
    refine (am_gf (c := 11) (t := 2) rfl rfl rfl).trans (am_g_congr fun h102 => ?_)
    refine (am_e0 rfl rfl).trans ?_
    refine (am_e0 rfl rfl).trans ?_
    refine (am_gf (c := 11) (t := 2) rfl rfl rfl).trans ((am_g_t h102).trans ?_)
    refine (am_e0 rfl rfl).trans ?_
    refine (am_e0 rfl rfl).trans ?_
    refine (am_e0 rfl rfl).trans ?_
    refine (am_ial rfl).trans (am_g_congr fun h103 => ?_)
    refine (am_ias rfl).trans (am_g_congr fun h104 => ?_)
    refine am_letm (fun M105 => ?_)
    refine (am_e0 rfl rfl).trans ?_
    refine am_lets (L := fun v106 => [(2, x0), (0, v106)]) (fun v106 => ?_)
    refine (am_e1 rfl rfl).trans ?_
    exact (am_e5 rfl).trans rfl
  · refine (am_e0 rfl rfl).trans ?_
    refine (am_gf (c := 11) (t := 2) rfl rfl rfl).trans (am_g_congr fun h107 => ?_)
    refine (am_e0 rfl rfl).trans ?_
    refine (am_e0 rfl rfl).trans ?_
    refine (am_ias rfl).trans (am_g_congr fun h108 => ?_)
    refine am_letm (fun M109 => ?_)
    exact (am_e5 rfl).trans rfl
set_option maxRecDepth 10000 in
theorem aq_68_30 (d : Nat) (x0 : Int) (M : am_M) : am_Ex d 68 30 [(2, x0), am_N] [] M = (am_Ex d 68 33 [(2, x0), (0, 0)] [] M) := by
  refine (am_e0 rfl rfl).trans ?_
  refine (am_e0 rfl rfl).trans ?_
  exact (am_e5 rfl).trans rfl
set_option maxRecDepth 10000 in
theorem aq_68_33 (d : Nat) (x0 x1 : Int) (M : am_M) : am_Ex d 68 33 [(2, x0), (0, x1)] [] M = (if x1 < 164 then (am_g (am_ob x0 11) <| am_g (am_ar (am_rd M x0 0) 20 5) <| am_g (am_ar (am_rd M x0 0) 20 (am_w32 (60 + x1))) <| am_g (am_ar (am_rd M x0 0) 20 (am_w32 ((am_w32 (240 + (am_w32 (164 * (am_rd M (am_rd M x0 0) 5))))) + x1))) <| am_let (am_wr M (am_rd M x0 0) (am_w32 ((am_w32 (240 + (am_w32 (164 * (am_rd M (am_rd M x0 0) 5))))) + x1)) (am_rd M (am_rd M x0 0) (am_w32 (60 + x1)))) fun M106 => am_let (am_w32 (x1 + 1)) fun v107 => am_Ex d 68 33 [(2, x0), (0, v107)] [] M106) else (am_g (am_ob x0 11) <| am_g (am_ar (am_rd M x0 0) 20 5) <| am_let (am_wr M (am_rd M x0 0) 5 (am_w32 ((am_rd M (am_rd M x0 0) 5) + 1))) fun M110 => some (0, M110))) := by
  refine (am_e0 rfl rfl).trans ?_
  refine (am_e0 rfl rfl).trans ?_
  refine (am_i_ge rfl).trans (am_if_congr (fun c101 => ?_) (fun c101 => ?_))
  · refine (am_e0 rfl rfl).trans ?_
    refine (am_gf (c := 11) (t := 2) rfl rfl rfl).trans (am_g_congr fun h102 => ?_)
    refine (am_e0 rfl rfl).trans ?_
    refine (am_e0 rfl rfl).trans ?_
    refine (am_e0 rfl rfl).trans ?_
    refine (am_gf (c := 11) (t := 2) rfl rfl rfl).trans ((am_g_t h102).trans ?_)
    refine (am_e0 rfl rfl).trans ?_
    refine (am_ial rfl).trans (am_g_congr fun h103 => ?_)
    refine (am_e0 rfl rfl).trans ?_
    refine (am_e0 rfl rfl).trans ?_
    refine (am_e0 rfl rfl).trans ?_
    refine (am_e0 rfl rfl).trans ?_
    refine (am_e0 rfl rfl).trans ?_
    refine (am_gf (c := 11) (t := 2) rfl rfl rfl).trans ((am_g_t h102).trans ?_)
    refine (am_e0 rfl rfl).trans ?_
    refine (am_e0 rfl rfl).trans ?_
    refine (am_e0 rfl rfl).trans ?_
    refine (am_ial rfl).trans (am_g_congr fun h104 => ?_)
    refine (am_ias rfl).trans (am_g_congr fun h105 => ?_)
    refine am_letm (fun M106 => ?_)
    refine (am_e0 rfl rfl).trans ?_
    refine am_lets (L := fun v107 => [(2, x0), (0, v107)]) (fun v107 => ?_)
    refine (am_e1 rfl rfl).trans ?_
    exact (am_e5 rfl).trans rfl
  · refine (am_e0 rfl rfl).trans ?_
    refine (am_gf (c := 11) (t := 2) rfl rfl rfl).trans (am_g_congr fun h108 => ?_)
    refine (am_e0 rfl rfl).trans ?_
    refine (am_e0 rfl rfl).trans ?_
    refine (am_ial rfl).trans (am_g_congr fun h109 => ?_)
    refine (am_e0 rfl rfl).trans ?_
    refine (am_e0 rfl rfl).trans ?_
    refine (am_ias rfl).trans ((am_g_t h109).trans ?_)
    refine am_letm (fun M110 => ?_)
    exact (am_e4v rfl rfl).trans rfl
-- 69: UnlearnedHandModel.undo()I
set_option maxRecDepth 10000 in
theorem aq_69 (d : Nat) (x0 : Int) (M : am_M) : am_Call d 69 [(2, x0)] M = (am_g (am_ob x0 11) <| am_g (am_ar (am_rd M x0 0) 20 5) <| if am_rd M (am_rd M x0 0) 5 = 0 then (some ((-1), M)) else (am_let (am_wr M (am_rd M x0 0) 5 (am_w32 ((am_rd M (am_rd M x0 0) 5) - 1))) fun M104 => am_Ex d 69 18 [(2, x0), (0, 0)] [] M104)) := by
  show am_Ex d 69 0 [(2, x0), am_N] [] M = _
  refine (am_e0 rfl rfl).trans ?_
  refine (am_gf (c := 11) (t := 2) rfl rfl rfl).trans (am_g_congr fun h101 => ?_)
  refine (am_e0 rfl rfl).trans ?_
  refine (am_ial rfl).trans (am_g_congr fun h102 => ?_)
  refine (am_z_ne rfl).trans (am_if_congr (fun c103 => ?_) (fun c103 => ?_))
  · refine (am_e0 rfl rfl).trans ?_
    exact (am_e4i rfl rfl).trans rfl
  · refine (am_e0 rfl rfl).trans ?_
    refine (am_gf (c := 11) (t := 2) rfl rfl rfl).trans ((am_g_t h101).trans ?_)
    refine (am_e0 rfl rfl).trans ?_
    refine (am_e0 rfl rfl).trans ?_
    refine (am_ial rfl).trans ((am_g_t h102).trans ?_)
    refine (am_e0 rfl rfl).trans ?_
    refine (am_e0 rfl rfl).trans ?_
    refine (am_ias rfl).trans ((am_g_t h102).trans ?_)
    refine am_letm (fun M104 => ?_)
    refine (am_e0 rfl rfl).trans ?_
    refine (am_e0 rfl rfl).trans ?_
    exact (am_e5 rfl).trans rfl
set_option maxRecDepth 10000 in
theorem aq_69_18 (d : Nat) (x0 x1 : Int) (M : am_M) : am_Ex d 69 18 [(2, x0), (0, x1)] [] M = (if x1 < 164 then (am_g (am_ob x0 11) <| am_g (am_ar (am_rd M x0 0) 20 5) <| am_g (am_ar (am_rd M x0 0) 20 (am_w32 ((am_w32 (240 + (am_w32 (164 * (am_rd M (am_rd M x0 0) 5))))) + x1))) <| am_g (am_ar (am_rd M x0 0) 20 (am_w32 (60 + x1))) <| am_let (am_wr M (am_rd M x0 0) (am_w32 (60 + x1)) (am_rd M (am_rd M x0 0) (am_w32 ((am_w32 (240 + (am_w32 (164 * (am_rd M (am_rd M x0 0) 5))))) + x1)))) fun M106 => am_let (am_w32 (x1 + 1)) fun v107 => am_Ex d 69 18 [(2, x0), (0, v107)] [] M106) else (am_g (am_ob x0 11) <| am_g (am_ar (am_rd M x0 0) 20 5) <| some (am_rd M (am_rd M x0 0) 5, M))) := by
  refine (am_e0 rfl rfl).trans ?_
  refine (am_e0 rfl rfl).trans ?_
  refine (am_i_ge rfl).trans (am_if_congr (fun c101 => ?_) (fun c101 => ?_))
  · refine (am_e0 rfl rfl).trans ?_
    refine (am_gf (c := 11) (t := 2) rfl rfl rfl).trans (am_g_congr fun h102 => ?_)
    refine (am_e0 rfl rfl).trans ?_
    refine (am_e0 rfl rfl).trans ?_
    refine (am_e0 rfl rfl).trans ?_
    refine (am_e0 rfl rfl).trans ?_
    refine (am_gf (c := 11) (t := 2) rfl rfl rfl).trans ((am_g_t h102).trans ?_)
    refine (am_e0 rfl rfl).trans ?_
    refine (am_e0 rfl rfl).trans ?_
    refine (am_e0 rfl rfl).trans ?_
    refine (am_gf (c := 11) (t := 2) rfl rfl rfl).trans ((am_g_t h102).trans ?_)
    refine (am_e0 rfl rfl).trans ?_
    refine (am_ial rfl).trans (am_g_congr fun h103 => ?_)
    refine (am_e0 rfl rfl).trans ?_
    refine (am_e0 rfl rfl).trans ?_
    refine (am_e0 rfl rfl).trans ?_
    refine (am_e0 rfl rfl).trans ?_
    refine (am_ial rfl).trans (am_g_congr fun h104 => ?_)
    refine (am_ias rfl).trans (am_g_congr fun h105 => ?_)
    refine am_letm (fun M106 => ?_)
    refine (am_e0 rfl rfl).trans ?_
    refine am_lets (L := fun v107 => [(2, x0), (0, v107)]) (fun v107 => ?_)
    refine (am_e1 rfl rfl).trans ?_
    exact (am_e5 rfl).trans rfl
  · refine (am_e0 rfl rfl).trans ?_
    refine (am_gf (c := 11) (t := 2) rfl rfl rfl).trans (am_g_congr fun h108 => ?_)
    refine (am_e0 rfl rfl).trans ?_
    refine (am_ial rfl).trans (am_g_congr fun h109 => ?_)
    exact (am_e4i rfl rfl).trans rfl
-- 70: UnlearnedHandModel.put(I)V
set_option maxRecDepth 10000 in
theorem aq_70 (d : Nat) (x0 x1 : Int) (M : am_M) : am_Call d 70 [(2, x0), (0, x1)] M = (am_Ex d 70 3 [(2, x0), (0, x1), (0, 24)] [] M) := by
  show am_Ex d 70 0 [(2, x0), (0, x1), am_N] [] M = _
  refine (am_e0 rfl rfl).trans ?_
  refine (am_e0 rfl rfl).trans ?_
  exact (am_e5 rfl).trans rfl
set_option maxRecDepth 10000 in
theorem aq_70_3 (d : Nat) (x0 x1 x2 : Int) (M : am_M) : am_Ex d 70 3 [(2, x0), (0, x1), (0, x2)] [] M = (if x2 < 0 then (some (0, M)) else (am_g (am_ob x0 11) <| am_g (am_ar (am_rd M x0 2) 23 (am_rd M x0 3)) <| am_let (am_wr M (am_rd M x0 2) (am_rd M x0 3) (am_i8 (am_i8 (am_shr x1 x2)))) fun M104 => am_let (am_wr M104 x0 3 (am_w32 ((am_rd M104 x0 3) + 1))) fun M105 => am_let (am_w32 (x2 - 8)) fun v106 => am_Ex d 70 3 [(2, x0), (0, x1), (0, v106)] [] M105)) := by
  refine (am_e0 rfl rfl).trans ?_
  refine (am_z_lt rfl).trans (am_if_congr (fun c101 => ?_) (fun c101 => ?_))
  · exact (am_e4v rfl rfl).trans rfl
  · refine (am_e0 rfl rfl).trans ?_
    refine (am_gf (c := 11) (t := 2) rfl rfl rfl).trans (am_g_congr fun h102 => ?_)
    refine (am_e0 rfl rfl).trans ?_
    refine (am_gf (c := 11) (t := 0) rfl rfl rfl).trans ((am_g_t h102).trans ?_)
    refine (am_e0 rfl rfl).trans ?_
    refine (am_e0 rfl rfl).trans ?_
    refine (am_e0 rfl rfl).trans ?_
    refine (am_e0 rfl rfl).trans ?_
    refine (am_bas rfl).trans (am_g_congr fun h103 => ?_)
    refine am_letm (fun M104 => ?_)
    refine (am_e0 rfl rfl).trans ?_
    refine (am_e0 rfl rfl).trans ?_
    refine (am_gf (c := 11) (t := 0) rfl rfl rfl).trans ((am_g_t h102).trans ?_)
    refine (am_e0 rfl rfl).trans ?_
    refine (am_e0 rfl rfl).trans ?_
    refine (am_pf (c := 11) rfl rfl rfl).trans ((am_g_t h102).trans ?_)
    refine am_letm (fun M105 => ?_)
    refine (am_e0 rfl rfl).trans ?_
    refine (am_e0 rfl rfl).trans ?_
    refine (am_e0 rfl rfl).trans ?_
    refine (am_e0 rfl rfl).trans ?_
    refine am_lets (L := fun v106 => [(2, x0), (0, x1), (0, v106)]) (fun v106 => ?_)
    refine (am_e1 rfl rfl).trans ?_
    exact (am_e5 rfl).trans rfl
-- 71: UnlearnedHandModel.wordOf(J)I
set_option maxRecDepth 10000 in
theorem aq_71 (d : Nat) (x0 : Int) (M : am_M) : am_Call d 71 [(1, x0)] M = (if am_cmp x0 166003 = 0 then (some (0, M)) else (if am_cmp x0 646334835 = 0 then (some (1, M)) else (if am_cmp x0 617282611 = 0 then (some (2, M)) else (if am_cmp x0 52442335603 = 0 then (some (3, M)) else (if am_cmp x0 882252008 = 0 then (some (4, M)) else (if am_cmp x0 3137267193956 = 0 then (some (5, M)) else (if am_cmp x0 617257899 = 0 then (some (6, M)) else (if am_cmp x0 13540263 = 0 then (some (7, M)) else (if am_cmp x0 215653 = 0 then (some (8, M)) else (if am_cmp x0 867588908 = 0 then (some (9, M)) else (if am_cmp x0 216249 = 0 then (some (10, M)) else (if am_cmp x0 782662196 = 0 then (some (11, M)) else (if am_cmp x0 2670 = 0 then (some (12, M)) else (if am_cmp x0 2233 = 0 then (some (13, M)) else (if am_cmp x0 3046 = 0 then (some (14, M)) else (if am_cmp x0 2164 = 0 then (some (15, M)) else (if am_cmp x0 3058 = 0 then (some (16, M)) else (if am_cmp x0 138148 = 0 then (some (17, M)) else (if am_cmp x0 191476 = 0 then (some (18, M)) else (if am_cmp x0 13302772 = 0 then (some (19, M)) else (if am_cmp x0 13851822 = 0 then (some (20, M)) else (if am_cmp x0 818583845 = 0 then (some (21, M)) else (if am_cmp x0 849771060 = 0 then (some (22, M)) else (if am_cmp x0 936049575 = 0 then (some (23, M)) else (if am_cmp x0 935275816 = 0 then (some (24, M)) else (if am_cmp x0 149625 = 0 then (some (25, M)) else (if am_cmp x0 13589415 = 0 then (some (26, M)) else (if am_cmp x0 13801828 = 0 then (some (27, M)) else (if am_cmp x0 12015848 = 0 then (some (28, M)) else (some ((-1), M))))))))))))))))))))))))))))))) := by
  show am_Ex d 71 0 [(1, x0), am_N] [] M = _
  refine (am_e0 rfl rfl).trans ?_
  refine (am_e0 rfl rfl).trans ?_
  refine (am_e0 rfl rfl).trans ?_
  refine (am_z_ne rfl).trans (am_if_congr (fun c101 => ?_) (fun c101 => ?_))
  · refine (am_e0 rfl rfl).trans ?_
    refine (am_e1 rfl rfl).trans ?_
    exact (am_e4i rfl rfl).trans rfl
  · refine (am_e0 rfl rfl).trans ?_
    refine (am_e0 rfl rfl).trans ?_
    refine (am_e0 rfl rfl).trans ?_
    refine (am_z_ne rfl).trans (am_if_congr (fun c102 => ?_) (fun c102 => ?_))
    · refine (am_e0 rfl rfl).trans ?_
      refine (am_e1 rfl rfl).trans ?_
      exact (am_e4i rfl rfl).trans rfl
    · refine (am_e0 rfl rfl).trans ?_
      refine (am_e0 rfl rfl).trans ?_
      refine (am_e0 rfl rfl).trans ?_
      refine (am_z_ne rfl).trans (am_if_congr (fun c103 => ?_) (fun c103 => ?_))
      · refine (am_e0 rfl rfl).trans ?_
        refine (am_e1 rfl rfl).trans ?_
        exact (am_e4i rfl rfl).trans rfl
      · refine (am_e0 rfl rfl).trans ?_
        refine (am_e0 rfl rfl).trans ?_
        refine (am_e0 rfl rfl).trans ?_
        refine (am_z_ne rfl).trans (am_if_congr (fun c104 => ?_) (fun c104 => ?_))
        · refine (am_e0 rfl rfl).trans ?_
          refine (am_e1 rfl rfl).trans ?_
          exact (am_e4i rfl rfl).trans rfl
        · refine (am_e0 rfl rfl).trans ?_
          refine (am_e0 rfl rfl).trans ?_
          refine (am_e0 rfl rfl).trans ?_
          refine (am_z_ne rfl).trans (am_if_congr (fun c105 => ?_) (fun c105 => ?_))
          · refine (am_e0 rfl rfl).trans ?_
            refine (am_e1 rfl rfl).trans ?_
            exact (am_e4i rfl rfl).trans rfl
          · refine (am_e0 rfl rfl).trans ?_
            refine (am_e0 rfl rfl).trans ?_
            refine (am_e0 rfl rfl).trans ?_
            refine (am_z_ne rfl).trans (am_if_congr (fun c106 => ?_) (fun c106 => ?_))
            · refine (am_e0 rfl rfl).trans ?_
              refine (am_e1 rfl rfl).trans ?_
              exact (am_e4i rfl rfl).trans rfl
            · refine (am_e0 rfl rfl).trans ?_
              refine (am_e0 rfl rfl).trans ?_
              refine (am_e0 rfl rfl).trans ?_
              refine (am_z_ne rfl).trans (am_if_congr (fun c107 => ?_) (fun c107 => ?_))
              · refine (am_e0 rfl rfl).trans ?_
                refine (am_e1 rfl rfl).trans ?_
                exact (am_e4i rfl rfl).trans rfl
              · refine (am_e0 rfl rfl).trans ?_
                refine (am_e0 rfl rfl).trans ?_
                refine (am_e0 rfl rfl).trans ?_
                refine (am_z_ne rfl).trans (am_if_congr (fun c108 => ?_) (fun c108 => ?_))
                · refine (am_e0 rfl rfl).trans ?_
                  refine (am_e1 rfl rfl).trans ?_
                  exact (am_e4i rfl rfl).trans rfl
                · refine (am_e0 rfl rfl).trans ?_
                  refine (am_e0 rfl rfl).trans ?_
                  refine (am_e0 rfl rfl).trans ?_
                  refine (am_z_ne rfl).trans (am_if_congr (fun c109 => ?_) (fun c109 => ?_))
                  · refine (am_e0 rfl rfl).trans ?_
                    refine (am_e1 rfl rfl).trans ?_
                    exact (am_e4i rfl rfl).trans rfl
                  · refine (am_e0 rfl rfl).trans ?_
                    refine (am_e0 rfl rfl).trans ?_
                    refine (am_e0 rfl rfl).trans ?_
                    refine (am_z_ne rfl).trans (am_if_congr (fun c110 => ?_) (fun c110 => ?_))
                    · refine (am_e0 rfl rfl).trans ?_
                      refine (am_e1 rfl rfl).trans ?_
                      exact (am_e4i rfl rfl).trans rfl
                    · refine (am_e0 rfl rfl).trans ?_
                      refine (am_e0 rfl rfl).trans ?_
                      refine (am_e0 rfl rfl).trans ?_
                      refine (am_z_ne rfl).trans (am_if_congr (fun c111 => ?_) (fun c111 => ?_))
                      · refine (am_e0 rfl rfl).trans ?_
                        refine (am_e1 rfl rfl).trans ?_
                        exact (am_e4i rfl rfl).trans rfl
                      · refine (am_e0 rfl rfl).trans ?_
                        refine (am_e0 rfl rfl).trans ?_
                        refine (am_e0 rfl rfl).trans ?_
                        refine (am_z_ne rfl).trans (am_if_congr (fun c112 => ?_) (fun c112 => ?_))
                        · refine (am_e0 rfl rfl).trans ?_
                          refine (am_e1 rfl rfl).trans ?_
                          exact (am_e4i rfl rfl).trans rfl
                        · refine (am_e0 rfl rfl).trans ?_
                          refine (am_e0 rfl rfl).trans ?_
                          refine (am_e0 rfl rfl).trans ?_
                          refine (am_z_ne rfl).trans (am_if_congr (fun c113 => ?_) (fun c113 => ?_))
                          · refine (am_e0 rfl rfl).trans ?_
                            refine (am_e1 rfl rfl).trans ?_
                            exact (am_e4i rfl rfl).trans rfl
                          · refine (am_e0 rfl rfl).trans ?_
                            refine (am_e0 rfl rfl).trans ?_
                            refine (am_e0 rfl rfl).trans ?_
                            refine (am_z_ne rfl).trans (am_if_congr (fun c114 => ?_) (fun c114 => ?_))
                            · refine (am_e0 rfl rfl).trans ?_
                              refine (am_e1 rfl rfl).trans ?_
                              exact (am_e4i rfl rfl).trans rfl
                            · refine (am_e0 rfl rfl).trans ?_
                              refine (am_e0 rfl rfl).trans ?_
                              refine (am_e0 rfl rfl).trans ?_
                              refine (am_z_ne rfl).trans (am_if_congr (fun c115 => ?_) (fun c115 => ?_))
                              · refine (am_e0 rfl rfl).trans ?_
                                refine (am_e1 rfl rfl).trans ?_
                                exact (am_e4i rfl rfl).trans rfl
                              · refine (am_e0 rfl rfl).trans ?_
                                refine (am_e0 rfl rfl).trans ?_
                                refine (am_e0 rfl rfl).trans ?_
                                refine (am_z_ne rfl).trans (am_if_congr (fun c116 => ?_) (fun c116 => ?_))
                                · refine (am_e0 rfl rfl).trans ?_
                                  refine (am_e1 rfl rfl).trans ?_
                                  exact (am_e4i rfl rfl).trans rfl
                                · refine (am_e0 rfl rfl).trans ?_
                                  refine (am_e0 rfl rfl).trans ?_
                                  refine (am_e0 rfl rfl).trans ?_
                                  refine (am_z_ne rfl).trans (am_if_congr (fun c117 => ?_) (fun c117 => ?_))
                                  · refine (am_e0 rfl rfl).trans ?_
                                    refine (am_e1 rfl rfl).trans ?_
                                    exact (am_e4i rfl rfl).trans rfl
                                  · refine (am_e0 rfl rfl).trans ?_
                                    refine (am_e0 rfl rfl).trans ?_
                                    refine (am_e0 rfl rfl).trans ?_
                                    refine (am_z_ne rfl).trans (am_if_congr (fun c118 => ?_) (fun c118 => ?_))
                                    · refine (am_e0 rfl rfl).trans ?_
                                      refine (am_e1 rfl rfl).trans ?_
                                      exact (am_e4i rfl rfl).trans rfl
                                    · refine (am_e0 rfl rfl).trans ?_
                                      refine (am_e0 rfl rfl).trans ?_
                                      refine (am_e0 rfl rfl).trans ?_
                                      refine (am_z_ne rfl).trans (am_if_congr (fun c119 => ?_) (fun c119 => ?_))
                                      · refine (am_e0 rfl rfl).trans ?_
                                        refine (am_e1 rfl rfl).trans ?_
                                        exact (am_e4i rfl rfl).trans rfl
                                      · refine (am_e0 rfl rfl).trans ?_
                                        refine (am_e0 rfl rfl).trans ?_
                                        refine (am_e0 rfl rfl).trans ?_
                                        refine (am_z_ne rfl).trans (am_if_congr (fun c120 => ?_) (fun c120 => ?_))
                                        · refine (am_e0 rfl rfl).trans ?_
                                          refine (am_e1 rfl rfl).trans ?_
                                          exact (am_e4i rfl rfl).trans rfl
                                        · refine (am_e0 rfl rfl).trans ?_
                                          refine (am_e0 rfl rfl).trans ?_
                                          refine (am_e0 rfl rfl).trans ?_
                                          refine (am_z_ne rfl).trans (am_if_congr (fun c121 => ?_) (fun c121 => ?_))
                                          · refine (am_e0 rfl rfl).trans ?_
                                            refine (am_e1 rfl rfl).trans ?_
                                            exact (am_e4i rfl rfl).trans rfl
                                          · refine (am_e0 rfl rfl).trans ?_
                                            refine (am_e0 rfl rfl).trans ?_
                                            refine (am_e0 rfl rfl).trans ?_
                                            refine (am_z_ne rfl).trans (am_if_congr (fun c122 => ?_) (fun c122 => ?_))
                                            · refine (am_e0 rfl rfl).trans ?_
                                              refine (am_e1 rfl rfl).trans ?_
                                              exact (am_e4i rfl rfl).trans rfl
                                            · refine (am_e0 rfl rfl).trans ?_
                                              refine (am_e0 rfl rfl).trans ?_
                                              refine (am_e0 rfl rfl).trans ?_
                                              refine (am_z_ne rfl).trans (am_if_congr (fun c123 => ?_) (fun c123 => ?_))
                                              · refine (am_e0 rfl rfl).trans ?_
                                                refine (am_e1 rfl rfl).trans ?_
                                                exact (am_e4i rfl rfl).trans rfl
                                              · refine (am_e0 rfl rfl).trans ?_
                                                refine (am_e0 rfl rfl).trans ?_
                                                refine (am_e0 rfl rfl).trans ?_
                                                refine (am_z_ne rfl).trans (am_if_congr (fun c124 => ?_) (fun c124 => ?_))
                                                · refine (am_e0 rfl rfl).trans ?_
                                                  refine (am_e1 rfl rfl).trans ?_
                                                  exact (am_e4i rfl rfl).trans rfl
                                                · refine (am_e0 rfl rfl).trans ?_
                                                  refine (am_e0 rfl rfl).trans ?_
                                                  refine (am_e0 rfl rfl).trans ?_
                                                  refine (am_z_ne rfl).trans (am_if_congr (fun c125 => ?_) (fun c125 => ?_))
                                                  · refine (am_e0 rfl rfl).trans ?_
                                                    refine (am_e1 rfl rfl).trans ?_
                                                    exact (am_e4i rfl rfl).trans rfl
                                                  · refine (am_e0 rfl rfl).trans ?_
                                                    refine (am_e0 rfl rfl).trans ?_
                                                    refine (am_e0 rfl rfl).trans ?_
                                                    refine (am_z_ne rfl).trans (am_if_congr (fun c126 => ?_) (fun c126 => ?_))
                                                    · refine (am_e0 rfl rfl).trans ?_
                                                      refine (am_e1 rfl rfl).trans ?_
                                                      exact (am_e4i rfl rfl).trans rfl
                                                    · refine (am_e0 rfl rfl).trans ?_
                                                      refine (am_e0 rfl rfl).trans ?_
                                                      refine (am_e0 rfl rfl).trans ?_
                                                      refine (am_z_ne rfl).trans (am_if_congr (fun c127 => ?_) (fun c127 => ?_))
                                                      · refine (am_e0 rfl rfl).trans ?_
                                                        refine (am_e1 rfl rfl).trans ?_
                                                        exact (am_e4i rfl rfl).trans rfl
                                                      · refine (am_e0 rfl rfl).trans ?_
                                                        refine (am_e0 rfl rfl).trans ?_
                                                        refine (am_e0 rfl rfl).trans ?_
                                                        refine (am_z_ne rfl).trans (am_if_congr (fun c128 => ?_) (fun c128 => ?_))
                                                        · refine (am_e0 rfl rfl).trans ?_
                                                          refine (am_e1 rfl rfl).trans ?_
                                                          exact (am_e4i rfl rfl).trans rfl
                                                        · refine (am_e0 rfl rfl).trans ?_
                                                          refine (am_e0 rfl rfl).trans ?_
                                                          refine (am_e0 rfl rfl).trans ?_
                                                          refine (am_z_ne rfl).trans (am_if_congr (fun c129 => ?_) (fun c129 => ?_))
                                                          · refine (am_e0 rfl rfl).trans ?_
                                                            refine (am_e1 rfl rfl).trans ?_
                                                            exact (am_e4i rfl rfl).trans rfl
                                                          · refine (am_e0 rfl rfl).trans ?_
                                                            exact (am_e4i rfl rfl).trans rfl
-- 72: UnlearnedHandModel.isSign(I)Z
set_option maxRecDepth 10000 in
theorem aq_72 (d : Nat) (x0 x1 : Int) (M : am_M) : am_Call d 72 [(2, x0), (0, x1)] M = (am_g (am_ob x0 11) <| if am_rd M x0 17 = 3 then (if am_rd M x0 18 = x1 then (some (1, M)) else (some (0, M))) else (some (0, M))) := by
  show am_Ex d 72 0 [(2, x0), (0, x1)] [] M = _
  refine (am_e0 rfl rfl).trans ?_
  refine (am_gf (c := 11) (t := 0) rfl rfl rfl).trans (am_g_congr fun h101 => ?_)
  refine (am_e0 rfl rfl).trans ?_
  refine (am_i_ne rfl).trans (am_if_congr (fun c102 => ?_) (fun c102 => ?_))
  · refine (am_e0 rfl rfl).trans ?_
    refine (am_gf (c := 11) (t := 0) rfl rfl rfl).trans ((am_g_t h101).trans ?_)
    refine (am_e0 rfl rfl).trans ?_
    refine (am_i_ne rfl).trans (am_if_congr (fun c103 => ?_) (fun c103 => ?_))
    · refine (am_e0 rfl rfl).trans ?_
      refine (am_e1 rfl rfl).trans ?_
      exact (am_e4i rfl rfl).trans rfl
    · refine (am_e5 rfl).trans ?_
      show am_Ex d 72 11 [am_N, am_N] [] M = _
      refine (am_e0 rfl rfl).trans ?_
      exact (am_e4i rfl rfl).trans rfl
  · refine (am_e5 rfl).trans ?_
    show am_Ex d 72 11 [am_N, am_N] [] M = _
    refine (am_e0 rfl rfl).trans ?_
    exact (am_e4i rfl rfl).trans rfl
-- 73: UnlearnedHandModel.isWord(I)Z
set_option maxRecDepth 10000 in
theorem aq_73 (d : Nat) (x0 x1 : Int) (M : am_M) : am_Call d 73 [(2, x0), (0, x1)] M = (am_g (am_ob x0 11) <| if am_rd M x0 17 = 1 then (if am_rd M x0 18 = x1 then (some (1, M)) else (some (0, M))) else (some (0, M))) := by
  show am_Ex d 73 0 [(2, x0), (0, x1)] [] M = _
  refine (am_e0 rfl rfl).trans ?_
  refine (am_gf (c := 11) (t := 0) rfl rfl rfl).trans (am_g_congr fun h101 => ?_)
  refine (am_e0 rfl rfl).trans ?_
  refine (am_i_ne rfl).trans (am_if_congr (fun c102 => ?_) (fun c102 => ?_))
  · refine (am_e0 rfl rfl).trans ?_
    refine (am_gf (c := 11) (t := 0) rfl rfl rfl).trans ((am_g_t h101).trans ?_)
    refine (am_e0 rfl rfl).trans ?_
    refine (am_i_ne rfl).trans (am_if_congr (fun c103 => ?_) (fun c103 => ?_))
    · refine (am_e0 rfl rfl).trans ?_
      refine (am_e1 rfl rfl).trans ?_
      exact (am_e4i rfl rfl).trans rfl
    · refine (am_e5 rfl).trans ?_
      show am_Ex d 73 11 [am_N, am_N] [] M = _
      refine (am_e0 rfl rfl).trans ?_
      exact (am_e4i rfl rfl).trans rfl
  · refine (am_e5 rfl).trans ?_
    show am_Ex d 73 11 [am_N, am_N] [] M = _
    refine (am_e0 rfl rfl).trans ?_
    exact (am_e4i rfl rfl).trans rfl
-- 74: UnlearnedHandModel.errs(I)V
set_option maxRecDepth 10000 in
theorem aq_74 (d : Nat) (x0 x1 : Int) (M : am_M) : am_Call d 74 [(2, x0), (0, x1)] M = (am_g (am_ob x0 11) <| if am_rd M x0 19 = 0 then (am_let (am_wr M x0 19 x1) fun M103 => am_let (am_wr M103 x0 20 (am_rd M103 x0 16)) fun M104 => some (0, M104)) else (some (0, M))) := by
  show am_Ex d 74 0 [(2, x0), (0, x1)] [] M = _
  refine (am_e0 rfl rfl).trans ?_
  refine (am_gf (c := 11) (t := 0) rfl rfl rfl).trans (am_g_congr fun h101 => ?_)
  refine (am_z_ne rfl).trans (am_if_congr (fun c102 => ?_) (fun c102 => ?_))
  · refine (am_e0 rfl rfl).trans ?_
    refine (am_e0 rfl rfl).trans ?_
    refine (am_pf (c := 11) rfl rfl rfl).trans ((am_g_t h101).trans ?_)
    refine am_letm (fun M103 => ?_)
    refine (am_e0 rfl rfl).trans ?_
    refine (am_e0 rfl rfl).trans ?_
    refine (am_gf (c := 11) (t := 0) rfl rfl rfl).trans ((am_g_t h101).trans ?_)
    refine (am_pf (c := 11) rfl rfl rfl).trans ((am_g_t h101).trans ?_)
    refine am_letm (fun M104 => ?_)
    refine (am_e5 rfl).trans ?_
    show am_Ex d 74 11 [am_N, am_N] [] M104 = _
    exact (am_e4v rfl rfl).trans rfl
  · refine (am_e5 rfl).trans ?_
    show am_Ex d 74 11 [am_N, am_N] [] M = _
    exact (am_e4v rfl rfl).trans rfl
-- 75: UnlearnedHandModel.emits(II)V
set_option maxRecDepth 10000 in
theorem aq_75 (d : Nat) (x0 x1 x2 : Int) (M : am_M) : am_Call d 75 [(2, x0), (0, x1), (0, x2)] M = (am_g (am_ob x0 11) <| am_g (am_ar (am_rd M x0 37) 20 (am_rd M x0 36)) <| am_let (am_wr M (am_rd M x0 37) (am_rd M x0 36) x1) fun M103 => am_g (am_ar (am_rd M103 x0 38) 20 (am_rd M103 x0 36)) <| am_let (am_wr M103 (am_rd M103 x0 38) (am_rd M103 x0 36) x2) fun M105 => am_let (am_wr M105 x0 36 (am_w32 ((am_rd M105 x0 36) + 1))) fun M106 => some (0, M106)) := by
  show am_Ex d 75 0 [(2, x0), (0, x1), (0, x2)] [] M = _
  refine (am_e0 rfl rfl).trans ?_
  refine (am_gf (c := 11) (t := 2) rfl rfl rfl).trans (am_g_congr fun h101 => ?_)
  refine (am_e0 rfl rfl).trans ?_
  refine (am_gf (c := 11) (t := 0) rfl rfl rfl).trans ((am_g_t h101).trans ?_)
  refine (am_e0 rfl rfl).trans ?_
  refine (am_ias rfl).trans (am_g_congr fun h102 => ?_)
  refine am_letm (fun M103 => ?_)
  refine (am_e0 rfl rfl).trans ?_
  refine (am_gf (c := 11) (t := 2) rfl rfl rfl).trans ((am_g_t h101).trans ?_)
  refine (am_e0 rfl rfl).trans ?_
  refine (am_gf (c := 11) (t := 0) rfl rfl rfl).trans ((am_g_t h101).trans ?_)
  refine (am_e0 rfl rfl).trans ?_
  refine (am_ias rfl).trans (am_g_congr fun h104 => ?_)
  refine am_letm (fun M105 => ?_)
  refine (am_e0 rfl rfl).trans ?_
  refine (am_e0 rfl rfl).trans ?_
  refine (am_gf (c := 11) (t := 0) rfl rfl rfl).trans ((am_g_t h101).trans ?_)
  refine (am_e0 rfl rfl).trans ?_
  refine (am_e0 rfl rfl).trans ?_
  refine (am_pf (c := 11) rfl rfl rfl).trans ((am_g_t h101).trans ?_)
  refine am_letm (fun M106 => ?_)
  exact (am_e4v rfl rfl).trans rfl
-- 76: UnlearnedHandModel.opensFrame(I)V
set_option maxRecDepth 10000 in
theorem aq_76 (d : Nat) (x0 x1 : Int) (M : am_M) : am_Call d 76 [(2, x0), (0, x1)] M = (am_g (am_ob x0 11) <| am_g (am_ar (am_rd M x0 23) 20 (am_rd M x0 22)) <| am_let (am_wr M (am_rd M x0 23) (am_rd M x0 22) x1) fun M103 => am_let (am_wr M103 x0 22 (am_w32 ((am_rd M103 x0 22) + 1))) fun M104 => some (0, M104)) := by
  show am_Ex d 76 0 [(2, x0), (0, x1)] [] M = _
  refine (am_e0 rfl rfl).trans ?_
  refine (am_gf (c := 11) (t := 2) rfl rfl rfl).trans (am_g_congr fun h101 => ?_)
  refine (am_e0 rfl rfl).trans ?_
  refine (am_gf (c := 11) (t := 0) rfl rfl rfl).trans ((am_g_t h101).trans ?_)
  refine (am_e0 rfl rfl).trans ?_
  refine (am_ias rfl).trans (am_g_congr fun h102 => ?_)
  refine am_letm (fun M103 => ?_)
  refine (am_e0 rfl rfl).trans ?_
  refine (am_e0 rfl rfl).trans ?_
  refine (am_gf (c := 11) (t := 0) rfl rfl rfl).trans ((am_g_t h101).trans ?_)
  refine (am_e0 rfl rfl).trans ?_
  refine (am_e0 rfl rfl).trans ?_
  refine (am_pf (c := 11) rfl rfl rfl).trans ((am_g_t h101).trans ?_)
  refine am_letm (fun M104 => ?_)
  exact (am_e4v rfl rfl).trans rfl
-- 77: UnlearnedHandModel.top()I
set_option maxRecDepth 10000 in
theorem aq_77 (d : Nat) (x0 : Int) (M : am_M) : am_Call d 77 [(2, x0)] M = (am_g (am_ob x0 11) <| am_g (am_ar (am_rd M x0 23) 20 (am_w32 ((am_rd M x0 22) - 1))) <| some (am_rd M (am_rd M x0 23) (am_w32 ((am_rd M x0 22) - 1)), M)) := by
  show am_Ex d 77 0 [(2, x0)] [] M = _
  refine (am_e0 rfl rfl).trans ?_
  refine (am_gf (c := 11) (t := 2) rfl rfl rfl).trans (am_g_congr fun h101 => ?_)
  refine (am_e0 rfl rfl).trans ?_
  refine (am_gf (c := 11) (t := 0) rfl rfl rfl).trans ((am_g_t h101).trans ?_)
  refine (am_e0 rfl rfl).trans ?_
  refine (am_e0 rfl rfl).trans ?_
  refine (am_ial rfl).trans (am_g_congr fun h102 => ?_)
  exact (am_e4i rfl rfl).trans rfl
-- 78: UnlearnedHandModel.rank(I)I
set_option maxRecDepth 10000 in
theorem aq_78 (d : Nat) (x0 : Int) (M : am_M) : am_Call d 78 [(0, x0)] M = (if x0 = 407 then (some (1, M)) else (if x0 = 406 then (some (2, M)) else (if x0 = 43 then (am_Ex d 78 17 [am_N] [] M) else (if x0 = 45 then (am_Ex d 78 17 [am_N] [] M) else (some (4, M)))))) := by
  show am_Ex d 78 0 [(0, x0)] [] M = _
  refine (am_e0 rfl rfl).trans ?_
  refine (am_e0 rfl rfl).trans ?_
  refine (am_i_ne rfl).trans (am_if_congr (fun c101 => ?_) (fun c101 => ?_))
  · refine (am_e0 rfl rfl).trans ?_
    refine (am_e1 rfl rfl).trans ?_
    exact (am_e4i rfl rfl).trans rfl
  · refine (am_e0 rfl rfl).trans ?_
    refine (am_e0 rfl rfl).trans ?_
    refine (am_i_ne rfl).trans (am_if_congr (fun c102 => ?_) (fun c102 => ?_))
    · refine (am_e0 rfl rfl).trans ?_
      refine (am_e1 rfl rfl).trans ?_
      exact (am_e4i rfl rfl).trans rfl
    · refine (am_e0 rfl rfl).trans ?_
      refine (am_e0 rfl rfl).trans ?_
      refine (am_i_eq rfl).trans (am_if_congr (fun c103 => ?_) (fun c103 => ?_))
      · exact (am_e5 rfl).trans rfl
      · refine (am_e0 rfl rfl).trans ?_
        refine (am_e0 rfl rfl).trans ?_
        refine (am_i_ne rfl).trans (am_if_congr (fun c104 => ?_) (fun c104 => ?_))
        · exact (am_e5 rfl).trans rfl
        · refine (am_e0 rfl rfl).trans ?_
          exact (am_e4i rfl rfl).trans rfl
set_option maxRecDepth 10000 in
theorem aq_78_17 (d : Nat) (M : am_M) : am_Ex d 78 17 [am_N] [] M = (some (3, M)) := by
  refine (am_e0 rfl rfl).trans ?_
  refine (am_e1 rfl rfl).trans ?_
  exact (am_e4i rfl rfl).trans rfl
-- 79: UnlearnedHandModel.mayName(II)Z
set_option maxRecDepth 10000 in
theorem aq_79 (d : Nat) (x0 x1 : Int) (M : am_M) : am_Call d 79 [(0, x0), (0, x1)] M = (if x0 < 5 then (am_Ex d 79 24 [am_N, am_N] [] M) else (if x0 = 5 then (if x1 = 1 then (am_Ex d 79 24 [am_N, am_N] [] M) else (if x1 = 2 then (am_Ex d 79 24 [am_N, am_N] [] M) else (some (0, M)))) else (if x0 = 8 then (if x1 = 3 then (am_Ex d 79 24 [am_N, am_N] [] M) else (some (0, M))) else (if x1 = 1 then (am_Ex d 79 24 [am_N, am_N] [] M) else (some (0, M)))))) := by
  show am_Ex d 79 0 [(0, x0), (0, x1)] [] M = _
  refine (am_e0 rfl rfl).trans ?_
  refine (am_e0 rfl rfl).trans ?_
  refine (am_i_lt rfl).trans (am_if_congr (fun c101 => ?_) (fun c101 => ?_))
  · exact (am_e5 rfl).trans rfl
  · refine (am_e0 rfl rfl).trans ?_
    refine (am_e0 rfl rfl).trans ?_
    refine (am_i_ne rfl).trans (am_if_congr (fun c102 => ?_) (fun c102 => ?_))
    · refine (am_e0 rfl rfl).trans ?_
      refine (am_e0 rfl rfl).trans ?_
      refine (am_i_eq rfl).trans (am_if_congr (fun c103 => ?_) (fun c103 => ?_))
      · exact (am_e5 rfl).trans rfl
      · refine (am_e0 rfl rfl).trans ?_
        refine (am_e0 rfl rfl).trans ?_
        refine (am_i_ne rfl).trans (am_if_congr (fun c104 => ?_) (fun c104 => ?_))
        · refine (am_e1 rfl rfl).trans ?_
          exact (am_e5 rfl).trans rfl
        · refine (am_e5 rfl).trans ?_
          show am_Ex d 79 27 [am_N, am_N] [] M = _
          refine (am_e0 rfl rfl).trans ?_
          exact (am_e4i rfl rfl).trans rfl
    · refine (am_e0 rfl rfl).trans ?_
      refine (am_e0 rfl rfl).trans ?_
      refine (am_i_ne rfl).trans (am_if_congr (fun c105 => ?_) (fun c105 => ?_))
      · refine (am_e0 rfl rfl).trans ?_
        refine (am_e0 rfl rfl).trans ?_
        refine (am_i_ne rfl).trans (am_if_congr (fun c106 => ?_) (fun c106 => ?_))
        · refine (am_e1 rfl rfl).trans ?_
          exact (am_e5 rfl).trans rfl
        · refine (am_e5 rfl).trans ?_
          show am_Ex d 79 27 [am_N, am_N] [] M = _
          refine (am_e0 rfl rfl).trans ?_
          exact (am_e4i rfl rfl).trans rfl
      · refine (am_e0 rfl rfl).trans ?_
        refine (am_e0 rfl rfl).trans ?_
        refine (am_i_ne rfl).trans (am_if_congr (fun c107 => ?_) (fun c107 => ?_))
        · exact (am_e5 rfl).trans rfl
        · refine (am_e5 rfl).trans ?_
          show am_Ex d 79 27 [am_N, am_N] [] M = _
          refine (am_e0 rfl rfl).trans ?_
          exact (am_e4i rfl rfl).trans rfl
set_option maxRecDepth 10000 in
theorem aq_79_24 (d : Nat) (M : am_M) : am_Ex d 79 24 [am_N, am_N] [] M = (some (1, M)) := by
  refine (am_e0 rfl rfl).trans ?_
  refine (am_e1 rfl rfl).trans ?_
  exact (am_e4i rfl rfl).trans rfl
-- 80: UnlearnedHandModel.nameNow()I
set_option maxRecDepth 10000 in
theorem aq_80 (d : Nat) (x0 : Int) (M : am_M) : am_Call d 80 [(2, x0)] M = (am_g (am_ob x0 11) <| if am_rd M x0 17 = 1 then (if am_rd M x0 18 ≤ 19 then (some ((-1), M)) else (some (am_w32 ((am_w32 ((am_rd M x0 18) - 19)) - 1), M))) else (some ((-1), M))) := by
  show am_Ex d 80 0 [(2, x0)] [] M = _
  refine (am_e0 rfl rfl).trans ?_
  refine (am_gf (c := 11) (t := 0) rfl rfl rfl).trans (am_g_congr fun h101 => ?_)
  refine (am_e0 rfl rfl).trans ?_
  refine (am_i_ne rfl).trans (am_if_congr (fun c102 => ?_) (fun c102 => ?_))
  · refine (am_e0 rfl rfl).trans ?_
    refine (am_gf (c := 11) (t := 0) rfl rfl rfl).trans ((am_g_t h101).trans ?_)
    refine (am_e0 rfl rfl).trans ?_
    refine (am_i_le rfl).trans (am_if_congr (fun c103 => ?_) (fun c103 => ?_))
    · refine (am_e5 rfl).trans ?_
      show am_Ex d 80 16 [am_N] [] M = _
      refine (am_e0 rfl rfl).trans ?_
      exact (am_e4i rfl rfl).trans rfl
    · refine (am_e0 rfl rfl).trans ?_
      refine (am_gf (c := 11) (t := 0) rfl rfl rfl).trans ((am_g_t h101).trans ?_)
      refine (am_e0 rfl rfl).trans ?_
      refine (am_e0 rfl rfl).trans ?_
      refine (am_e0 rfl rfl).trans ?_
      refine (am_e0 rfl rfl).trans ?_
      refine (am_e1 rfl rfl).trans ?_
      exact (am_e4i rfl rfl).trans rfl
  · refine (am_e5 rfl).trans ?_
    show am_Ex d 80 16 [am_N] [] M = _
    refine (am_e0 rfl rfl).trans ?_
    exact (am_e4i rfl rfl).trans rfl
-- 81: UnlearnedHandModel.isAsking(I)Z
set_option maxRecDepth 10000 in
theorem aq_81 (d : Nat) (x0 : Int) (M : am_M) : am_Call d 81 [(0, x0)] M = (if x0 = 60 then (am_Ex d 81 19 [am_N] [] M) else (if x0 = 62 then (am_Ex d 81 19 [am_N] [] M) else (if x0 = 61 then (am_Ex d 81 19 [am_N] [] M) else (if x0 = 35 then (am_Ex d 81 19 [am_N] [] M) else (if x0 = 300 then (am_Ex d 81 19 [am_N] [] M) else (if x0 = 301 then (am_Ex d 81 19 [am_N] [] M) else (some (0, M)))))))) := by
  show am_Ex d 81 0 [(0, x0)] [] M = _
  refine (am_e0 rfl rfl).trans ?_
  refine (am_e0 rfl rfl).trans ?_
  refine (am_i_eq rfl).trans (am_if_congr (fun c101 => ?_) (fun c101 => ?_))
  · exact (am_e5 rfl).trans rfl
  · refine (am_e0 rfl rfl).trans ?_
    refine (am_e0 rfl rfl).trans ?_
    refine (am_i_eq rfl).trans (am_if_congr (fun c102 => ?_) (fun c102 => ?_))
    · exact (am_e5 rfl).trans rfl
    · refine (am_e0 rfl rfl).trans ?_
      refine (am_e0 rfl rfl).trans ?_
      refine (am_i_eq rfl).trans (am_if_congr (fun c103 => ?_) (fun c103 => ?_))
      · exact (am_e5 rfl).trans rfl
      · refine (am_e0 rfl rfl).trans ?_
        refine (am_e0 rfl rfl).trans ?_
        refine (am_i_eq rfl).trans (am_if_congr (fun c104 => ?_) (fun c104 => ?_))
        · exact (am_e5 rfl).trans rfl
        · refine (am_e0 rfl rfl).trans ?_
          refine (am_e0 rfl rfl).trans ?_
          refine (am_i_eq rfl).trans (am_if_congr (fun c105 => ?_) (fun c105 => ?_))
          · exact (am_e5 rfl).trans rfl
          · refine (am_e0 rfl rfl).trans ?_
            refine (am_e0 rfl rfl).trans ?_
            refine (am_i_ne rfl).trans (am_if_congr (fun c106 => ?_) (fun c106 => ?_))
            · exact (am_e5 rfl).trans rfl
            · refine (am_e0 rfl rfl).trans ?_
              exact (am_e4i rfl rfl).trans rfl
set_option maxRecDepth 10000 in
theorem aq_81_19 (d : Nat) (M : am_M) : am_Ex d 81 19 [am_N] [] M = (some (1, M)) := by
  refine (am_e0 rfl rfl).trans ?_
  refine (am_e1 rfl rfl).trans ?_
  exact (am_e4i rfl rfl).trans rfl
-- 82: UnlearnedHandModel.wasTold(I)Z
set_option maxRecDepth 10000 in
theorem aq_82 (d : Nat) (x0 x1 : Int) (M : am_M) : am_Call d 82 [(2, x0), (0, x1)] M = (am_Ex d 82 5 [(2, x0), (0, x1), (0, 0), (0, 0)] [] M) := by
  show am_Ex d 82 0 [(2, x0), (0, x1), am_N, am_N] [] M = _
  refine (am_e0 rfl rfl).trans ?_
  refine (am_e0 rfl rfl).trans ?_
  refine (am_e0 rfl rfl).trans ?_
  refine (am_e0 rfl rfl).trans ?_
  exact (am_e5 rfl).trans rfl
set_option maxRecDepth 10000 in
theorem aq_82_5 (d : Nat) (x0 x1 x2 x3 : Int) (M : am_M) : am_Ex d 82 5 [(2, x0), (0, x1), (0, x2), (0, x3)] [] M = (am_g (am_ob x0 11) <| if x3 < am_rd M x0 29 then (if x2 = 0 then (am_g (am_ar (am_rd M x0 31) 20 x3) <| if am_rd M (am_rd M x0 31) x3 = x1 then (am_Ex d 82 18 [(2, x0), (0, x1), am_N, (0, x3)] [] M) else (am_let (am_w32 (x3 + 1)) fun v106 => am_Ex d 82 5 [(2, x0), (0, x1), (0, 0), (0, v106)] [] M)) else (am_Ex d 82 18 [(2, x0), (0, x1), am_N, (0, x3)] [] M)) else (am_g (x2 == 0 || x2 == 1) (some (x2, M)))) := by
  refine (am_e0 rfl rfl).trans ?_
  refine (am_e0 rfl rfl).trans ?_
  refine (am_gf (c := 11) (t := 0) rfl rfl rfl).trans (am_g_congr fun h101 => ?_)
  refine (am_i_ge rfl).trans (am_if_congr (fun c102 => ?_) (fun c102 => ?_))
  · refine (am_e0 rfl rfl).trans ?_
    refine (am_z_ne rfl).trans (am_if_congr (fun c103 => ?_) (fun c103 => ?_))
    · refine (am_e0 rfl rfl).trans ?_
      refine (am_gf (c := 11) (t := 2) rfl rfl rfl).trans ((am_g_t h101).trans ?_)
      refine (am_e0 rfl rfl).trans ?_
      refine (am_ial rfl).trans (am_g_congr fun h104 => ?_)
      refine (am_e0 rfl rfl).trans ?_
      refine (am_i_ne rfl).trans (am_if_congr (fun c105 => ?_) (fun c105 => ?_))
      · exact (am_e5 rfl).trans rfl
      · refine (am_e0 rfl rfl).trans ?_
        refine (am_e0 rfl rfl).trans ?_
        refine (am_e0 rfl rfl).trans ?_
        refine am_lets (L := fun v106 => [(2, x0), (0, x1), (0, 0), (0, v106)]) (fun v106 => ?_)
        refine (am_e1 rfl rfl).trans ?_
        exact (am_e5 rfl).trans rfl
    · exact (am_e5 rfl).trans rfl
  · refine (am_e0 rfl rfl).trans ?_
    exact (am_e4z rfl rfl).trans rfl
set_option maxRecDepth 10000 in
theorem aq_82_18 (d : Nat) (x0 x1 x3 : Int) (M : am_M) : am_Ex d 82 18 [(2, x0), (0, x1), am_N, (0, x3)] [] M = (am_let (am_w32 (x3 + 1)) fun v101 => am_Ex d 82 5 [(2, x0), (0, x1), (0, 1), (0, v101)] [] M) := by
  refine (am_e0 rfl rfl).trans ?_
  refine (am_e1 rfl rfl).trans ?_
  refine (am_e0 rfl rfl).trans ?_
  refine (am_e0 rfl rfl).trans ?_
  refine am_lets (L := fun v101 => [(2, x0), (0, x1), (0, 1), (0, v101)]) (fun v101 => ?_)
  refine (am_e1 rfl rfl).trans ?_
  exact (am_e5 rfl).trans rfl
-- 83: UnlearnedHandModel.fault(I)I
set_option maxRecDepth 10000 in
theorem aq_83 (d : Nat) (x0 x1 : Int) (M : am_M) : am_Call d 83 [(2, x0), (0, x1)] M = (if x1 = 0 then (am_g (am_ob x0 11) <| some (am_rd M x0 4, M)) else (if x1 = 1 then (am_g (am_ob x0 11) <| some (am_rd M x0 5, M)) else (some ((-1), M)))) := by
  show am_Ex d 83 0 [(2, x0), (0, x1)] [] M = _
  refine (am_e0 rfl rfl).trans ?_
  refine (am_z_ne rfl).trans (am_if_congr (fun c101 => ?_) (fun c101 => ?_))
  · refine (am_e0 rfl rfl).trans ?_
    refine (am_gf (c := 11) (t := 0) rfl rfl rfl).trans (am_g_congr fun h102 => ?_)
    refine (am_e1 rfl rfl).trans ?_
    exact (am_e4i rfl rfl).trans rfl
  · refine (am_e0 rfl rfl).trans ?_
    refine (am_e0 rfl rfl).trans ?_
    refine (am_i_ne rfl).trans (am_if_congr (fun c103 => ?_) (fun c103 => ?_))
    · refine (am_e0 rfl rfl).trans ?_
      refine (am_gf (c := 11) (t := 0) rfl rfl rfl).trans (am_g_congr fun h104 => ?_)
      refine (am_e1 rfl rfl).trans ?_
      exact (am_e4i rfl rfl).trans rfl
    · refine (am_e0 rfl rfl).trans ?_
      exact (am_e4i rfl rfl).trans rfl
-- 84: UnlearnedHandModel.bound(J)J
set_option maxRecDepth 10000 in
theorem aq_84 (d : Nat) (x0 : Int) (M : am_M) : am_Call d 84 [(1, x0)] M = (if am_cmp x0 1000000 ≤ 0 then (if am_cmp x0 (-1000000) < 0 then (some ((-1000000), M)) else (some (x0, M))) else (some (1000000, M))) := by
  show am_Ex d 84 0 [(1, x0), am_N] [] M = _
  refine (am_e0 rfl rfl).trans ?_
  refine (am_e0 rfl rfl).trans ?_
  refine (am_e0 rfl rfl).trans ?_
  refine (am_z_le rfl).trans (am_if_congr (fun c101 => ?_) (fun c101 => ?_))
  · refine (am_e0 rfl rfl).trans ?_
    refine (am_e0 rfl rfl).trans ?_
    refine (am_e0 rfl rfl).trans ?_
    refine (am_z_ge rfl).trans (am_if_congr (fun c102 => ?_) (fun c102 => ?_))
    · refine (am_e0 rfl rfl).trans ?_
      refine (am_e1 rfl rfl).trans ?_
      exact (am_e4l rfl rfl).trans rfl
    · refine (am_e0 rfl rfl).trans ?_
      exact (am_e4l rfl rfl).trans rfl
  · refine (am_e0 rfl rfl).trans ?_
    refine (am_e1 rfl rfl).trans ?_
    exact (am_e4l rfl rfl).trans rfl
-- 85: UnlearnedHandModel.root(J)J
set_option maxRecDepth 10000 in
theorem aq_85 (d : Nat) (x0 : Int) (M : am_M) : am_Call d 85 [(1, x0)] M = (if am_cmp x0 0 < 0 then (am_let (am_w64 (-x0)) fun v102 => am_Ex d 85 14 [(1, x0), am_N, (1, v102), am_N, (1, 0), am_N, (1, 1024), am_N] [] M) else (am_Ex d 85 14 [(1, x0), am_N, (1, x0), am_N, (1, 0), am_N, (1, 1024), am_N] [] M)) := by
  show am_Ex d 85 0 [(1, x0), am_N, am_N, am_N, am_N, am_N, am_N, am_N] [] M = _
  refine (am_e0 rfl rfl).trans ?_
  refine (am_e0 rfl rfl).trans ?_
  refine (am_e0 rfl rfl).trans ?_
  refine (am_z_ge rfl).trans (am_if_congr (fun c101 => ?_) (fun c101 => ?_))
  · refine (am_e0 rfl rfl).trans ?_
    refine (am_e0 rfl rfl).trans ?_
    refine (am_e1 rfl rfl).trans ?_
    refine (am_e0 rfl rfl).trans ?_
    refine am_lets (L := fun v102 => [(1, x0), am_N, (1, v102), am_N, am_N, am_N, am_N, am_N]) (fun v102 => ?_)
    refine (am_e0 rfl rfl).trans ?_
    refine (am_e0 rfl rfl).trans ?_
    refine (am_e0 rfl rfl).trans ?_
    refine (am_e0 rfl rfl).trans ?_
    exact (am_e5 rfl).trans rfl
  · refine (am_e0 rfl rfl).trans ?_
    refine (am_e0 rfl rfl).trans ?_
    refine (am_e0 rfl rfl).trans ?_
    refine (am_e0 rfl rfl).trans ?_
    refine (am_e0 rfl rfl).trans ?_
    refine (am_e0 rfl rfl).trans ?_
    exact (am_e5 rfl).trans rfl
set_option maxRecDepth 10000 in
theorem aq_85_14 (d : Nat) (x0 x2 x4 x6 : Int) (M : am_M) : am_Ex d 85 14 [(1, x0), am_N, (1, x2), am_N, (1, x4), am_N, (1, x6), am_N] [] M = (if am_cmp x6 0 ≤ 0 then (if am_cmp x0 0 < 0 then (some (am_w64 (-x4), M)) else (some (x4, M))) else (if am_cmp (am_w64 ((am_w64 (x4 + x6)) * (am_w64 (x4 + x6)))) x2 ≤ 0 then (am_let (am_w64 (x4 + x6)) fun v104 => if (2 : Int) = 0 then none else am_let (am_ldiv x6 2) fun v106 => am_Ex d 85 14 [(1, x0), am_N, (1, x2), am_N, (1, v104), am_N, (1, v106), am_N] [] M) else (am_let (am_w64 (x4 + 0)) fun v107 => if (2 : Int) = 0 then none else am_let (am_ldiv x6 2) fun v109 => am_Ex d 85 14 [(1, x0), am_N, (1, x2), am_N, (1, v107), am_N, (1, v109), am_N] [] M))) := by
  refine (am_e0 rfl rfl).trans ?_
  refine (am_e0 rfl rfl).trans ?_
  refine (am_e0 rfl rfl).trans ?_
  refine (am_z_le rfl).trans (am_if_congr (fun c101 => ?_) (fun c101 => ?_))
  · refine (am_e0 rfl rfl).trans ?_
    refine (am_e0 rfl rfl).trans ?_
    refine (am_e0 rfl rfl).trans ?_
    refine (am_z_ge rfl).trans (am_if_congr (fun c102 => ?_) (fun c102 => ?_))
    · refine (am_e0 rfl rfl).trans ?_
      refine (am_e0 rfl rfl).trans ?_
      refine (am_e1 rfl rfl).trans ?_
      exact (am_e4l rfl rfl).trans rfl
    · refine (am_e0 rfl rfl).trans ?_
      exact (am_e4l rfl rfl).trans rfl
  · refine (am_e0 rfl rfl).trans ?_
    refine (am_e0 rfl rfl).trans ?_
    refine (am_e0 rfl rfl).trans ?_
    refine (am_e0 rfl rfl).trans ?_
    refine (am_e0 rfl rfl).trans ?_
    refine (am_e0 rfl rfl).trans ?_
    refine (am_e0 rfl rfl).trans ?_
    refine (am_e0 rfl rfl).trans ?_
    refine (am_e0 rfl rfl).trans ?_
    refine (am_e0 rfl rfl).trans ?_
    refine (am_z_gt rfl).trans (am_if_congr (fun c103 => ?_) (fun c103 => ?_))
    · refine (am_e0 rfl rfl).trans ?_
      refine (am_e1 rfl rfl).trans ?_
      refine (am_e0 rfl rfl).trans ?_
      refine (am_e0 rfl rfl).trans ?_
      refine am_lets (L := fun v104 => [(1, x0), am_N, (1, x2), am_N, (1, v104), am_N, (1, x6), am_N]) (fun v104 => ?_)
      refine (am_e0 rfl rfl).trans ?_
      refine (am_e0 rfl rfl).trans ?_
      refine (am_dvl rfl).trans (am_if_congr (fun _ => rfl) (fun c105 => ?_))
      refine (am_e0 rfl rfl).trans ?_
      refine am_lets (L := fun v106 => [(1, x0), am_N, (1, x2), am_N, (1, v104), am_N, (1, v106), am_N]) (fun v106 => ?_)
      refine (am_e1 rfl rfl).trans ?_
      exact (am_e5 rfl).trans rfl
    · refine (am_e0 rfl rfl).trans ?_
      refine (am_e0 rfl rfl).trans ?_
      refine (am_e0 rfl rfl).trans ?_
      refine am_lets (L := fun v107 => [(1, x0), am_N, (1, x2), am_N, (1, v107), am_N, (1, x6), am_N]) (fun v107 => ?_)
      refine (am_e0 rfl rfl).trans ?_
      refine (am_e0 rfl rfl).trans ?_
      refine (am_dvl rfl).trans (am_if_congr (fun _ => rfl) (fun c108 => ?_))
      refine (am_e0 rfl rfl).trans ?_
      refine am_lets (L := fun v109 => [(1, x0), am_N, (1, x2), am_N, (1, v107), am_N, (1, v109), am_N]) (fun v109 => ?_)
      refine (am_e1 rfl rfl).trans ?_
      exact (am_e5 rfl).trans rfl
-- 86: UnlearnedHandModel.ordersOf(I)I
set_option maxRecDepth 10000 in
theorem aq_86 (d : Nat) (x0 x1 : Int) (M : am_M) : am_Call d 86 [(2, x0), (0, x1)] M = (am_Ex d 86 5 [(2, x0), (0, x1), (0, (-1)), (0, 0), am_N] [] M) := by
  show am_Ex d 86 0 [(2, x0), (0, x1), am_N, am_N, am_N] [] M = _
  refine (am_e0 rfl rfl).trans ?_
  refine (am_e0 rfl rfl).trans ?_
  refine (am_e0 rfl rfl).trans ?_
  refine (am_e0 rfl rfl).trans ?_
  exact (am_e5 rfl).trans rfl
set_option maxRecDepth 10000 in
theorem aq_86_5 (d : Nat) (x0 x1 x2 x3 : Int) (M : am_M) : am_Ex d 86 5 [(2, x0), (0, x1), (0, x2), (0, x3), am_N] [] M = (am_g (am_ob x0 11) <| am_g (am_ar (am_rd M x0 0) 20 4) <| if am_rd M (am_rd M x0 0) 4 = (-1) then (some (x2, M)) else (am_g (am_ar (am_rd M x0 6) 20 (am_rd M (am_rd M x0 0) 4)) <| if x3 < am_rd M (am_rd M x0 6) (am_rd M (am_rd M x0 0) 4) then (am_let (am_w32 ((am_w32 (24 * (am_rd M (am_rd M x0 0) 4))) + x3)) fun v106 => am_g (am_ar (am_rd M x0 7) 20 v106) <| if am_rd M (am_rd M x0 7) v106 = x1 then (am_g (am_ar (am_rd M x0 8) 20 v106) <| am_let (am_rd M (am_rd M x0 8) v106) fun v110 => am_let (am_w32 (x3 + 1)) fun v111 => am_Ex d 86 5 [(2, x0), (0, x1), (0, v110), (0, v111), am_N] [] M) else (am_let (am_w32 (x3 + 1)) fun v112 => am_Ex d 86 5 [(2, x0), (0, x1), (0, x2), (0, v112), am_N] [] M)) else (some (x2, M)))) := by
  refine (am_e0 rfl rfl).trans ?_
  refine (am_gf (c := 11) (t := 2) rfl rfl rfl).trans (am_g_congr fun h101 => ?_)
  refine (am_e0 rfl rfl).trans ?_
  refine (am_ial rfl).trans (am_g_congr fun h102 => ?_)
  refine (am_e0 rfl rfl).trans ?_
  refine (am_i_eq rfl).trans (am_if_congr (fun c103 => ?_) (fun c103 => ?_))
  · refine (am_e5 rfl).trans ?_
    show am_Ex d 86 45 [am_N, am_N, (0, x2), am_N, am_N] [] M = _
    refine (am_e0 rfl rfl).trans ?_
    exact (am_e4i rfl rfl).trans rfl
  · refine (am_e0 rfl rfl).trans ?_
    refine (am_e0 rfl rfl).trans ?_
    refine (am_gf (c := 11) (t := 2) rfl rfl rfl).trans ((am_g_t h101).trans ?_)
    refine (am_e0 rfl rfl).trans ?_
    refine (am_gf (c := 11) (t := 2) rfl rfl rfl).trans ((am_g_t h101).trans ?_)
    refine (am_e0 rfl rfl).trans ?_
    refine (am_ial rfl).trans ((am_g_t h102).trans ?_)
    refine (am_ial rfl).trans (am_g_congr fun h104 => ?_)
    refine (am_i_ge rfl).trans (am_if_congr (fun c105 => ?_) (fun c105 => ?_))
    · refine (am_e0 rfl rfl).trans ?_
      refine (am_e0 rfl rfl).trans ?_
      refine (am_gf (c := 11) (t := 2) rfl rfl rfl).trans ((am_g_t h101).trans ?_)
      refine (am_e0 rfl rfl).trans ?_
      refine (am_ial rfl).trans ((am_g_t h102).trans ?_)
      refine (am_e0 rfl rfl).trans ?_
      refine (am_e0 rfl rfl).trans ?_
      refine (am_e0 rfl rfl).trans ?_
      refine (am_e0 rfl rfl).trans ?_
      refine am_lets (L := fun v106 => [(2, x0), (0, x1), (0, x2), (0, x3), (0, v106)]) (fun v106 => ?_)
      refine (am_e0 rfl rfl).trans ?_
      refine (am_gf (c := 11) (t := 2) rfl rfl rfl).trans ((am_g_t h101).trans ?_)
      refine (am_e0 rfl rfl).trans ?_
      refine (am_ial rfl).trans (am_g_congr fun h107 => ?_)
      refine (am_e0 rfl rfl).trans ?_
      refine (am_i_ne rfl).trans (am_if_congr (fun c108 => ?_) (fun c108 => ?_))
      · refine (am_e0 rfl rfl).trans ?_
        refine (am_gf (c := 11) (t := 2) rfl rfl rfl).trans ((am_g_t h101).trans ?_)
        refine (am_e0 rfl rfl).trans ?_
        refine (am_ial rfl).trans (am_g_congr fun h109 => ?_)
        refine (am_e1 rfl rfl).trans ?_
        refine (am_e0 rfl rfl).trans ?_
        refine am_lets (L := fun v110 => [(2, x0), (0, x1), (0, v110), (0, x3), (0, v106)]) (fun v110 => ?_)
        refine (am_e0 rfl rfl).trans ?_
        refine am_lets (L := fun v111 => [(2, x0), (0, x1), (0, v110), (0, v111), (0, v106)]) (fun v111 => ?_)
        refine (am_e1 rfl rfl).trans ?_
        exact (am_e5 rfl).trans rfl
      · refine (am_e0 rfl rfl).trans ?_
        refine (am_e0 rfl rfl).trans ?_
        refine (am_e0 rfl rfl).trans ?_
        refine am_lets (L := fun v112 => [(2, x0), (0, x1), (0, x2), (0, v112), (0, v106)]) (fun v112 => ?_)
        refine (am_e1 rfl rfl).trans ?_
        exact (am_e5 rfl).trans rfl
    · refine (am_e5 rfl).trans ?_
      show am_Ex d 86 45 [am_N, am_N, (0, x2), am_N, am_N] [] M = _
      refine (am_e0 rfl rfl).trans ?_
      exact (am_e4i rfl rfl).trans rfl
-- 87: UnlearnedHandModel.held(JII)I
set_option maxRecDepth 10000 in
theorem aq_87 (d : Nat) (x0 x1 x2 : Int) (M : am_M) : am_Call d 87 [(1, x0), (0, x1), (0, x2)] M = (if am_cmp x0 x1 < 0 then (some (x1, M)) else (if am_cmp x0 x2 ≤ 0 then (some (am_w32 x0, M)) else (some (x2, M)))) := by
  show am_Ex d 87 0 [(1, x0), am_N, (0, x1), (0, x2)] [] M = _
  refine (am_e0 rfl rfl).trans ?_
  refine (am_e0 rfl rfl).trans ?_
  refine (am_e0 rfl rfl).trans ?_
  refine (am_e0 rfl rfl).trans ?_
  refine (am_z_ge rfl).trans (am_if_congr (fun c101 => ?_) (fun c101 => ?_))
  · refine (am_e0 rfl rfl).trans ?_
    refine (am_e1 rfl rfl).trans ?_
    exact (am_e4i rfl rfl).trans rfl
  · refine (am_e0 rfl rfl).trans ?_
    refine (am_e0 rfl rfl).trans ?_
    refine (am_e0 rfl rfl).trans ?_
    refine (am_e0 rfl rfl).trans ?_
    refine (am_z_le rfl).trans (am_if_congr (fun c102 => ?_) (fun c102 => ?_))
    · refine (am_e0 rfl rfl).trans ?_
      refine (am_e0 rfl rfl).trans ?_
      exact (am_e4i rfl rfl).trans rfl
    · refine (am_e0 rfl rfl).trans ?_
      refine (am_e1 rfl rfl).trans ?_
      exact (am_e4i rfl rfl).trans rfl
-- 88: UnlearnedHandModel.laysNow()V
set_option maxRecDepth 10000 in
theorem aq_88 (d : Nat) (x0 : Int) (M : am_M) : am_Call d 88 [(2, x0)] M = (am_g (am_ob x0 11) <| am_g (am_ar (am_rd M x0 0) 20 222) <| am_let (am_wr M x0 47 (am_rd M (am_rd M x0 0) 222)) fun M103 => am_Ex d 88 9 [(2, x0), (0, 0)] [] M103) := by
  show am_Ex d 88 0 [(2, x0), am_N] [] M = _
  refine (am_e0 rfl rfl).trans ?_
  refine (am_e0 rfl rfl).trans ?_
  refine (am_gf (c := 11) (t := 2) rfl rfl rfl).trans (am_g_congr fun h101 => ?_)
  refine (am_e0 rfl rfl).trans ?_
  refine (am_ial rfl).trans (am_g_congr fun h102 => ?_)
  refine (am_pf (c := 11) rfl rfl rfl).trans ((am_g_t h101).trans ?_)
  refine am_letm (fun M103 => ?_)
  refine (am_e0 rfl rfl).trans ?_
  refine (am_e0 rfl rfl).trans ?_
  exact (am_e5 rfl).trans rfl
set_option maxRecDepth 10000 in
theorem aq_88_9 (d : Nat) (x0 x1 : Int) (M : am_M) : am_Ex d 88 9 [(2, x0), (0, x1)] [] M = (if x1 < 48 then (am_g (am_ob x0 11) <| am_g (am_ar (am_rd M x0 0) 20 (am_w32 (60 + x1))) <| am_g (am_ar (am_rd M x0 41) 20 x1) <| am_let (am_wr M (am_rd M x0 41) x1 (am_rd M (am_rd M x0 0) (am_w32 (60 + x1)))) fun M105 => am_g (am_ar (am_rd M105 x0 0) 20 (am_w32 (108 + x1))) <| am_g (am_ar (am_rd M105 x0 42) 20 x1) <| am_let (am_wr M105 (am_rd M105 x0 42) x1 (am_rd M105 (am_rd M105 x0 0) (am_w32 (108 + x1)))) fun M108 => am_g (am_ar (am_rd M108 x0 0) 20 (am_w32 (156 + x1))) <| am_g (am_ar (am_rd M108 x0 43) 20 x1) <| am_let (am_wr M108 (am_rd M108 x0 43) x1 (am_rd M108 (am_rd M108 x0 0) (am_w32 (156 + x1)))) fun M111 => am_let (am_w32 (x1 + 1)) fun v112 => am_Ex d 88 9 [(2, x0), (0, v112)] [] M111) else (am_Ex d 88 47 [(2, x0), (0, 0)] [] M)) := by
  refine (am_e0 rfl rfl).trans ?_
  refine (am_e0 rfl rfl).trans ?_
  refine (am_i_ge rfl).trans (am_if_congr (fun c101 => ?_) (fun c101 => ?_))
  · refine (am_e0 rfl rfl).trans ?_
    refine (am_gf (c := 11) (t := 2) rfl rfl rfl).trans (am_g_congr fun h102 => ?_)
    refine (am_e0 rfl rfl).trans ?_
    refine (am_e0 rfl rfl).trans ?_
    refine (am_gf (c := 11) (t := 2) rfl rfl rfl).trans ((am_g_t h102).trans ?_)
    refine (am_e0 rfl rfl).trans ?_
    refine (am_e0 rfl rfl).trans ?_
    refine (am_e0 rfl rfl).trans ?_
    refine (am_ial rfl).trans (am_g_congr fun h103 => ?_)
    refine (am_ias rfl).trans (am_g_congr fun h104 => ?_)
    refine am_letm (fun M105 => ?_)
    refine (am_e0 rfl rfl).trans ?_
    refine (am_gf (c := 11) (t := 2) rfl rfl rfl).trans ((am_g_t h102).trans ?_)
    refine (am_e0 rfl rfl).trans ?_
    refine (am_e0 rfl rfl).trans ?_
    refine (am_gf (c := 11) (t := 2) rfl rfl rfl).trans ((am_g_t h102).trans ?_)
    refine (am_e0 rfl rfl).trans ?_
    refine (am_e0 rfl rfl).trans ?_
    refine (am_e0 rfl rfl).trans ?_
    refine (am_ial rfl).trans (am_g_congr fun h106 => ?_)
    refine (am_ias rfl).trans (am_g_congr fun h107 => ?_)
    refine am_letm (fun M108 => ?_)
    refine (am_e0 rfl rfl).trans ?_
    refine (am_gf (c := 11) (t := 2) rfl rfl rfl).trans ((am_g_t h102).trans ?_)
    refine (am_e0 rfl rfl).trans ?_
    refine (am_e0 rfl rfl).trans ?_
    refine (am_gf (c := 11) (t := 2) rfl rfl rfl).trans ((am_g_t h102).trans ?_)
    refine (am_e0 rfl rfl).trans ?_
    refine (am_e0 rfl rfl).trans ?_
    refine (am_e0 rfl rfl).trans ?_
    refine (am_ial rfl).trans (am_g_congr fun h109 => ?_)
    refine (am_ias rfl).trans (am_g_congr fun h110 => ?_)
    refine am_letm (fun M111 => ?_)
    refine (am_e0 rfl rfl).trans ?_
    refine am_lets (L := fun v112 => [(2, x0), (0, v112)]) (fun v112 => ?_)
    refine (am_e1 rfl rfl).trans ?_
    exact (am_e5 rfl).trans rfl
  · refine (am_e0 rfl rfl).trans ?_
    refine (am_e0 rfl rfl).trans ?_
    exact (am_e5 rfl).trans rfl
set_option maxRecDepth 10000 in
theorem aq_88_47 (d : Nat) (x0 x1 : Int) (M : am_M) : am_Ex d 88 47 [(2, x0), (0, x1)] [] M = (if x1 < 6 then (am_g (am_ob x0 11) <| am_g (am_ar (am_rd M x0 0) 20 (am_w32 (204 + x1))) <| am_g (am_ar (am_rd M x0 44) 20 x1) <| am_let (am_wr M (am_rd M x0 44) x1 (am_rd M (am_rd M x0 0) (am_w32 (204 + x1)))) fun M105 => am_g (am_ar (am_rd M105 x0 0) 20 (am_w32 (210 + x1))) <| am_g (am_ar (am_rd M105 x0 45) 20 x1) <| am_let (am_wr M105 (am_rd M105 x0 45) x1 (am_rd M105 (am_rd M105 x0 0) (am_w32 (210 + x1)))) fun M108 => am_g (am_ar (am_rd M108 x0 0) 20 (am_w32 (216 + x1))) <| am_g (am_ar (am_rd M108 x0 46) 20 x1) <| am_let (am_wr M108 (am_rd M108 x0 46) x1 (am_rd M108 (am_rd M108 x0 0) (am_w32 (216 + x1)))) fun M111 => am_let (am_w32 (x1 + 1)) fun v112 => am_Ex d 88 47 [(2, x0), (0, v112)] [] M111) else (some (0, M))) := by
  refine (am_e0 rfl rfl).trans ?_
  refine (am_e0 rfl rfl).trans ?_
  refine (am_i_ge rfl).trans (am_if_congr (fun c101 => ?_) (fun c101 => ?_))
  · refine (am_e0 rfl rfl).trans ?_
    refine (am_gf (c := 11) (t := 2) rfl rfl rfl).trans (am_g_congr fun h102 => ?_)
    refine (am_e0 rfl rfl).trans ?_
    refine (am_e0 rfl rfl).trans ?_
    refine (am_gf (c := 11) (t := 2) rfl rfl rfl).trans ((am_g_t h102).trans ?_)
    refine (am_e0 rfl rfl).trans ?_
    refine (am_e0 rfl rfl).trans ?_
    refine (am_e0 rfl rfl).trans ?_
    refine (am_ial rfl).trans (am_g_congr fun h103 => ?_)
    refine (am_ias rfl).trans (am_g_congr fun h104 => ?_)
    refine am_letm (fun M105 => ?_)
    refine (am_e0 rfl rfl).trans ?_
    refine (am_gf (c := 11) (t := 2) rfl rfl rfl).trans ((am_g_t h102).trans ?_)
    refine (am_e0 rfl rfl).trans ?_
    refine (am_e0 rfl rfl).trans ?_
    refine (am_gf (c := 11) (t := 2) rfl rfl rfl).trans ((am_g_t h102).trans ?_)
    refine (am_e0 rfl rfl).trans ?_
    refine (am_e0 rfl rfl).trans ?_
    refine (am_e0 rfl rfl).trans ?_
    refine (am_ial rfl).trans (am_g_congr fun h106 => ?_)
    refine (am_ias rfl).trans (am_g_congr fun h107 => ?_)
    refine am_letm (fun M108 => ?_)
    refine (am_e0 rfl rfl).trans ?_
    refine (am_gf (c := 11) (t := 2) rfl rfl rfl).trans ((am_g_t h102).trans ?_)
    refine (am_e0 rfl rfl).trans ?_
    refine (am_e0 rfl rfl).trans ?_
    refine (am_gf (c := 11) (t := 2) rfl rfl rfl).trans ((am_g_t h102).trans ?_)
    refine (am_e0 rfl rfl).trans ?_
    refine (am_e0 rfl rfl).trans ?_
    refine (am_e0 rfl rfl).trans ?_
    refine (am_ial rfl).trans (am_g_congr fun h109 => ?_)
    refine (am_ias rfl).trans (am_g_congr fun h110 => ?_)
    refine am_letm (fun M111 => ?_)
    refine (am_e0 rfl rfl).trans ?_
    refine am_lets (L := fun v112 => [(2, x0), (0, v112)]) (fun v112 => ?_)
    refine (am_e1 rfl rfl).trans ?_
    exact (am_e5 rfl).trans rfl
  · exact (am_e4v rfl rfl).trans rfl
-- 89: UnlearnedHandModel.keepsNow()V
set_option maxRecDepth 10000 in
theorem aq_89 (d : Nat) (x0 : Int) (M : am_M) : am_Call d 89 [(2, x0)] M = (am_g (am_ob x0 11) <| am_g (am_ar (am_rd M x0 0) 20 222) <| am_let (am_wr M (am_rd M x0 0) 222 (am_rd M x0 47)) fun M103 => am_Ex d 89 9 [(2, x0), (0, 0)] [] M103) := by
  show am_Ex d 89 0 [(2, x0), am_N] [] M = _
  refine (am_e0 rfl rfl).trans ?_
  refine (am_gf (c := 11) (t := 2) rfl rfl rfl).trans (am_g_congr fun h101 => ?_)
  refine (am_e0 rfl rfl).trans ?_
  refine (am_e0 rfl rfl).trans ?_
  refine (am_gf (c := 11) (t := 0) rfl rfl rfl).trans ((am_g_t h101).trans ?_)
  refine (am_ias rfl).trans (am_g_congr fun h102 => ?_)
  refine am_letm (fun M103 => ?_)
  refine (am_e0 rfl rfl).trans ?_
  refine (am_e0 rfl rfl).trans ?_
  exact (am_e5 rfl).trans rfl
set_option maxRecDepth 10000 in
theorem aq_89_9 (d : Nat) (x0 x1 : Int) (M : am_M) : am_Ex d 89 9 [(2, x0), (0, x1)] [] M = (if x1 < 48 then (am_g (am_ob x0 11) <| am_g (am_ar (am_rd M x0 41) 20 x1) <| am_g (am_ar (am_rd M x0 0) 20 (am_w32 (60 + x1))) <| am_let (am_wr M (am_rd M x0 0) (am_w32 (60 + x1)) (am_rd M (am_rd M x0 41) x1)) fun M105 => am_g (am_ar (am_rd M105 x0 42) 20 x1) <| am_g (am_ar (am_rd M105 x0 0) 20 (am_w32 (108 + x1))) <| am_let (am_wr M105 (am_rd M105 x0 0) (am_w32 (108 + x1)) (am_rd M105 (am_rd M105 x0 42) x1)) fun M108 => am_g (am_ar (am_rd M108 x0 43) 20 x1) <| am_g (am_ar (am_rd M108 x0 0) 20 (am_w32 (156 + x1))) <| am_let (am_wr M108 (am_rd M108 x0 0) (am_w32 (156 + x1)) (am_rd M108 (am_rd M108 x0 43) x1)) fun M111 => am_let (am_w32 (x1 + 1)) fun v112 => am_Ex d 89 9 [(2, x0), (0, v112)] [] M111) else (am_Ex d 89 47 [(2, x0), (0, 0)] [] M)) := by
  refine (am_e0 rfl rfl).trans ?_
  refine (am_e0 rfl rfl).trans ?_
  refine (am_i_ge rfl).trans (am_if_congr (fun c101 => ?_) (fun c101 => ?_))
  · refine (am_e0 rfl rfl).trans ?_
    refine (am_gf (c := 11) (t := 2) rfl rfl rfl).trans (am_g_congr fun h102 => ?_)
    refine (am_e0 rfl rfl).trans ?_
    refine (am_e0 rfl rfl).trans ?_
    refine (am_e0 rfl rfl).trans ?_
    refine (am_e0 rfl rfl).trans ?_
    refine (am_gf (c := 11) (t := 2) rfl rfl rfl).trans ((am_g_t h102).trans ?_)
    refine (am_e0 rfl rfl).trans ?_
    refine (am_ial rfl).trans (am_g_congr fun h103 => ?_)
    refine (am_ias rfl).trans (am_g_congr fun h104 => ?_)
    refine am_letm (fun M105 => ?_)
    refine (am_e0 rfl rfl).trans ?_
    refine (am_gf (c := 11) (t := 2) rfl rfl rfl).trans ((am_g_t h102).trans ?_)
    refine (am_e0 rfl rfl).trans ?_
    refine (am_e0 rfl rfl).trans ?_
    refine (am_e0 rfl rfl).trans ?_
    refine (am_e0 rfl rfl).trans ?_
    refine (am_gf (c := 11) (t := 2) rfl rfl rfl).trans ((am_g_t h102).trans ?_)
    refine (am_e0 rfl rfl).trans ?_
    refine (am_ial rfl).trans (am_g_congr fun h106 => ?_)
    refine (am_ias rfl).trans (am_g_congr fun h107 => ?_)
    refine am_letm (fun M108 => ?_)
    refine (am_e0 rfl rfl).trans ?_
    refine (am_gf (c := 11) (t := 2) rfl rfl rfl).trans ((am_g_t h102).trans ?_)
    refine (am_e0 rfl rfl).trans ?_
    refine (am_e0 rfl rfl).trans ?_
    refine (am_e0 rfl rfl).trans ?_
    refine (am_e0 rfl rfl).trans ?_
    refine (am_gf (c := 11) (t := 2) rfl rfl rfl).trans ((am_g_t h102).trans ?_)
    refine (am_e0 rfl rfl).trans ?_
    refine (am_ial rfl).trans (am_g_congr fun h109 => ?_)
    refine (am_ias rfl).trans (am_g_congr fun h110 => ?_)
    refine am_letm (fun M111 => ?_)
    refine (am_e0 rfl rfl).trans ?_
    refine am_lets (L := fun v112 => [(2, x0), (0, v112)]) (fun v112 => ?_)
    refine (am_e1 rfl rfl).trans ?_
    exact (am_e5 rfl).trans rfl
  · refine (am_e0 rfl rfl).trans ?_
    refine (am_e0 rfl rfl).trans ?_
    exact (am_e5 rfl).trans rfl
set_option maxRecDepth 10000 in
theorem aq_89_47 (d : Nat) (x0 x1 : Int) (M : am_M) : am_Ex d 89 47 [(2, x0), (0, x1)] [] M = (if x1 < 6 then (am_g (am_ob x0 11) <| am_g (am_ar (am_rd M x0 44) 20 x1) <| am_g (am_ar (am_rd M x0 0) 20 (am_w32 (204 + x1))) <| am_let (am_wr M (am_rd M x0 0) (am_w32 (204 + x1)) (am_rd M (am_rd M x0 44) x1)) fun M105 => am_g (am_ar (am_rd M105 x0 45) 20 x1) <| am_g (am_ar (am_rd M105 x0 0) 20 (am_w32 (210 + x1))) <| am_let (am_wr M105 (am_rd M105 x0 0) (am_w32 (210 + x1)) (am_rd M105 (am_rd M105 x0 45) x1)) fun M108 => am_g (am_ar (am_rd M108 x0 46) 20 x1) <| am_g (am_ar (am_rd M108 x0 0) 20 (am_w32 (216 + x1))) <| am_let (am_wr M108 (am_rd M108 x0 0) (am_w32 (216 + x1)) (am_rd M108 (am_rd M108 x0 46) x1)) fun M111 => am_let (am_w32 (x1 + 1)) fun v112 => am_Ex d 89 47 [(2, x0), (0, v112)] [] M111) else (some (0, M))) := by
  refine (am_e0 rfl rfl).trans ?_
  refine (am_e0 rfl rfl).trans ?_
  refine (am_i_ge rfl).trans (am_if_congr (fun c101 => ?_) (fun c101 => ?_))
  · refine (am_e0 rfl rfl).trans ?_
    refine (am_gf (c := 11) (t := 2) rfl rfl rfl).trans (am_g_congr fun h102 => ?_)
    refine (am_e0 rfl rfl).trans ?_
    refine (am_e0 rfl rfl).trans ?_
    refine (am_e0 rfl rfl).trans ?_
    refine (am_e0 rfl rfl).trans ?_
    refine (am_gf (c := 11) (t := 2) rfl rfl rfl).trans ((am_g_t h102).trans ?_)
    refine (am_e0 rfl rfl).trans ?_
    refine (am_ial rfl).trans (am_g_congr fun h103 => ?_)
    refine (am_ias rfl).trans (am_g_congr fun h104 => ?_)
    refine am_letm (fun M105 => ?_)
    refine (am_e0 rfl rfl).trans ?_
    refine (am_gf (c := 11) (t := 2) rfl rfl rfl).trans ((am_g_t h102).trans ?_)
    refine (am_e0 rfl rfl).trans ?_
    refine (am_e0 rfl rfl).trans ?_
    refine (am_e0 rfl rfl).trans ?_
    refine (am_e0 rfl rfl).trans ?_
    refine (am_gf (c := 11) (t := 2) rfl rfl rfl).trans ((am_g_t h102).trans ?_)
    refine (am_e0 rfl rfl).trans ?_
    refine (am_ial rfl).trans (am_g_congr fun h106 => ?_)
    refine (am_ias rfl).trans (am_g_congr fun h107 => ?_)
    refine am_letm (fun M108 => ?_)
    refine (am_e0 rfl rfl).trans ?_
    refine (am_gf (c := 11) (t := 2) rfl rfl rfl).trans ((am_g_t h102).trans ?_)
    refine (am_e0 rfl rfl).trans ?_
    refine (am_e0 rfl rfl).trans ?_
    refine (am_e0 rfl rfl).trans ?_
    refine (am_e0 rfl rfl).trans ?_
    refine (am_gf (c := 11) (t := 2) rfl rfl rfl).trans ((am_g_t h102).trans ?_)
    refine (am_e0 rfl rfl).trans ?_
    refine (am_ial rfl).trans (am_g_congr fun h109 => ?_)
    refine (am_ias rfl).trans (am_g_congr fun h110 => ?_)
    refine am_letm (fun M111 => ?_)
    refine (am_e0 rfl rfl).trans ?_
    refine am_lets (L := fun v112 => [(2, x0), (0, v112)]) (fun v112 => ?_)
    refine (am_e1 rfl rfl).trans ?_
    exact (am_e5 rfl).trans rfl
  · exact (am_e4v rfl rfl).trans rfl
-- 90: UnlearnedHandModel.names(II)V
set_option maxRecDepth 10000 in
theorem aq_90 (d : Nat) (x0 x1 x2 : Int) (M : am_M) : am_Call d 90 [(2, x0), (0, x1), (0, x2)] M = (am_g (am_ob x0 11) <| am_g (am_ar (am_rd M x0 39) 20 0) <| am_let (am_wr M (am_rd M x0 39) 0 x2) fun M103 => am_g (am_ar (am_rd M103 x0 0) 20 (am_w32 (26 + x1))) <| am_g (am_ar (am_rd M103 x0 39) 20 1) <| am_let (am_wr M103 (am_rd M103 x0 39) 1 (am_rd M103 (am_rd M103 x0 0) (am_w32 (26 + x1)))) fun M106 => am_g (am_ar (am_rd M106 x0 41) 20 (am_w32 ((am_w32 (8 * x1)) + x2))) <| am_g (am_ar (am_rd M106 x0 39) 20 2) <| am_let (am_wr M106 (am_rd M106 x0 39) 2 (am_rd M106 (am_rd M106 x0 41) (am_w32 ((am_w32 (8 * x1)) + x2)))) fun M109 => am_g (am_ar (am_rd M109 x0 42) 20 (am_w32 ((am_w32 (8 * x1)) + x2))) <| am_g (am_ar (am_rd M109 x0 39) 20 3) <| am_let (am_wr M109 (am_rd M109 x0 39) 3 (am_rd M109 (am_rd M109 x0 42) (am_w32 ((am_w32 (8 * x1)) + x2)))) fun M112 => am_g (am_ar (am_rd M112 x0 0) 20 (am_w32 (10 + x2))) <| am_g (am_ar (am_rd M112 x0 39) 20 4) <| am_let (am_wr M112 (am_rd M112 x0 39) 4 (am_rd M112 (am_rd M112 x0 0) (am_w32 (10 + x2)))) fun M115 => am_g (am_ar (am_rd M115 x0 39) 20 5) <| am_let (am_wr M115 (am_rd M115 x0 39) 5 (am_rd M115 x0 47)) fun M117 => some (0, M117)) := by
  show am_Ex d 90 0 [(2, x0), (0, x1), (0, x2)] [] M = _
  refine (am_e0 rfl rfl).trans ?_
  refine (am_gf (c := 11) (t := 2) rfl rfl rfl).trans (am_g_congr fun h101 => ?_)
  refine (am_e0 rfl rfl).trans ?_
  refine (am_e0 rfl rfl).trans ?_
  refine (am_ias rfl).trans (am_g_congr fun h102 => ?_)
  refine am_letm (fun M103 => ?_)
  refine (am_e0 rfl rfl).trans ?_
  refine (am_gf (c := 11) (t := 2) rfl rfl rfl).trans ((am_g_t h101).trans ?_)
  refine (am_e0 rfl rfl).trans ?_
  refine (am_e0 rfl rfl).trans ?_
  refine (am_gf (c := 11) (t := 2) rfl rfl rfl).trans ((am_g_t h101).trans ?_)
  refine (am_e0 rfl rfl).trans ?_
  refine (am_e0 rfl rfl).trans ?_
  refine (am_e0 rfl rfl).trans ?_
  refine (am_ial rfl).trans (am_g_congr fun h104 => ?_)
  refine (am_ias rfl).trans (am_g_congr fun h105 => ?_)
  refine am_letm (fun M106 => ?_)
  refine (am_e0 rfl rfl).trans ?_
  refine (am_gf (c := 11) (t := 2) rfl rfl rfl).trans ((am_g_t h101).trans ?_)
  refine (am_e0 rfl rfl).trans ?_
  refine (am_e0 rfl rfl).trans ?_
  refine (am_gf (c := 11) (t := 2) rfl rfl rfl).trans ((am_g_t h101).trans ?_)
  refine (am_e0 rfl rfl).trans ?_
  refine (am_e0 rfl rfl).trans ?_
  refine (am_e0 rfl rfl).trans ?_
  refine (am_e0 rfl rfl).trans ?_
  refine (am_e0 rfl rfl).trans ?_
  refine (am_ial rfl).trans (am_g_congr fun h107 => ?_)
  refine (am_ias rfl).trans (am_g_congr fun h108 => ?_)
  refine am_letm (fun M109 => ?_)
  refine (am_e0 rfl rfl).trans ?_
  refine (am_gf (c := 11) (t := 2) rfl rfl rfl).trans ((am_g_t h101).trans ?_)
  refine (am_e0 rfl rfl).trans ?_
  refine (am_e0 rfl rfl).trans ?_
  refine (am_gf (c := 11) (t := 2) rfl rfl rfl).trans ((am_g_t h101).trans ?_)
  refine (am_e0 rfl rfl).trans ?_
  refine (am_e0 rfl rfl).trans ?_
  refine (am_e0 rfl rfl).trans ?_
  refine (am_e0 rfl rfl).trans ?_
  refine (am_e0 rfl rfl).trans ?_
  refine (am_ial rfl).trans (am_g_congr fun h110 => ?_)
  refine (am_ias rfl).trans (am_g_congr fun h111 => ?_)
  refine am_letm (fun M112 => ?_)
  refine (am_e0 rfl rfl).trans ?_
  refine (am_gf (c := 11) (t := 2) rfl rfl rfl).trans ((am_g_t h101).trans ?_)
  refine (am_e0 rfl rfl).trans ?_
  refine (am_e0 rfl rfl).trans ?_
  refine (am_gf (c := 11) (t := 2) rfl rfl rfl).trans ((am_g_t h101).trans ?_)
  refine (am_e0 rfl rfl).trans ?_
  refine (am_e0 rfl rfl).trans ?_
  refine (am_e0 rfl rfl).trans ?_
  refine (am_ial rfl).trans (am_g_congr fun h113 => ?_)
  refine (am_ias rfl).trans (am_g_congr fun h114 => ?_)
  refine am_letm (fun M115 => ?_)
  refine (am_e0 rfl rfl).trans ?_
  refine (am_gf (c := 11) (t := 2) rfl rfl rfl).trans ((am_g_t h101).trans ?_)
  refine (am_e0 rfl rfl).trans ?_
  refine (am_e0 rfl rfl).trans ?_
  refine (am_gf (c := 11) (t := 0) rfl rfl rfl).trans ((am_g_t h101).trans ?_)
  refine (am_ias rfl).trans (am_g_congr fun h116 => ?_)
  refine am_letm (fun M117 => ?_)
  exact (am_e4v rfl rfl).trans rfl
-- 91: UnlearnedHandModel.freeMen()I
set_option maxRecDepth 10000 in
theorem aq_91 (d : Nat) (x0 : Int) (M : am_M) : am_Call d 91 [(2, x0)] M = (am_Ex d 91 5 [(2, x0), (0, 0), (0, 0)] [] M) := by
  show am_Ex d 91 0 [(2, x0), am_N, am_N] [] M = _
  refine (am_e0 rfl rfl).trans ?_
  refine (am_e0 rfl rfl).trans ?_
  refine (am_e0 rfl rfl).trans ?_
  refine (am_e0 rfl rfl).trans ?_
  exact (am_e5 rfl).trans rfl
set_option maxRecDepth 10000 in
theorem aq_91_5 (d : Nat) (x0 x1 x2 : Int) (M : am_M) : am_Ex d 91 5 [(2, x0), (0, x1), (0, x2)] [] M = (am_g (am_ob x0 11) <| am_g (am_ar (am_rd M x0 0) 20 1) <| if x2 < am_rd M (am_rd M x0 0) 1 then (am_g (am_ar (am_rd M x0 0) 20 (am_w32 (216 + x2))) <| am_let (am_w32 (x1 + (am_rd M (am_rd M x0 0) (am_w32 (216 + x2))))) fun v105 => am_let (am_w32 (x2 + 1)) fun v106 => am_Ex d 91 5 [(2, x0), (0, v105), (0, v106)] [] M) else (some (x1, M))) := by
  refine (am_e0 rfl rfl).trans ?_
  refine (am_e0 rfl rfl).trans ?_
  refine (am_gf (c := 11) (t := 2) rfl rfl rfl).trans (am_g_congr fun h101 => ?_)
  refine (am_e0 rfl rfl).trans ?_
  refine (am_ial rfl).trans (am_g_congr fun h102 => ?_)
  refine (am_i_ge rfl).trans (am_if_congr (fun c103 => ?_) (fun c103 => ?_))
  · refine (am_e0 rfl rfl).trans ?_
    refine (am_e0 rfl rfl).trans ?_
    refine (am_gf (c := 11) (t := 2) rfl rfl rfl).trans ((am_g_t h101).trans ?_)
    refine (am_e0 rfl rfl).trans ?_
    refine (am_e0 rfl rfl).trans ?_
    refine (am_e0 rfl rfl).trans ?_
    refine (am_ial rfl).trans (am_g_congr fun h104 => ?_)
    refine (am_e0 rfl rfl).trans ?_
    refine (am_e0 rfl rfl).trans ?_
    refine am_lets (L := fun v105 => [(2, x0), (0, v105), (0, x2)]) (fun v105 => ?_)
    refine (am_e0 rfl rfl).trans ?_
    refine am_lets (L := fun v106 => [(2, x0), (0, v105), (0, v106)]) (fun v106 => ?_)
    refine (am_e1 rfl rfl).trans ?_
    exact (am_e5 rfl).trans rfl
  · refine (am_e0 rfl rfl).trans ?_
    exact (am_e4i rfl rfl).trans rfl
-- 92: UnlearnedHandModel.draw(I)I
set_option maxRecDepth 10000 in
theorem aq_92 (d : Nat) (x0 x1 : Int) (M : am_M) : am_Call d 92 [(2, x0), (0, x1)] M = (am_g (am_ob x0 11) <| am_g (am_ar (am_rd M x0 0) 20 223) <| if (x1 : Int) = 0 then none else am_let (am_rem (am_rd M (am_rd M x0 0) 223) x1) fun v104 => if (30293 : Int) = 0 then none else am_let (am_wr M (am_rd M x0 0) 223 (am_rem (am_w32 ((am_w32 ((am_rd M (am_rd M x0 0) 223) * 281)) + 179)) 30293)) fun M106 => some (v104, M106)) := by
  show am_Ex d 92 0 [(2, x0), (0, x1), am_N] [] M = _
  refine (am_e0 rfl rfl).trans ?_
  refine (am_gf (c := 11) (t := 2) rfl rfl rfl).trans (am_g_congr fun h101 => ?_)
  refine (am_e0 rfl rfl).trans ?_
  refine (am_ial rfl).trans (am_g_congr fun h102 => ?_)
  refine (am_e0 rfl rfl).trans ?_
  refine (am_rmi rfl).trans (am_if_congr (fun _ => rfl) (fun c103 => ?_))
  refine (am_e0 rfl rfl).trans ?_
  refine am_lets (L := fun v104 => [(2, x0), (0, x1), (0, v104)]) (fun v104 => ?_)
  refine (am_e0 rfl rfl).trans ?_
  refine (am_gf (c := 11) (t := 2) rfl rfl rfl).trans ((am_g_t h101).trans ?_)
  refine (am_e0 rfl rfl).trans ?_
  refine (am_e0 rfl rfl).trans ?_
  refine (am_gf (c := 11) (t := 2) rfl rfl rfl).trans ((am_g_t h101).trans ?_)
  refine (am_e0 rfl rfl).trans ?_
  refine (am_ial rfl).trans ((am_g_t h102).trans ?_)
  refine (am_e0 rfl rfl).trans ?_
  refine (am_e0 rfl rfl).trans ?_
  refine (am_e0 rfl rfl).trans ?_
  refine (am_e0 rfl rfl).trans ?_
  refine (am_e0 rfl rfl).trans ?_
  refine (am_rmi rfl).trans (am_if_congr (fun _ => rfl) (fun c105 => ?_))
  refine (am_ias rfl).trans ((am_g_t h102).trans ?_)
  refine am_letm (fun M106 => ?_)
  refine (am_e0 rfl rfl).trans ?_
  exact (am_e4i rfl rfl).trans rfl
-- 93: UnlearnedHandModel.laysLessons(II)I
set_option maxRecDepth 10000 in
theorem aq_93 (d : Nat) (x0 x1 x2 : Int) (M : am_M) : am_Call d 93 [(2, x0), (0, x1), (0, x2)] M = (am_let (am_w32 (x2 - 1)) fun v101 => am_Ex d 93 9 [(2, x0), am_N, am_N, (0, x1), (0, 0), (0, v101)] [] M) := by
  show am_Ex d 93 0 [(2, x0), (0, x1), (0, x2), am_N, am_N, am_N] [] M = _
  refine (am_e0 rfl rfl).trans ?_
  refine (am_e0 rfl rfl).trans ?_
  refine (am_e0 rfl rfl).trans ?_
  refine (am_e0 rfl rfl).trans ?_
  refine (am_e0 rfl rfl).trans ?_
  refine (am_e0 rfl rfl).trans ?_
  refine (am_e0 rfl rfl).trans ?_
  refine (am_e0 rfl rfl).trans ?_
  refine am_lets (L := fun v101 => [(2, x0), (0, x1), (0, x2), (0, x1), (0, 0), (0, v101)]) (fun v101 => ?_)
  exact (am_e5 rfl).trans rfl
set_option maxRecDepth 10000 in
theorem aq_93_9 (d : Nat) (x0 x3 x4 x5 : Int) (M : am_M) : am_Ex d 93 9 [(2, x0), am_N, am_N, (0, x3), (0, x4), (0, x5)] [] M = (if x5 < 0 then (some (x4, M)) else (am_g (am_ob x0 11) <| am_g (am_ar (am_rd M x0 0) 20 0) <| if (am_w32 ((am_rd M (am_rd M x0 0) 0) + 1) : Int) = 0 then none else am_g (am_ar (am_rd M x0 48) 20 x5) <| am_let (am_wr M (am_rd M x0 48) x5 (am_rem x3 (am_w32 ((am_rd M (am_rd M x0 0) 0) + 1)))) fun M106 => am_g (am_ar (am_rd M106 x0 0) 20 0) <| if (am_w32 ((am_rd M106 (am_rd M106 x0 0) 0) + 1) : Int) = 0 then none else am_let (am_div x3 (am_w32 ((am_rd M106 (am_rd M106 x0 0) 0) + 1))) fun v109 => am_g (am_ar (am_rd M106 x0 48) 20 x5) <| if am_rd M106 (am_rd M106 x0 48) x5 ≤ 0 then (am_let (am_w32 (x4 + 0)) fun v112 => am_let (am_w32 (x5 + (-1))) fun v113 => am_Ex d 93 9 [(2, x0), am_N, am_N, (0, v109), (0, v112), (0, v113)] [] M106) else (am_let (am_w32 (x4 + 1)) fun v114 => am_let (am_w32 (x5 + (-1))) fun v115 => am_Ex d 93 9 [(2, x0), am_N, am_N, (0, v109), (0, v114), (0, v115)] [] M106))) := by
  refine (am_e0 rfl rfl).trans ?_
  refine (am_z_lt rfl).trans (am_if_congr (fun c101 => ?_) (fun c101 => ?_))
  · refine (am_e0 rfl rfl).trans ?_
    exact (am_e4i rfl rfl).trans rfl
  · refine (am_e0 rfl rfl).trans ?_
    refine (am_gf (c := 11) (t := 2) rfl rfl rfl).trans (am_g_congr fun h102 => ?_)
    refine (am_e0 rfl rfl).trans ?_
    refine (am_e0 rfl rfl).trans ?_
    refine (am_e0 rfl rfl).trans ?_
    refine (am_gf (c := 11) (t := 2) rfl rfl rfl).trans ((am_g_t h102).trans ?_)
    refine (am_e0 rfl rfl).trans ?_
    refine (am_ial rfl).trans (am_g_congr fun h103 => ?_)
    refine (am_e0 rfl rfl).trans ?_
    refine (am_e0 rfl rfl).trans ?_
    refine (am_rmi rfl).trans (am_if_congr (fun _ => rfl) (fun c104 => ?_))
    refine (am_ias rfl).trans (am_g_congr fun h105 => ?_)
    refine am_letm (fun M106 => ?_)
    refine (am_e0 rfl rfl).trans ?_
    refine (am_e0 rfl rfl).trans ?_
    refine (am_gf (c := 11) (t := 2) rfl rfl rfl).trans ((am_g_t h102).trans ?_)
    refine (am_e0 rfl rfl).trans ?_
    refine (am_ial rfl).trans (am_g_congr fun h107 => ?_)
    refine (am_e0 rfl rfl).trans ?_
    refine (am_e0 rfl rfl).trans ?_
    refine (am_dvi rfl).trans (am_if_congr (fun _ => rfl) (fun c108 => ?_))
    refine (am_e0 rfl rfl).trans ?_
    refine am_lets (L := fun v109 => [(2, x0), am_N, am_N, (0, v109), (0, x4), (0, x5)]) (fun v109 => ?_)
    refine (am_e0 rfl rfl).trans ?_
    refine (am_e0 rfl rfl).trans ?_
    refine (am_gf (c := 11) (t := 2) rfl rfl rfl).trans ((am_g_t h102).trans ?_)
    refine (am_e0 rfl rfl).trans ?_
    refine (am_ial rfl).trans (am_g_congr fun h110 => ?_)
    refine (am_z_le rfl).trans (am_if_congr (fun c111 => ?_) (fun c111 => ?_))
    · refine (am_e0 rfl rfl).trans ?_
      refine (am_e0 rfl rfl).trans ?_
      refine (am_e0 rfl rfl).trans ?_
      refine am_lets (L := fun v112 => [(2, x0), am_N, am_N, (0, v109), (0, v112), (0, x5)]) (fun v112 => ?_)
      refine (am_e0 rfl rfl).trans ?_
      refine am_lets (L := fun v113 => [(2, x0), am_N, am_N, (0, v109), (0, v112), (0, v113)]) (fun v113 => ?_)
      refine (am_e1 rfl rfl).trans ?_
      exact (am_e5 rfl).trans rfl
    · refine (am_e0 rfl rfl).trans ?_
      refine (am_e1 rfl rfl).trans ?_
      refine (am_e0 rfl rfl).trans ?_
      refine (am_e0 rfl rfl).trans ?_
      refine am_lets (L := fun v114 => [(2, x0), am_N, am_N, (0, v109), (0, v114), (0, x5)]) (fun v114 => ?_)
      refine (am_e0 rfl rfl).trans ?_
      refine am_lets (L := fun v115 => [(2, x0), am_N, am_N, (0, v109), (0, v114), (0, v115)]) (fun v115 => ?_)
      refine (am_e1 rfl rfl).trans ?_
      exact (am_e5 rfl).trans rfl
-- 94: UnlearnedHandModel.common(JJ)J
set_option maxRecDepth 10000 in
theorem aq_94 (d : Nat) (x0 x1 : Int) (M : am_M) : am_Call d 94 [(1, x0), (1, x1)] M = (am_Ex d 94 5 [am_N, am_N, am_N, am_N, (1, x0), am_N, (1, x1), am_N, am_N, am_N] [] M) := by
  show am_Ex d 94 0 [(1, x0), am_N, (1, x1), am_N, am_N, am_N, am_N, am_N, am_N, am_N] [] M = _
  refine (am_e0 rfl rfl).trans ?_
  refine (am_e0 rfl rfl).trans ?_
  refine (am_e0 rfl rfl).trans ?_
  refine (am_e0 rfl rfl).trans ?_
  exact (am_e5 rfl).trans rfl
set_option maxRecDepth 10000 in
theorem aq_94_5 (d : Nat) (x4 x6 : Int) (M : am_M) : am_Ex d 94 5 [am_N, am_N, am_N, am_N, (1, x4), am_N, (1, x6), am_N, am_N, am_N] [] M = (if am_cmp x6 0 = 0 then (some (x4, M)) else (if (x6 : Int) = 0 then none else am_let (am_lrem x4 x6) fun v103 => am_Ex d 94 5 [am_N, am_N, am_N, am_N, (1, x6), am_N, (1, v103), am_N, am_N, am_N] [] M)) := by
  refine (am_e0 rfl rfl).trans ?_
  refine (am_e0 rfl rfl).trans ?_
  refine (am_e0 rfl rfl).trans ?_
  refine (am_z_eq rfl).trans (am_if_congr (fun c101 => ?_) (fun c101 => ?_))
  · refine (am_e0 rfl rfl).trans ?_
    exact (am_e4l rfl rfl).trans rfl
  · refine (am_e0 rfl rfl).trans ?_
    refine (am_e0 rfl rfl).trans ?_
    refine (am_rml rfl).trans (am_if_congr (fun _ => rfl) (fun c102 => ?_))
    refine (am_e0 rfl rfl).trans ?_
    refine am_lets (L := fun v103 => [am_N, am_N, am_N, am_N, (1, x4), am_N, (1, x6), am_N, (1, v103), am_N]) (fun v103 => ?_)
    refine (am_e0 rfl rfl).trans ?_
    refine (am_e0 rfl rfl).trans ?_
    refine (am_e0 rfl rfl).trans ?_
    refine (am_e0 rfl rfl).trans ?_
    refine (am_e1 rfl rfl).trans ?_
    exact (am_e5 rfl).trans rfl
-- 95: UnlearnedHandModel.waysOf(I)I
set_option maxRecDepth 10000 in
theorem aq_95 (d : Nat) (x0 : Int) (M : am_M) : am_Call d 95 [(0, x0)] M = (am_Ex d 95 5 [(0, x0), (0, 1), (0, 2)] [] M) := by
  show am_Ex d 95 0 [(0, x0), am_N, am_N] [] M = _
  refine (am_e0 rfl rfl).trans ?_
  refine (am_e0 rfl rfl).trans ?_
  refine (am_e0 rfl rfl).trans ?_
  refine (am_e0 rfl rfl).trans ?_
  exact (am_e5 rfl).trans rfl
set_option maxRecDepth 10000 in
theorem aq_95_5 (d : Nat) (x0 x1 x2 : Int) (M : am_M) : am_Ex d 95 5 [(0, x0), (0, x1), (0, x2)] [] M = (if x2 ≤ x0 then (am_let (am_w32 (x1 * x2)) fun v102 => am_let (am_w32 (x2 + 1)) fun v103 => am_Ex d 95 5 [(0, x0), (0, v102), (0, v103)] [] M) else (some (x1, M))) := by
  refine (am_e0 rfl rfl).trans ?_
  refine (am_e0 rfl rfl).trans ?_
  refine (am_i_gt rfl).trans (am_if_congr (fun c101 => ?_) (fun c101 => ?_))
  · refine (am_e0 rfl rfl).trans ?_
    refine (am_e0 rfl rfl).trans ?_
    refine (am_e0 rfl rfl).trans ?_
    refine (am_e0 rfl rfl).trans ?_
    refine am_lets (L := fun v102 => [(0, x0), (0, v102), (0, x2)]) (fun v102 => ?_)
    refine (am_e0 rfl rfl).trans ?_
    refine am_lets (L := fun v103 => [(0, x0), (0, v102), (0, v103)]) (fun v103 => ?_)
    refine (am_e1 rfl rfl).trans ?_
    exact (am_e5 rfl).trans rfl
  · refine (am_e0 rfl rfl).trans ?_
    exact (am_e4i rfl rfl).trans rfl
-- 96: UnlearnedHandModel.keepsOrder(I)V
set_option maxRecDepth 10000 in
theorem aq_96 (d : Nat) (x0 x1 : Int) (M : am_M) : am_Call d 96 [(2, x0), (0, x1)] M = (am_Ex d 96 3 [(2, x0), (0, x1), (0, 0)] [] M) := by
  show am_Ex d 96 0 [(2, x0), (0, x1), am_N] [] M = _
  refine (am_e0 rfl rfl).trans ?_
  refine (am_e0 rfl rfl).trans ?_
  exact (am_e5 rfl).trans rfl
set_option maxRecDepth 10000 in
theorem aq_96_3 (d : Nat) (x0 x1 x2 : Int) (M : am_M) : am_Ex d 96 3 [(2, x0), (0, x1), (0, x2)] [] M = (if x2 < x1 then (am_g (am_ob x0 11) <| am_g (am_ar (am_rd M x0 51) 20 x2) <| am_g (am_ar (am_rd M x0 52) 20 x2) <| am_let (am_wr M (am_rd M x0 52) x2 (am_rd M (am_rd M x0 51) x2)) fun M105 => am_let (am_w32 (x2 + 1)) fun v106 => am_Ex d 96 3 [(2, x0), (0, x1), (0, v106)] [] M105) else (some (0, M))) := by
  refine (am_e0 rfl rfl).trans ?_
  refine (am_e0 rfl rfl).trans ?_
  refine (am_i_ge rfl).trans (am_if_congr (fun c101 => ?_) (fun c101 => ?_))
  · refine (am_e0 rfl rfl).trans ?_
    refine (am_gf (c := 11) (t := 2) rfl rfl rfl).trans (am_g_congr fun h102 => ?_)
    refine (am_e0 rfl rfl).trans ?_
    refine (am_e0 rfl rfl).trans ?_
    refine (am_gf (c := 11) (t := 2) rfl rfl rfl).trans ((am_g_t h102).trans ?_)
    refine (am_e0 rfl rfl).trans ?_
    refine (am_ial rfl).trans (am_g_congr fun h103 => ?_)
    refine (am_ias rfl).trans (am_g_congr fun h104 => ?_)
    refine am_letm (fun M105 => ?_)
    refine (am_e0 rfl rfl).trans ?_
    refine am_lets (L := fun v106 => [(2, x0), (0, x1), (0, v106)]) (fun v106 => ?_)
    refine (am_e1 rfl rfl).trans ?_
    exact (am_e5 rfl).trans rfl
  · exact (am_e4v rfl rfl).trans rfl
-- 97: UnlearnedHandModel.costOf(II)J
set_option maxRecDepth 10000 in
theorem aq_97 (d : Nat) (x0 x1 x2 : Int) (M : am_M) : am_Call d 97 [(2, x0), (0, x1), (0, x2)] M = (am_Ex d 97 9 [(2, x0), (0, x1), (0, x2), (1, 0), am_N, (1, 1), am_N, (1, 1), am_N, (0, 1)] [] M) := by
  show am_Ex d 97 0 [(2, x0), (0, x1), (0, x2), am_N, am_N, am_N, am_N, am_N, am_N, am_N] [] M = _
  refine (am_e0 rfl rfl).trans ?_
  refine (am_e0 rfl rfl).trans ?_
  refine (am_e0 rfl rfl).trans ?_
  refine (am_e0 rfl rfl).trans ?_
  refine (am_e0 rfl rfl).trans ?_
  refine (am_e0 rfl rfl).trans ?_
  refine (am_e0 rfl rfl).trans ?_
  refine (am_e0 rfl rfl).trans ?_
  exact (am_e5 rfl).trans rfl
set_option maxRecDepth 10000 in
theorem aq_97_9 (d : Nat) (x0 x1 x2 x3 x5 x7 x9 : Int) (M : am_M) : am_Ex d 97 9 [(2, x0), (0, x1), (0, x2), (1, x3), am_N, (1, x5), am_N, (1, x7), am_N, (0, x9)] [] M = (if x9 < x2 then (am_let (am_w64 (x7 * 100)) fun v102 => am_let (am_w32 (x9 + 1)) fun v103 => am_Ex d 97 9 [(2, x0), (0, x1), (0, x2), (1, x3), am_N, (1, x5), am_N, (1, v102), am_N, (0, v103)] [] M) else (am_Ex d 97 21 [(2, x0), (0, x1), (0, x2), (1, x3), am_N, (1, x5), am_N, (1, x7), am_N, (0, 0)] [] M)) := by
  refine (am_e0 rfl rfl).trans ?_
  refine (am_e0 rfl rfl).trans ?_
  refine (am_i_ge rfl).trans (am_if_congr (fun c101 => ?_) (fun c101 => ?_))
  · refine (am_e0 rfl rfl).trans ?_
    refine (am_e0 rfl rfl).trans ?_
    refine (am_e0 rfl rfl).trans ?_
    refine (am_e0 rfl rfl).trans ?_
    refine am_lets (L := fun v102 => [(2, x0), (0, x1), (0, x2), (1, x3), am_N, (1, x5), am_N, (1, v102), am_N, (0, x9)]) (fun v102 => ?_)
    refine (am_e0 rfl rfl).trans ?_
    refine am_lets (L := fun v103 => [(2, x0), (0, x1), (0, x2), (1, x3), am_N, (1, x5), am_N, (1, v102), am_N, (0, v103)]) (fun v103 => ?_)
    refine (am_e1 rfl rfl).trans ?_
    exact (am_e5 rfl).trans rfl
  · refine (am_e0 rfl rfl).trans ?_
    refine (am_e0 rfl rfl).trans ?_
    exact (am_e5 rfl).trans rfl
set_option maxRecDepth 10000 in
theorem aq_97_21 (d : Nat) (x0 x1 x2 x3 x5 x7 x9 : Int) (M : am_M) : am_Ex d 97 21 [(2, x0), (0, x1), (0, x2), (1, x3), am_N, (1, x5), am_N, (1, x7), am_N, (0, x9)] [] M = (if x9 < x2 then (am_g (am_ob x0 11) <| am_g (am_ar (am_rd M x0 51) 20 x9) <| am_g (am_ar (am_rd M x0 0) 20 (am_w32 (10 + (am_rd M (am_rd M x0 51) x9)))) <| am_let (am_w64 (x3 + (am_w64 ((am_w64 (x5 * x7)) * (am_rd M (am_rd M x0 0) (am_w32 (10 + (am_rd M (am_rd M x0 51) x9)))))))) fun v105 => am_g (am_ar (am_rd M x0 0) 20 (am_w32 ((am_w32 (60 + (am_w32 (8 * x1)))) + (am_rd M (am_rd M x0 51) x9)))) <| am_let (am_w64 (x5 * (am_w32 (100 - (am_rd M (am_rd M x0 0) (am_w32 ((am_w32 (60 + (am_w32 (8 * x1)))) + (am_rd M (am_rd M x0 51) x9)))))))) fun v107 => if (100 : Int) = 0 then none else am_let (am_ldiv x7 100) fun v109 => am_let (am_w32 (x9 + 1)) fun v110 => am_Ex d 97 21 [(2, x0), (0, x1), (0, x2), (1, v105), am_N, (1, v107), am_N, (1, v109), am_N, (0, v110)] [] M) else (some (x3, M))) := by
  refine (am_e0 rfl rfl).trans ?_
  refine (am_e0 rfl rfl).trans ?_
  refine (am_i_ge rfl).trans (am_if_congr (fun c101 => ?_) (fun c101 => ?_))
  · refine (am_e0 rfl rfl).trans ?_
    refine (am_e0 rfl rfl).trans ?_
    refine (am_e0 rfl rfl).trans ?_
    refine (am_e0 rfl rfl).trans ?_
    refine (am_e0 rfl rfl).trans ?_
    refine (am_gf (c := 11) (t := 2) rfl rfl rfl).trans (am_g_congr fun h102 => ?_)
    refine (am_e0 rfl rfl).trans ?_
    refine (am_e0 rfl rfl).trans ?_
    refine (am_gf (c := 11) (t := 2) rfl rfl rfl).trans ((am_g_t h102).trans ?_)
    refine (am_e0 rfl rfl).trans ?_
    refine (am_ial rfl).trans (am_g_congr fun h103 => ?_)
    refine (am_e0 rfl rfl).trans ?_
    refine (am_ial rfl).trans (am_g_congr fun h104 => ?_)
    refine (am_e0 rfl rfl).trans ?_
    refine (am_e0 rfl rfl).trans ?_
    refine (am_e0 rfl rfl).trans ?_
    refine (am_e0 rfl rfl).trans ?_
    refine am_lets (L := fun v105 => [(2, x0), (0, x1), (0, x2), (1, v105), am_N, (1, x5), am_N, (1, x7), am_N, (0, x9)]) (fun v105 => ?_)
    refine (am_e0 rfl rfl).trans ?_
    refine (am_e0 rfl rfl).trans ?_
    refine (am_e0 rfl rfl).trans ?_
    refine (am_gf (c := 11) (t := 2) rfl rfl rfl).trans ((am_g_t h102).trans ?_)
    refine (am_e0 rfl rfl).trans ?_
    refine (am_e0 rfl rfl).trans ?_
    refine (am_e0 rfl rfl).trans ?_
    refine (am_e0 rfl rfl).trans ?_
    refine (am_e0 rfl rfl).trans ?_
    refine (am_e0 rfl rfl).trans ?_
    refine (am_gf (c := 11) (t := 2) rfl rfl rfl).trans ((am_g_t h102).trans ?_)
    refine (am_e0 rfl rfl).trans ?_
    refine (am_ial rfl).trans ((am_g_t h103).trans ?_)
    refine (am_e0 rfl rfl).trans ?_
    refine (am_ial rfl).trans (am_g_congr fun h106 => ?_)
    refine (am_e0 rfl rfl).trans ?_
    refine (am_e0 rfl rfl).trans ?_
    refine (am_e0 rfl rfl).trans ?_
    refine (am_e0 rfl rfl).trans ?_
    refine am_lets (L := fun v107 => [(2, x0), (0, x1), (0, x2), (1, v105), am_N, (1, v107), am_N, (1, x7), am_N, (0, x9)]) (fun v107 => ?_)
    refine (am_e0 rfl rfl).trans ?_
    refine (am_e0 rfl rfl).trans ?_
    refine (am_dvl rfl).trans (am_if_congr (fun _ => rfl) (fun c108 => ?_))
    refine (am_e0 rfl rfl).trans ?_
    refine am_lets (L := fun v109 => [(2, x0), (0, x1), (0, x2), (1, v105), am_N, (1, v107), am_N, (1, v109), am_N, (0, x9)]) (fun v109 => ?_)
    refine (am_e0 rfl rfl).trans ?_
    refine am_lets (L := fun v110 => [(2, x0), (0, x1), (0, x2), (1, v105), am_N, (1, v107), am_N, (1, v109), am_N, (0, v110)]) (fun v110 => ?_)
    refine (am_e1 rfl rfl).trans ?_
    exact (am_e5 rfl).trans rfl
  · refine (am_e0 rfl rfl).trans ?_
    exact (am_e4l rfl rfl).trans rfl
-- 98: UnlearnedHandModel.about(I)I
set_option maxRecDepth 10000 in
theorem aq_98 (d : Nat) (x0 x1 : Int) (M : am_M) : am_Call d 98 [(2, x0), (0, x1)] M = (if x1 = 0 then (am_g (am_ob x0 11) <| am_g (am_ar (am_rd M x0 0) 20 0) <| some (am_rd M (am_rd M x0 0) 0, M)) else if x1 = 1 then (am_g (am_ob x0 11) <| am_g (am_ar (am_rd M x0 0) 20 1) <| some (am_rd M (am_rd M x0 0) 1, M)) else if x1 = 2 then (am_g (am_ob x0 11) <| am_g (am_ar (am_rd M x0 0) 20 2) <| some (am_rd M (am_rd M x0 0) 2, M)) else if x1 = 3 then (am_g (am_ob x0 11) <| am_g (am_ar (am_rd M x0 0) 20 222) <| some (am_rd M (am_rd M x0 0) 222, M)) else if x1 = 4 then (am_g (am_ob x0 11) <| am_g (am_ar (am_rd M x0 0) 20 223) <| some (am_rd M (am_rd M x0 0) 223, M)) else if x1 = 5 then (am_g (am_ob x0 11) <| am_g (am_ar (am_rd M x0 0) 20 3) <| some (am_rd M (am_rd M x0 0) 3, M)) else if x1 = 6 then (am_g (am_ob x0 11) <| am_g (am_ar (am_rd M x0 0) 20 4) <| some (am_rd M (am_rd M x0 0) 4, M)) else if x1 = 7 then (am_g (am_ob x0 11) <| am_g (am_ar (am_rd M x0 0) 20 5) <| some (am_rd M (am_rd M x0 0) 5, M)) else if x1 = 8 then (am_g (am_ob x0 11) <| am_g (am_ar (am_rd M x0 0) 20 6) <| some (am_rd M (am_rd M x0 0) 6, M)) else if x1 = 9 then (am_g (am_ob x0 11) <| am_g (am_ar (am_rd M x0 0) 20 7) <| some (am_rd M (am_rd M x0 0) 7, M)) else if x1 = 10 then (am_g (am_ob x0 11) <| some (am_rd M x0 3, M)) else (some ((-2), M))) := by
  show am_Ex d 98 0 [(2, x0), (0, x1)] [] M = _
  refine (am_e0 rfl rfl).trans ?_
  refine (am_tsw rfl).trans ?_
  refine (am_sw_c).trans (am_if_congr (fun c101 => ?_) (fun c101 => ?_))
  · refine (am_e0 rfl rfl).trans ?_
    refine (am_gf (c := 11) (t := 2) rfl rfl rfl).trans (am_g_congr fun h102 => ?_)
    refine (am_e0 rfl rfl).trans ?_
    refine (am_ial rfl).trans (am_g_congr fun h103 => ?_)
    exact (am_e4i rfl rfl).trans rfl
  refine (am_sw_c).trans (am_if_congr (fun c104 => ?_) (fun c104 => ?_))
  · refine (am_e0 rfl rfl).trans ?_
    refine (am_gf (c := 11) (t := 2) rfl rfl rfl).trans (am_g_congr fun h105 => ?_)
    refine (am_e0 rfl rfl).trans ?_
    refine (am_ial rfl).trans (am_g_congr fun h106 => ?_)
    exact (am_e4i rfl rfl).trans rfl
  refine (am_sw_c).trans (am_if_congr (fun c107 => ?_) (fun c107 => ?_))
  · refine (am_e0 rfl rfl).trans ?_
    refine (am_gf (c := 11) (t := 2) rfl rfl rfl).trans (am_g_congr fun h108 => ?_)
    refine (am_e0 rfl rfl).trans ?_
    refine (am_ial rfl).trans (am_g_congr fun h109 => ?_)
    exact (am_e4i rfl rfl).trans rfl
  refine (am_sw_c).trans (am_if_congr (fun c110 => ?_) (fun c110 => ?_))
  · refine (am_e0 rfl rfl).trans ?_
    refine (am_gf (c := 11) (t := 2) rfl rfl rfl).trans (am_g_congr fun h111 => ?_)
    refine (am_e0 rfl rfl).trans ?_
    refine (am_ial rfl).trans (am_g_congr fun h112 => ?_)
    exact (am_e4i rfl rfl).trans rfl
  refine (am_sw_c).trans (am_if_congr (fun c113 => ?_) (fun c113 => ?_))
  · refine (am_e0 rfl rfl).trans ?_
    refine (am_gf (c := 11) (t := 2) rfl rfl rfl).trans (am_g_congr fun h114 => ?_)
    refine (am_e0 rfl rfl).trans ?_
    refine (am_ial rfl).trans (am_g_congr fun h115 => ?_)
    exact (am_e4i rfl rfl).trans rfl
  refine (am_sw_c).trans (am_if_congr (fun c116 => ?_) (fun c116 => ?_))
  · refine (am_e0 rfl rfl).trans ?_
    refine (am_gf (c := 11) (t := 2) rfl rfl rfl).trans (am_g_congr fun h117 => ?_)
    refine (am_e0 rfl rfl).trans ?_
    refine (am_ial rfl).trans (am_g_congr fun h118 => ?_)
    exact (am_e4i rfl rfl).trans rfl
  refine (am_sw_c).trans (am_if_congr (fun c119 => ?_) (fun c119 => ?_))
  · refine (am_e0 rfl rfl).trans ?_
    refine (am_gf (c := 11) (t := 2) rfl rfl rfl).trans (am_g_congr fun h120 => ?_)
    refine (am_e0 rfl rfl).trans ?_
    refine (am_ial rfl).trans (am_g_congr fun h121 => ?_)
    exact (am_e4i rfl rfl).trans rfl
  refine (am_sw_c).trans (am_if_congr (fun c122 => ?_) (fun c122 => ?_))
  · refine (am_e0 rfl rfl).trans ?_
    refine (am_gf (c := 11) (t := 2) rfl rfl rfl).trans (am_g_congr fun h123 => ?_)
    refine (am_e0 rfl rfl).trans ?_
    refine (am_ial rfl).trans (am_g_congr fun h124 => ?_)
    exact (am_e4i rfl rfl).trans rfl
  refine (am_sw_c).trans (am_if_congr (fun c125 => ?_) (fun c125 => ?_))
  · refine (am_e0 rfl rfl).trans ?_
    refine (am_gf (c := 11) (t := 2) rfl rfl rfl).trans (am_g_congr fun h126 => ?_)
    refine (am_e0 rfl rfl).trans ?_
    refine (am_ial rfl).trans (am_g_congr fun h127 => ?_)
    exact (am_e4i rfl rfl).trans rfl
  refine (am_sw_c).trans (am_if_congr (fun c128 => ?_) (fun c128 => ?_))
  · refine (am_e0 rfl rfl).trans ?_
    refine (am_gf (c := 11) (t := 2) rfl rfl rfl).trans (am_g_congr fun h129 => ?_)
    refine (am_e0 rfl rfl).trans ?_
    refine (am_ial rfl).trans (am_g_congr fun h130 => ?_)
    exact (am_e4i rfl rfl).trans rfl
  refine (am_sw_c).trans (am_if_congr (fun c131 => ?_) (fun c131 => ?_))
  · refine (am_e0 rfl rfl).trans ?_
    refine (am_gf (c := 11) (t := 0) rfl rfl rfl).trans (am_g_congr fun h132 => ?_)
    exact (am_e4i rfl rfl).trans rfl
  refine (am_sw_n).trans ?_
  refine (am_e0 rfl rfl).trans ?_
  exact (am_e4i rfl rfl).trans rfl
-- 99: java/lang/Integer.bitCount(I)I
set_option maxRecDepth 10000 in
theorem aq_99 (d : Nat) (x0 : Int) (M : am_M) : am_Call d 99 [(0, x0)] M = (am_let (am_w32 (x0 - (am_and (am_ushr x0 1) 1431655765))) fun v101 => am_let (am_w32 ((am_and v101 858993459) + (am_and (am_ushr v101 2) 858993459))) fun v102 => am_let (am_and (am_w32 (v102 + (am_ushr v102 4))) 252645135) fun v103 => am_let (am_w32 (v103 + (am_ushr v103 8))) fun v104 => am_let (am_w32 (v104 + (am_ushr v104 16))) fun v105 => some (am_and v105 63, M)) := by
  show am_Ex d 99 0 [(0, x0)] [] M = _
  refine (am_e0 rfl rfl).trans ?_
  refine (am_e0 rfl rfl).trans ?_
  refine (am_e0 rfl rfl).trans ?_
  refine (am_e0 rfl rfl).trans ?_
  refine (am_e0 rfl rfl).trans ?_
  refine (am_e0 rfl rfl).trans ?_
  refine (am_e0 rfl rfl).trans ?_
  refine (am_e0 rfl rfl).trans ?_
  refine am_lets (L := fun v101 => [(0, v101)]) (fun v101 => ?_)
  refine (am_e0 rfl rfl).trans ?_
  refine (am_e0 rfl rfl).trans ?_
  refine (am_e0 rfl rfl).trans ?_
  refine (am_e0 rfl rfl).trans ?_
  refine (am_e0 rfl rfl).trans ?_
  refine (am_e0 rfl rfl).trans ?_
  refine (am_e0 rfl rfl).trans ?_
  refine (am_e0 rfl rfl).trans ?_
  refine (am_e0 rfl rfl).trans ?_
  refine (am_e0 rfl rfl).trans ?_
  refine am_lets (L := fun v102 => [(0, v102)]) (fun v102 => ?_)
  refine (am_e0 rfl rfl).trans ?_
  refine (am_e0 rfl rfl).trans ?_
  refine (am_e0 rfl rfl).trans ?_
  refine (am_e0 rfl rfl).trans ?_
  refine (am_e0 rfl rfl).trans ?_
  refine (am_e0 rfl rfl).trans ?_
  refine (am_e0 rfl rfl).trans ?_
  refine (am_e0 rfl rfl).trans ?_
  refine am_lets (L := fun v103 => [(0, v103)]) (fun v103 => ?_)
  refine (am_e0 rfl rfl).trans ?_
  refine (am_e0 rfl rfl).trans ?_
  refine (am_e0 rfl rfl).trans ?_
  refine (am_e0 rfl rfl).trans ?_
  refine (am_e0 rfl rfl).trans ?_
  refine (am_e0 rfl rfl).trans ?_
  refine am_lets (L := fun v104 => [(0, v104)]) (fun v104 => ?_)
  refine (am_e0 rfl rfl).trans ?_
  refine (am_e0 rfl rfl).trans ?_
  refine (am_e0 rfl rfl).trans ?_
  refine (am_e0 rfl rfl).trans ?_
  refine (am_e0 rfl rfl).trans ?_
  refine (am_e0 rfl rfl).trans ?_
  refine am_lets (L := fun v105 => [(0, v105)]) (fun v105 => ?_)
  refine (am_e0 rfl rfl).trans ?_
  refine (am_e0 rfl rfl).trans ?_
  refine (am_e0 rfl rfl).trans ?_
  exact (am_e4i rfl rfl).trans rfl
-- 100: java/lang/String.coder()B
set_option maxRecDepth 10000 in
theorem aq_100 (d : Nat) (x0 : Int) (M : am_M) : am_Call d 100 [(2, x0)] M = (if (1 : Int) = 0 then (some (1, M)) else (am_g (decide (x0 = -2) || decide (x0 = -3)) <| some (0, M))) := by
  show am_Ex d 100 0 [(2, x0)] [] M = _
  refine (am_e11 rfl rfl).trans ?_
  refine (am_z_eq rfl).trans (am_if_congr (fun c101 => ?_) (fun c101 => ?_))
  · refine (am_e0 rfl rfl).trans ?_
    exact (am_e4i rfl rfl).trans rfl
  · refine (am_e0 rfl rfl).trans ?_
    refine (am_rgc rfl).trans (am_g_congr fun h102 => ?_)
    refine (am_e1 rfl rfl).trans ?_
    exact (am_e4i rfl rfl).trans rfl
-- 101: java/lang/String.isLatin1()Z
set_option maxRecDepth 10000 in
theorem aq_101 (d : Nat) (x0 : Int) (M : am_M) : am_Call d 101 [(2, x0)] M = (if (1 : Int) = 0 then (some (0, M)) else (am_g (decide (x0 = -2) || decide (x0 = -3)) <| if (0 : Int) = 0 then (some (1, M)) else (some (0, M)))) := by
  show am_Ex d 101 0 [(2, x0)] [] M = _
  refine (am_e11 rfl rfl).trans ?_
  refine (am_z_eq rfl).trans (am_if_congr (fun c101 => ?_) (fun c101 => ?_))
  · refine (am_e5 rfl).trans ?_
    show am_Ex d 101 8 [am_N] [] M = _
    refine (am_e0 rfl rfl).trans ?_
    exact (am_e4i rfl rfl).trans rfl
  · refine (am_e0 rfl rfl).trans ?_
    refine (am_rgc rfl).trans (am_g_congr fun h102 => ?_)
    refine (am_z_ne rfl).trans (am_if_congr (fun c103 => ?_) (fun c103 => ?_))
    · refine (am_e0 rfl rfl).trans ?_
      refine (am_e1 rfl rfl).trans ?_
      exact (am_e4i rfl rfl).trans rfl
    · refine (am_e5 rfl).trans ?_
      show am_Ex d 101 8 [am_N] [] M = _
      refine (am_e0 rfl rfl).trans ?_
      exact (am_e4i rfl rfl).trans rfl
-- 102: java/lang/StringLatin1.canEncode(I)Z
set_option maxRecDepth 10000 in
theorem aq_102 (d : Nat) (x0 : Int) (M : am_M) : am_Call d 102 [(0, x0)] M = (if x0 < 0 then (some (0, M)) else (if x0 ≤ 255 then (some (1, M)) else (some (0, M)))) := by
  show am_Ex d 102 0 [(0, x0)] [] M = _
  refine (am_e0 rfl rfl).trans ?_
  refine (am_z_lt rfl).trans (am_if_congr (fun c101 => ?_) (fun c101 => ?_))
  · refine (am_e5 rfl).trans ?_
    show am_Ex d 102 8 [am_N] [] M = _
    refine (am_e0 rfl rfl).trans ?_
    exact (am_e4i rfl rfl).trans rfl
  · refine (am_e0 rfl rfl).trans ?_
    refine (am_e0 rfl rfl).trans ?_
    refine (am_i_gt rfl).trans (am_if_congr (fun c102 => ?_) (fun c102 => ?_))
    · refine (am_e0 rfl rfl).trans ?_
      refine (am_e1 rfl rfl).trans ?_
      exact (am_e4i rfl rfl).trans rfl
    · refine (am_e5 rfl).trans ?_
      show am_Ex d 102 8 [am_N] [] M = _
      refine (am_e0 rfl rfl).trans ?_
      exact (am_e4i rfl rfl).trans rfl
