/-! equations of the methods 124 .. 152 -/
-- 124: UnlearnedHand$Orders.isTelling(I)Z
set_option maxRecDepth 10000 in
theorem aq_124 (d : Nat) (x0 x1 : Int) (M : am_M) : am_Call d 124 [(2, x0), (0, x1)] M = (am_Ex d 124 5 [(2, x0), (0, x1), (0, 0), (0, 0), am_N] [] M) := by
  show am_Ex d 124 0 [(2, x0), (0, x1), am_N, am_N, am_N] [] M = _
  refine (am_e0 rfl rfl).trans ?_
  refine (am_e0 rfl rfl).trans ?_
  refine (am_e0 rfl rfl).trans ?_
  refine (am_e0 rfl rfl).trans ?_
  exact (am_e5 rfl).trans rfl
set_option maxRecDepth 10000 in
theorem aq_124_5 (d : Nat) (x0 x1 x2 x3 : Int) (M : am_M) : am_Ex d 124 5 [(2, x0), (0, x1), (0, x2), (0, x3), am_N] [] M = (am_g (am_ob x0 5) <| if x3 < am_rd M x0 4 then (if x3 < 6 then (am_g (am_ar (am_rd M x0 2) 20 x3) <| am_g (am_ob (am_rd M x0 0) 2) <| (am_Call d 19 [(2, am_rd M x0 0), (0, am_rd M (am_rd M x0 2) x3)] M).bind fun r106 => am_let (am_and r106.1 x1) fun v107 => if v107 = 0 then (am_Ex d 124 31 [(2, x0), (0, x1), (0, x2), (0, x3), am_N] [] r106.2) else (if am_and v107 x2 = 0 then (some (0, r106.2)) else (am_Ex d 124 31 [(2, x0), (0, x1), (0, x2), (0, x3), am_N] [] r106.2))) else (some (1, M))) else (some (1, M))) := by
  refine (am_e0 rfl rfl).trans ?_
  refine (am_e0 rfl rfl).trans ?_
  refine (am_gf (c := 5) (t := 0) rfl rfl rfl).trans (am_g_congr fun h101 => ?_)
  refine (am_i_ge rfl).trans (am_if_congr (fun c102 => ?_) (fun c102 => ?_))
  · refine (am_e0 rfl rfl).trans ?_
    refine (am_e0 rfl rfl).trans ?_
    refine (am_i_ge rfl).trans (am_if_congr (fun c103 => ?_) (fun c103 => ?_))
    · refine (am_e0 rfl rfl).trans ?_
      refine (am_gf (c := 5) (t := 2) rfl rfl rfl).trans ((am_g_t h101).trans ?_)
      refine (am_e0 rfl rfl).trans ?_
      refine (am_gf (c := 5) (t := 2) rfl rfl rfl).trans ((am_g_t h101).trans ?_)
      refine (am_e0 rfl rfl).trans ?_
      refine (am_ial rfl).trans (am_g_congr fun h104 => ?_)
      refine (am_cal3 (z := 19) (k := 2) (c := (am_ob (am_rd M x0 0) 2)) rfl rfl rfl rfl rfl rfl rfl rfl).trans (am_g_congr fun h105 => ?_)
      refine am_bind_congr fun r106 => ?_
      show am_Ex d 124 19 [(2, x0), (0, x1), (0, x2), (0, x3), am_N] [(0, r106.1)] r106.2 = _
      refine (am_e0 rfl rfl).trans ?_
      refine (am_e0 rfl rfl).trans ?_
      refine (am_e0 rfl rfl).trans ?_
      refine am_lets (L := fun v107 => [(2, x0), (0, x1), (0, x2), (0, x3), (0, v107)]) (fun v107 => ?_)
      refine (am_e0 rfl rfl).trans ?_
      refine (am_z_eq rfl).trans (am_if_congr (fun c108 => ?_) (fun c108 => ?_))
      · exact (am_e5 rfl).trans rfl
      · refine (am_e0 rfl rfl).trans ?_
        refine (am_e0 rfl rfl).trans ?_
        refine (am_e0 rfl rfl).trans ?_
        refine (am_z_ne rfl).trans (am_if_congr (fun c109 => ?_) (fun c109 => ?_))
        · refine (am_e0 rfl rfl).trans ?_
          exact (am_e4i rfl rfl).trans rfl
        · exact (am_e5 rfl).trans rfl
    · refine (am_e5 rfl).trans ?_
      show am_Ex d 124 43 [am_N, am_N, am_N, am_N, am_N] [] M = _
      refine (am_e0 rfl rfl).trans ?_
      exact (am_e4i rfl rfl).trans rfl
  · refine (am_e5 rfl).trans ?_
    show am_Ex d 124 43 [am_N, am_N, am_N, am_N, am_N] [] M = _
    refine (am_e0 rfl rfl).trans ?_
    exact (am_e4i rfl rfl).trans rfl
set_option maxRecDepth 10000 in
theorem aq_124_31 (d : Nat) (x0 x1 x2 x3 : Int) (M : am_M) : am_Ex d 124 31 [(2, x0), (0, x1), (0, x2), (0, x3), am_N] [] M = (am_g (am_ob x0 5) <| am_g (am_ar (am_rd M x0 2) 20 x3) <| am_let (am_or x2 (am_shl 1 (am_rd M (am_rd M x0 2) x3))) fun v103 => am_let (am_w32 (x3 + 1)) fun v104 => am_Ex d 124 5 [(2, x0), (0, x1), (0, v103), (0, v104), am_N] [] M) := by
  refine (am_e0 rfl rfl).trans ?_
  refine (am_e0 rfl rfl).trans ?_
  refine (am_e0 rfl rfl).trans ?_
  refine (am_gf (c := 5) (t := 2) rfl rfl rfl).trans (am_g_congr fun h101 => ?_)
  refine (am_e0 rfl rfl).trans ?_
  refine (am_ial rfl).trans (am_g_congr fun h102 => ?_)
  refine (am_e0 rfl rfl).trans ?_
  refine (am_e0 rfl rfl).trans ?_
  refine (am_e0 rfl rfl).trans ?_
  refine am_lets (L := fun v103 => [(2, x0), (0, x1), (0, v103), (0, x3), am_N]) (fun v103 => ?_)
  refine (am_e0 rfl rfl).trans ?_
  refine am_lets (L := fun v104 => [(2, x0), (0, x1), (0, v103), (0, v104), am_N]) (fun v104 => ?_)
  refine (am_e1 rfl rfl).trans ?_
  exact (am_e5 rfl).trans rfl
-- 125: UnlearnedHand$Orders.nextOrder()Z
set_option maxRecDepth 10000 in
theorem aq_125 (d : Nat) (x0 : Int) (M : am_M) : am_Call d 125 [(2, x0)] M = (am_g (am_ob x0 5) <| am_let (am_w32 ((min (am_rd M x0 4) 6) - 1)) fun v102 => am_let (am_w32 (v102 - 1)) fun v103 => am_Ex d 125 12 [(2, x0), (0, v102), (0, v103), am_N, am_N, am_N] [] M) := by
  show am_Ex d 125 0 [(2, x0), am_N, am_N, am_N, am_N, am_N] [] M = _
  refine (am_e0 rfl rfl).trans ?_
  refine (am_gf (c := 5) (t := 0) rfl rfl rfl).trans (am_g_congr fun h101 => ?_)
  refine (am_e0 rfl rfl).trans ?_
  refine (am_e10 (w := min (am_rd M x0 4) 6) rfl rfl rfl).trans ?_
  refine (am_e0 rfl rfl).trans ?_
  refine (am_e0 rfl rfl).trans ?_
  refine (am_e0 rfl rfl).trans ?_
  refine am_lets (L := fun v102 => [(2, x0), (0, v102), am_N, am_N, am_N, am_N]) (fun v102 => ?_)
  refine (am_e0 rfl rfl).trans ?_
  refine (am_e0 rfl rfl).trans ?_
  refine (am_e0 rfl rfl).trans ?_
  refine (am_e0 rfl rfl).trans ?_
  refine am_lets (L := fun v103 => [(2, x0), (0, v102), (0, v103), am_N, am_N, am_N]) (fun v103 => ?_)
  exact (am_e5 rfl).trans rfl
set_option maxRecDepth 10000 in
theorem aq_125_12 (d : Nat) (x0 x1 x2 : Int) (M : am_M) : am_Ex d 125 12 [(2, x0), (0, x1), (0, x2), am_N, am_N, am_N] [] M = (if x2 < 0 then (am_Ex d 125 28 [(2, x0), (0, x1), (0, x2), am_N, am_N, am_N] [] M) else (am_g (am_ob x0 5) <| am_g (am_ar (am_rd M x0 2) 20 x2) <| am_g (am_ar (am_rd M x0 2) 20 (am_w32 (x2 + 1))) <| if am_rd M (am_rd M x0 2) x2 ≤ am_rd M (am_rd M x0 2) (am_w32 (x2 + 1)) then (am_Ex d 125 28 [(2, x0), (0, x1), (0, x2), am_N, am_N, am_N] [] M) else (am_let (am_w32 (x2 + (-1))) fun v106 => am_Ex d 125 12 [(2, x0), (0, x1), (0, v106), am_N, am_N, am_N] [] M))) := by
  refine (am_e0 rfl rfl).trans ?_
  refine (am_z_lt rfl).trans (am_if_congr (fun c101 => ?_) (fun c101 => ?_))
  · exact (am_e5 rfl).trans rfl
  · refine (am_e0 rfl rfl).trans ?_
    refine (am_gf (c := 5) (t := 2) rfl rfl rfl).trans (am_g_congr fun h102 => ?_)
    refine (am_e0 rfl rfl).trans ?_
    refine (am_ial rfl).trans (am_g_congr fun h103 => ?_)
    refine (am_e0 rfl rfl).trans ?_
    refine (am_gf (c := 5) (t := 2) rfl rfl rfl).trans ((am_g_t h102).trans ?_)
    refine (am_e0 rfl rfl).trans ?_
    refine (am_e0 rfl rfl).trans ?_
    refine (am_e0 rfl rfl).trans ?_
    refine (am_ial rfl).trans (am_g_congr fun h104 => ?_)
    refine (am_i_le rfl).trans (am_if_congr (fun c105 => ?_) (fun c105 => ?_))
    · exact (am_e5 rfl).trans rfl
    · refine (am_e0 rfl rfl).trans ?_
      refine am_lets (L := fun v106 => [(2, x0), (0, x1), (0, v106), am_N, am_N, am_N]) (fun v106 => ?_)
      refine (am_e1 rfl rfl).trans ?_
      exact (am_e5 rfl).trans rfl
set_option maxRecDepth 10000 in
theorem aq_125_28 (d : Nat) (x0 x1 x2 : Int) (M : am_M) : am_Ex d 125 28 [(2, x0), (0, x1), (0, x2), am_N, am_N, am_N] [] M = (if x2 < 0 then (some (0, M)) else (am_Ex d 125 35 [(2, x0), (0, x1), (0, x2), (0, x1), am_N, am_N] [] M)) := by
  refine (am_e0 rfl rfl).trans ?_
  refine (am_z_ge rfl).trans (am_if_congr (fun c101 => ?_) (fun c101 => ?_))
  · refine (am_e0 rfl rfl).trans ?_
    exact (am_e4i rfl rfl).trans rfl
  · refine (am_e0 rfl rfl).trans ?_
    refine (am_e0 rfl rfl).trans ?_
    exact (am_e5 rfl).trans rfl
set_option maxRecDepth 10000 in
theorem aq_125_35 (d : Nat) (x0 x1 x2 x3 : Int) (M : am_M) : am_Ex d 125 35 [(2, x0), (0, x1), (0, x2), (0, x3), am_N, am_N] [] M = (if x3 ≤ am_w32 (x2 + 1) then (am_Ex d 125 52 [(2, x0), (0, x1), (0, x2), (0, x3), am_N, am_N] [] M) else (am_g (am_ob x0 5) <| am_g (am_ar (am_rd M x0 2) 20 x3) <| am_g (am_ar (am_rd M x0 2) 20 x2) <| if am_rd M (am_rd M x0 2) x3 < am_rd M (am_rd M x0 2) x2 then (am_let (am_w32 (x3 + (-1))) fun v106 => am_Ex d 125 35 [(2, x0), (0, x1), (0, x2), (0, v106), am_N, am_N] [] M) else (am_Ex d 125 52 [(2, x0), (0, x1), (0, x2), (0, x3), am_N, am_N] [] M))) := by
  refine (am_e0 rfl rfl).trans ?_
  refine (am_e0 rfl rfl).trans ?_
  refine (am_e0 rfl rfl).trans ?_
  refine (am_e0 rfl rfl).trans ?_
  refine (am_i_le rfl).trans (am_if_congr (fun c101 => ?_) (fun c101 => ?_))
  · exact (am_e5 rfl).trans rfl
  · refine (am_e0 rfl rfl).trans ?_
    refine (am_gf (c := 5) (t := 2) rfl rfl rfl).trans (am_g_congr fun h102 => ?_)
    refine (am_e0 rfl rfl).trans ?_
    refine (am_ial rfl).trans (am_g_congr fun h103 => ?_)
    refine (am_e0 rfl rfl).trans ?_
    refine (am_gf (c := 5) (t := 2) rfl rfl rfl).trans ((am_g_t h102).trans ?_)
    refine (am_e0 rfl rfl).trans ?_
    refine (am_ial rfl).trans (am_g_congr fun h104 => ?_)
    refine (am_i_ge rfl).trans (am_if_congr (fun c105 => ?_) (fun c105 => ?_))
    · refine (am_e0 rfl rfl).trans ?_
      refine am_lets (L := fun v106 => [(2, x0), (0, x1), (0, x2), (0, v106), am_N, am_N]) (fun v106 => ?_)
      refine (am_e1 rfl rfl).trans ?_
      exact (am_e5 rfl).trans rfl
    · exact (am_e5 rfl).trans rfl
set_option maxRecDepth 10000 in
theorem aq_125_52 (d : Nat) (x0 x1 x2 x3 : Int) (M : am_M) : am_Ex d 125 52 [(2, x0), (0, x1), (0, x2), (0, x3), am_N, am_N] [] M = (am_g (am_ob x0 5) <| (am_Call d 37 [(2, x0), (0, x2), (0, x3)] M).bind fun r102 => am_let (am_w32 (x2 + 1)) fun v103 => am_Ex d 125 63 [(2, x0), am_N, am_N, am_N, (0, v103), (0, x1)] [] r102.2) := by
  refine (am_e0 rfl rfl).trans ?_
  refine (am_e0 rfl rfl).trans ?_
  refine (am_e0 rfl rfl).trans ?_
  refine (am_cal3 (z := 37) (k := 3) (c := (am_ob x0 5)) rfl rfl rfl rfl rfl rfl rfl rfl).trans (am_g_congr fun h101 => ?_)
  refine am_bind_congr fun r102 => ?_
  show am_Ex d 125 56 [(2, x0), (0, x1), (0, x2), (0, x3), am_N, am_N] [] r102.2 = _
  refine (am_e0 rfl rfl).trans ?_
  refine (am_e0 rfl rfl).trans ?_
  refine (am_e0 rfl rfl).trans ?_
  refine (am_e0 rfl rfl).trans ?_
  refine am_lets (L := fun v103 => [(2, x0), (0, x1), (0, x2), (0, x3), (0, v103), am_N]) (fun v103 => ?_)
  refine (am_e0 rfl rfl).trans ?_
  refine (am_e0 rfl rfl).trans ?_
  exact (am_e5 rfl).trans rfl
set_option maxRecDepth 10000 in
theorem aq_125_63 (d : Nat) (x0 x4 x5 : Int) (M : am_M) : am_Ex d 125 63 [(2, x0), am_N, am_N, am_N, (0, x4), (0, x5)] [] M = (if x4 < x5 then (am_g (am_ob x0 5) <| (am_Call d 37 [(2, x0), (0, x4), (0, x5)] M).bind fun r103 => am_let (am_w32 (x4 + 1)) fun v104 => am_let (am_w32 (x5 + (-1))) fun v105 => am_Ex d 125 63 [(2, x0), am_N, am_N, am_N, (0, v104), (0, v105)] [] r103.2) else (some (1, M))) := by
  refine (am_e0 rfl rfl).trans ?_
  refine (am_e0 rfl rfl).trans ?_
  refine (am_i_ge rfl).trans (am_if_congr (fun c101 => ?_) (fun c101 => ?_))
  · refine (am_e0 rfl rfl).trans ?_
    refine (am_e0 rfl rfl).trans ?_
    refine (am_e0 rfl rfl).trans ?_
    refine (am_cal3 (z := 37) (k := 3) (c := (am_ob x0 5)) rfl rfl rfl rfl rfl rfl rfl rfl).trans (am_g_congr fun h102 => ?_)
    refine am_bind_congr fun r103 => ?_
    show am_Ex d 125 70 [(2, x0), am_N, am_N, am_N, (0, x4), (0, x5)] [] r103.2 = _
    refine (am_e0 rfl rfl).trans ?_
    refine am_lets (L := fun v104 => [(2, x0), am_N, am_N, am_N, (0, v104), (0, x5)]) (fun v104 => ?_)
    refine (am_e0 rfl rfl).trans ?_
    refine am_lets (L := fun v105 => [(2, x0), am_N, am_N, am_N, (0, v104), (0, v105)]) (fun v105 => ?_)
    refine (am_e1 rfl rfl).trans ?_
    exact (am_e5 rfl).trans rfl
  · refine (am_e0 rfl rfl).trans ?_
    exact (am_e4i rfl rfl).trans rfl
-- 126: UnlearnedHand$Reader.expect(I)V
set_option maxRecDepth 10000 in
theorem aq_126 (d : Nat) (x0 x1 : Int) (M : am_M) : am_Call d 126 [(2, x0), (0, x1)] M = (am_g (am_ob x0 6) <| (am_Call d 43 [(2, x0)] M).bind fun r102 => if r102.1 = x1 then (am_let (am_wr r102.2 x0 4 (am_w32 ((am_rd r102.2 x0 4) + 1))) fun M104 => some (0, M104)) else ((am_Call d 44 [(2, x0), (0, 1)] r102.2).bind fun r105 => some (0, r105.2))) := by
  show am_Ex d 126 0 [(2, x0), (0, x1)] [] M = _
  refine (am_e0 rfl rfl).trans ?_
  refine (am_cal3 (z := 43) (k := 1) (c := (am_ob x0 6)) rfl rfl rfl rfl rfl rfl rfl rfl).trans (am_g_congr fun h101 => ?_)
  refine am_bind_congr fun r102 => ?_
  show am_Ex d 126 2 [(2, x0), (0, x1)] [(0, r102.1)] r102.2 = _
  refine (am_e0 rfl rfl).trans ?_
  refine (am_i_ne rfl).trans (am_if_congr (fun c103 => ?_) (fun c103 => ?_))
  · refine (am_e0 rfl rfl).trans ?_
    refine (am_e0 rfl rfl).trans ?_
    refine (am_gf (c := 6) (t := 0) rfl rfl rfl).trans ((am_g_t h101).trans ?_)
    refine (am_e0 rfl rfl).trans ?_
    refine (am_e0 rfl rfl).trans ?_
    refine (am_pf (c := 6) rfl rfl rfl).trans ((am_g_t h101).trans ?_)
    refine am_letm (fun M104 => ?_)
    refine (am_e1 rfl rfl).trans ?_
    refine (am_e5 rfl).trans ?_
    show am_Ex d 126 15 [am_N, am_N] [] M104 = _
    exact (am_e4v rfl rfl).trans rfl
  · refine (am_e0 rfl rfl).trans ?_
    refine (am_e0 rfl rfl).trans ?_
    refine (am_cal3 (z := 44) (k := 2) (c := (am_ob x0 6)) rfl rfl rfl rfl rfl rfl rfl rfl).trans ((am_g_t h101).trans ?_)
    refine am_bind_congr fun r105 => ?_
    show am_Ex d 126 14 [(2, x0), (0, x1)] [] r105.2 = _
    refine (am_e5 rfl).trans ?_
    show am_Ex d 126 15 [am_N, am_N] [] r105.2 = _
    exact (am_e4v rfl rfl).trans rfl
-- 127: UnlearnedHand$Reader.readNumber(III)V
set_option maxRecDepth 10000 in
theorem aq_127 (d : Nat) (x0 x1 x2 x3 : Int) (M : am_M) : am_Call d 127 [(2, x0), (0, x1), (0, x2), (0, x3)] M = (am_g (am_ob x0 6) <| (am_Call d 43 [(2, x0)] M).bind fun r102 => if r102.1 = 42 then ((am_Call d 45 [(2, x0)] r102.2).bind fun r104 => if r104.1 < x2 then (am_Ex d 127 17 [(2, x0), am_N, am_N, am_N] [] r104.2) else ((am_Call d 45 [(2, x0)] r104.2).bind fun r106 => if r106.1 ≤ x3 then ((am_Call d 45 [(2, x0)] r106.2).bind fun r108 => am_g (am_ob (am_rd r106.2 x0 6) 8) <| (am_Call d 56 [(2, am_rd r106.2 x0 6), (0, x1), (0, r108.1)] r108.2).bind fun r110 => am_let (am_wr r110.2 x0 4 (am_w32 ((am_rd r110.2 x0 4) + 1))) fun M111 => some (0, M111)) else (am_Ex d 127 17 [(2, x0), am_N, am_N, am_N] [] r106.2))) else ((am_Call d 44 [(2, x0), (0, 1)] r102.2).bind fun r112 => some (0, r112.2))) := by
  show am_Ex d 127 0 [(2, x0), (0, x1), (0, x2), (0, x3)] [] M = _
  refine (am_e0 rfl rfl).trans ?_
  refine (am_cal3 (z := 43) (k := 1) (c := (am_ob x0 6)) rfl rfl rfl rfl rfl rfl rfl rfl).trans (am_g_congr fun h101 => ?_)
  refine am_bind_congr fun r102 => ?_
  show am_Ex d 127 2 [(2, x0), (0, x1), (0, x2), (0, x3)] [(0, r102.1)] r102.2 = _
  refine (am_e0 rfl rfl).trans ?_
  refine (am_i_eq rfl).trans (am_if_congr (fun c103 => ?_) (fun c103 => ?_))
  · refine (am_e0 rfl rfl).trans ?_
    refine (am_cal3 (z := 45) (k := 1) (c := (am_ob x0 6)) rfl rfl rfl rfl rfl rfl rfl rfl).trans ((am_g_t h101).trans ?_)
    refine am_bind_congr fun r104 => ?_
    show am_Ex d 127 10 [(2, x0), (0, x1), (0, x2), (0, x3)] [(0, r104.1)] r104.2 = _
    refine (am_e0 rfl rfl).trans ?_
    refine (am_i_lt rfl).trans (am_if_congr (fun c105 => ?_) (fun c105 => ?_))
    · exact (am_e5 rfl).trans rfl
    · refine (am_e0 rfl rfl).trans ?_
      refine (am_cal3 (z := 45) (k := 1) (c := (am_ob x0 6)) rfl rfl rfl rfl rfl rfl rfl rfl).trans ((am_g_t h101).trans ?_)
      refine am_bind_congr fun r106 => ?_
      show am_Ex d 127 14 [(2, x0), (0, x1), (0, x2), (0, x3)] [(0, r106.1)] r106.2 = _
      refine (am_e0 rfl rfl).trans ?_
      refine (am_i_le rfl).trans (am_if_congr (fun c107 => ?_) (fun c107 => ?_))
      · refine (am_e0 rfl rfl).trans ?_
        refine (am_gf (c := 6) (t := 2) rfl rfl rfl).trans ((am_g_t h101).trans ?_)
        refine (am_e0 rfl rfl).trans ?_
        refine (am_e0 rfl rfl).trans ?_
        refine (am_cal3 (z := 45) (k := 1) (c := (am_ob x0 6)) rfl rfl rfl rfl rfl rfl rfl rfl).trans ((am_g_t h101).trans ?_)
        refine am_bind_congr fun r108 => ?_
        show am_Ex d 127 26 [(2, x0), (0, x1), (0, x2), (0, x3)] [(0, r108.1), (0, x1), (2, am_rd r106.2 x0 6)] r108.2 = _
        refine (am_cal3 (z := 56) (k := 3) (c := (am_ob (am_rd r106.2 x0 6) 8)) rfl rfl rfl rfl rfl rfl rfl rfl).trans (am_g_congr fun h109 => ?_)
        refine am_bind_congr fun r110 => ?_
        show am_Ex d 127 27 [(2, x0), (0, x1), (0, x2), (0, x3)] [] r110.2 = _
        refine (am_e0 rfl rfl).trans ?_
        refine (am_e0 rfl rfl).trans ?_
        refine (am_gf (c := 6) (t := 0) rfl rfl rfl).trans ((am_g_t h101).trans ?_)
        refine (am_e0 rfl rfl).trans ?_
        refine (am_e0 rfl rfl).trans ?_
        refine (am_pf (c := 6) rfl rfl rfl).trans ((am_g_t h101).trans ?_)
        refine am_letm (fun M111 => ?_)
        refine (am_e5 rfl).trans ?_
        show am_Ex d 127 34 [am_N, am_N, am_N, am_N] [] M111 = _
        exact (am_e4v rfl rfl).trans rfl
      · exact (am_e5 rfl).trans rfl
  · refine (am_e0 rfl rfl).trans ?_
    refine (am_e0 rfl rfl).trans ?_
    refine (am_cal3 (z := 44) (k := 2) (c := (am_ob x0 6)) rfl rfl rfl rfl rfl rfl rfl rfl).trans ((am_g_t h101).trans ?_)
    refine am_bind_congr fun r112 => ?_
    show am_Ex d 127 7 [(2, x0), (0, x1), (0, x2), (0, x3)] [] r112.2 = _
    refine (am_e1 rfl rfl).trans ?_
    refine (am_e5 rfl).trans ?_
    show am_Ex d 127 34 [am_N, am_N, am_N, am_N] [] r112.2 = _
    exact (am_e4v rfl rfl).trans rfl
set_option maxRecDepth 10000 in
theorem aq_127_17 (d : Nat) (x0 : Int) (M : am_M) : am_Ex d 127 17 [(2, x0), am_N, am_N, am_N] [] M = (am_g (am_ob x0 6) <| (am_Call d 44 [(2, x0), (0, 2)] M).bind fun r102 => some (0, r102.2)) := by
  refine (am_e0 rfl rfl).trans ?_
  refine (am_e0 rfl rfl).trans ?_
  refine (am_cal3 (z := 44) (k := 2) (c := (am_ob x0 6)) rfl rfl rfl rfl rfl rfl rfl rfl).trans (am_g_congr fun h101 => ?_)
  refine am_bind_congr fun r102 => ?_
  show am_Ex d 127 20 [(2, x0), am_N, am_N, am_N] [] r102.2 = _
  refine (am_e1 rfl rfl).trans ?_
  refine (am_e5 rfl).trans ?_
  show am_Ex d 127 34 [am_N, am_N, am_N, am_N] [] r102.2 = _
  exact (am_e4v rfl rfl).trans rfl
-- 128: UnlearnedHand$Reader.readOne(I)V
set_option maxRecDepth 10000 in
theorem aq_128 (d : Nat) (x0 x1 : Int) (M : am_M) : am_Call (d + 1) 128 [(2, x0), (0, x1)] M = (am_g (am_ob x0 6) <| (am_Call (d + 1) 43 [(2, x0)] M).bind fun r102 => if r102.1 = 42 then ((am_Call (d + 1) 45 [(2, x0)] r102.2).bind fun r104 => if r104.1 ≤ 9999 then (am_Ex (d + 1) 128 15 [(2, x0), (0, x1), (0, r102.1)] [] r104.2) else ((am_Call (d + 1) 44 [(2, x0), (0, 2)] r104.2).bind fun r106 => some (0, r106.2))) else (am_Ex (d + 1) 128 15 [(2, x0), (0, x1), (0, r102.1)] [] r102.2)) := by
  show am_Ex (d + 1) 128 0 [(2, x0), (0, x1), am_N] [] M = _
  refine (am_e0 rfl rfl).trans ?_
  refine (am_cal3 (z := 43) (k := 1) (c := (am_ob x0 6)) rfl rfl rfl rfl rfl rfl rfl rfl).trans (am_g_congr fun h101 => ?_)
  refine am_bind_congr fun r102 => ?_
  show am_Ex (d + 1) 128 2 [(2, x0), (0, x1), am_N] [(0, r102.1)] r102.2 = _
  refine (am_e0 rfl rfl).trans ?_
  refine (am_e0 rfl rfl).trans ?_
  refine (am_e0 rfl rfl).trans ?_
  refine (am_i_ne rfl).trans (am_if_congr (fun c103 => ?_) (fun c103 => ?_))
  · refine (am_e0 rfl rfl).trans ?_
    refine (am_cal3 (z := 45) (k := 1) (c := (am_ob x0 6)) rfl rfl rfl rfl rfl rfl rfl rfl).trans ((am_g_t h101).trans ?_)
    refine am_bind_congr fun r104 => ?_
    show am_Ex (d + 1) 128 8 [(2, x0), (0, x1), (0, r102.1)] [(0, r104.1)] r104.2 = _
    refine (am_e0 rfl rfl).trans ?_
    refine (am_i_le rfl).trans (am_if_congr (fun c105 => ?_) (fun c105 => ?_))
    · exact (am_e5 rfl).trans rfl
    · refine (am_e0 rfl rfl).trans ?_
      refine (am_e0 rfl rfl).trans ?_
      refine (am_cal3 (z := 44) (k := 2) (c := (am_ob x0 6)) rfl rfl rfl rfl rfl rfl rfl rfl).trans ((am_g_t h101).trans ?_)
      refine am_bind_congr fun r106 => ?_
      show am_Ex (d + 1) 128 13 [(2, x0), (0, x1), (0, r102.1)] [] r106.2 = _
      refine (am_e1 rfl rfl).trans ?_
      refine (am_e5 rfl).trans ?_
      show am_Ex (d + 1) 128 135 [am_N, am_N, am_N] [] r106.2 = _
      exact (am_e4v rfl rfl).trans rfl
  · exact (am_e5 rfl).trans rfl
set_option maxRecDepth 10000 in
theorem aq_128_15 (d : Nat) (x0 x1 x2 : Int) (M : am_M) : am_Ex (d + 1) 128 15 [(2, x0), (0, x1), (0, x2)] [] M = (if x2 = 42 then (am_g (am_ob x0 6) <| (am_Call (d + 1) 45 [(2, x0)] M).bind fun r103 => am_g (am_ob (am_rd M x0 6) 8) <| (am_Call (d + 1) 54 [(2, am_rd M x0 6), (0, r103.1)] r103.2).bind fun r105 => am_let (am_wr r105.2 x0 4 (am_w32 ((am_rd r105.2 x0 4) + 1))) fun M106 => some (0, M106)) else (if x2 < 12 then (am_Ex (d + 1) 128 45 [(2, x0), (0, x1), (0, x2)] [] M) else (if x2 ≤ 20 then (am_g (am_ob x0 6) <| (am_Call (d + 1) 46 [(2, x0), (0, x2)] M).bind fun r110 => if r110.1 = 0 then ((am_Call (d + 1) 44 [(2, x0), (0, 5)] r110.2).bind fun r112 => some (0, r112.2)) else (am_Ex (d + 1) 128 45 [(2, x0), (0, x1), (0, x2)] [] r110.2)) else (am_Ex (d + 1) 128 45 [(2, x0), (0, x1), (0, x2)] [] M)))) := by
  refine (am_e0 rfl rfl).trans ?_
  refine (am_e0 rfl rfl).trans ?_
  refine (am_i_ne rfl).trans (am_if_congr (fun c101 => ?_) (fun c101 => ?_))
  · refine (am_e0 rfl rfl).trans ?_
    refine (am_gf (c := 6) (t := 2) rfl rfl rfl).trans (am_g_congr fun h102 => ?_)
    refine (am_e0 rfl rfl).trans ?_
    refine (am_cal3 (z := 45) (k := 1) (c := (am_ob x0 6)) rfl rfl rfl rfl rfl rfl rfl rfl).trans ((am_g_t h102).trans ?_)
    refine am_bind_congr fun r103 => ?_
    show am_Ex (d + 1) 128 22 [(2, x0), (0, x1), (0, x2)] [(0, r103.1), (2, am_rd M x0 6)] r103.2 = _
    refine (am_cal3 (z := 54) (k := 2) (c := (am_ob (am_rd M x0 6) 8)) rfl rfl rfl rfl rfl rfl rfl rfl).trans (am_g_congr fun h104 => ?_)
    refine am_bind_congr fun r105 => ?_
    show am_Ex (d + 1) 128 23 [(2, x0), (0, x1), (0, x2)] [] r105.2 = _
    refine (am_e0 rfl rfl).trans ?_
    refine (am_e0 rfl rfl).trans ?_
    refine (am_gf (c := 6) (t := 0) rfl rfl rfl).trans ((am_g_t h102).trans ?_)
    refine (am_e0 rfl rfl).trans ?_
    refine (am_e0 rfl rfl).trans ?_
    refine (am_pf (c := 6) rfl rfl rfl).trans ((am_g_t h102).trans ?_)
    refine am_letm (fun M106 => ?_)
    refine (am_e1 rfl rfl).trans ?_
    refine (am_e5 rfl).trans ?_
    show am_Ex (d + 1) 128 135 [am_N, am_N, am_N] [] M106 = _
    exact (am_e4v rfl rfl).trans rfl
  · refine (am_e0 rfl rfl).trans ?_
    refine (am_e0 rfl rfl).trans ?_
    refine (am_i_lt rfl).trans (am_if_congr (fun c107 => ?_) (fun c107 => ?_))
    · exact (am_e5 rfl).trans rfl
    · refine (am_e0 rfl rfl).trans ?_
      refine (am_e0 rfl rfl).trans ?_
      refine (am_i_gt rfl).trans (am_if_congr (fun c108 => ?_) (fun c108 => ?_))
      · refine (am_e0 rfl rfl).trans ?_
        refine (am_e0 rfl rfl).trans ?_
        refine (am_cal3 (z := 46) (k := 2) (c := (am_ob x0 6)) rfl rfl rfl rfl rfl rfl rfl rfl).trans (am_g_congr fun h109 => ?_)
        refine am_bind_congr fun r110 => ?_
        show am_Ex (d + 1) 128 39 [(2, x0), (0, x1), (0, x2)] [(0, r110.1)] r110.2 = _
        refine (am_z_ne rfl).trans (am_if_congr (fun c111 => ?_) (fun c111 => ?_))
        · refine (am_e0 rfl rfl).trans ?_
          refine (am_e0 rfl rfl).trans ?_
          refine (am_cal3 (z := 44) (k := 2) (c := (am_ob x0 6)) rfl rfl rfl rfl rfl rfl rfl rfl).trans ((am_g_t h109).trans ?_)
          refine am_bind_congr fun r112 => ?_
          show am_Ex (d + 1) 128 43 [(2, x0), (0, x1), (0, x2)] [] r112.2 = _
          refine (am_e1 rfl rfl).trans ?_
          refine (am_e5 rfl).trans ?_
          show am_Ex (d + 1) 128 135 [am_N, am_N, am_N] [] r112.2 = _
          exact (am_e4v rfl rfl).trans rfl
        · exact (am_e5 rfl).trans rfl
      · exact (am_e5 rfl).trans rfl
set_option maxRecDepth 10000 in
theorem aq_128_45 (d : Nat) (x0 x1 x2 : Int) (M : am_M) : am_Ex (d + 1) 128 45 [(2, x0), (0, x1), (0, x2)] [] M = (if x2 < 12 then (am_Ex (d + 1) 128 64 [(2, x0), (0, x1), (0, x2)] [] M) else (if x2 ≤ 20 then (am_g (am_ob x0 6) <| am_g (am_ob (am_rd M x0 6) 8) <| (am_Call (d + 1) 54 [(2, am_rd M x0 6), (0, am_w32 (-x2))] M).bind fun r105 => am_let (am_wr r105.2 x0 4 (am_w32 ((am_rd r105.2 x0 4) + 1))) fun M106 => some (0, M106)) else (am_Ex (d + 1) 128 64 [(2, x0), (0, x1), (0, x2)] [] M))) := by
  refine (am_e0 rfl rfl).trans ?_
  refine (am_e0 rfl rfl).trans ?_
  refine (am_i_lt rfl).trans (am_if_congr (fun c101 => ?_) (fun c101 => ?_))
  · exact (am_e5 rfl).trans rfl
  · refine (am_e0 rfl rfl).trans ?_
    refine (am_e0 rfl rfl).trans ?_
    refine (am_i_gt rfl).trans (am_if_congr (fun c102 => ?_) (fun c102 => ?_))
    · refine (am_e0 rfl rfl).trans ?_
      refine (am_gf (c := 6) (t := 2) rfl rfl rfl).trans (am_g_congr fun h103 => ?_)
      refine (am_e0 rfl rfl).trans ?_
      refine (am_e0 rfl rfl).trans ?_
      refine (am_cal3 (z := 54) (k := 2) (c := (am_ob (am_rd M x0 6) 8)) rfl rfl rfl rfl rfl rfl rfl rfl).trans (am_g_congr fun h104 => ?_)
      refine am_bind_congr fun r105 => ?_
      show am_Ex (d + 1) 128 56 [(2, x0), (0, x1), (0, x2)] [] r105.2 = _
      refine (am_e0 rfl rfl).trans ?_
      refine (am_e0 rfl rfl).trans ?_
      refine (am_gf (c := 6) (t := 0) rfl rfl rfl).trans ((am_g_t h103).trans ?_)
      refine (am_e0 rfl rfl).trans ?_
      refine (am_e0 rfl rfl).trans ?_
      refine (am_pf (c := 6) rfl rfl rfl).trans ((am_g_t h103).trans ?_)
      refine am_letm (fun M106 => ?_)
      refine (am_e1 rfl rfl).trans ?_
      refine (am_e5 rfl).trans ?_
      show am_Ex (d + 1) 128 135 [am_N, am_N, am_N] [] M106 = _
      exact (am_e4v rfl rfl).trans rfl
    · exact (am_e5 rfl).trans rfl
set_option maxRecDepth 10000 in
theorem aq_128_64 (d : Nat) (x0 x1 x2 : Int) (M : am_M) : am_Ex (d + 1) 128 64 [(2, x0), (0, x1), (0, x2)] [] M = (if x2 = 37 then (am_Ex (d + 1) 128 78 [(2, x0), (0, x1), (0, x2)] [] M) else (if x2 = 24 then (am_Ex (d + 1) 128 78 [(2, x0), (0, x1), (0, x2)] [] M) else (if x2 = 34 then (am_Ex (d + 1) 128 78 [(2, x0), (0, x1), (0, x2)] [] M) else (am_g (am_ob x0 6) <| (am_Call (d + 1) 44 [(2, x0), (0, 1)] M).bind fun r105 => some (0, r105.2))))) := by
  refine (am_e0 rfl rfl).trans ?_
  refine (am_e0 rfl rfl).trans ?_
  refine (am_i_eq rfl).trans (am_if_congr (fun c101 => ?_) (fun c101 => ?_))
  · exact (am_e5 rfl).trans rfl
  · refine (am_e0 rfl rfl).trans ?_
    refine (am_e0 rfl rfl).trans ?_
    refine (am_i_eq rfl).trans (am_if_congr (fun c102 => ?_) (fun c102 => ?_))
    · exact (am_e5 rfl).trans rfl
    · refine (am_e0 rfl rfl).trans ?_
      refine (am_e0 rfl rfl).trans ?_
      refine (am_i_eq rfl).trans (am_if_congr (fun c103 => ?_) (fun c103 => ?_))
      · exact (am_e5 rfl).trans rfl
      · refine (am_e0 rfl rfl).trans ?_
        refine (am_e0 rfl rfl).trans ?_
        refine (am_cal3 (z := 44) (k := 2) (c := (am_ob x0 6)) rfl rfl rfl rfl rfl rfl rfl rfl).trans (am_g_congr fun h104 => ?_)
        refine am_bind_congr fun r105 => ?_
        show am_Ex (d + 1) 128 76 [(2, x0), (0, x1), (0, x2)] [] r105.2 = _
        refine (am_e1 rfl rfl).trans ?_
        refine (am_e5 rfl).trans ?_
        show am_Ex (d + 1) 128 135 [am_N, am_N, am_N] [] r105.2 = _
        exact (am_e4v rfl rfl).trans rfl
set_option maxRecDepth 10000 in
theorem aq_128_78 (d : Nat) (x0 x1 x2 : Int) (M : am_M) : am_Ex (d + 1) 128 78 [(2, x0), (0, x1), (0, x2)] [] M = (if x1 < 8 then (if x2 = 37 then (am_g (am_ob x0 6) <| am_let (am_wr M x0 4 (am_w32 ((am_rd M x0 4) + 1))) fun M104 => (am_Call d 178 [(2, x0), (0, am_w32 (x1 + 1))] M104).bind fun r105 => (am_Call (d + 1) 43 [(2, x0)] r105.2).bind fun r106 => if r106.1 = 38 then (am_let (am_wr r106.2 x0 4 (am_w32 ((am_rd r106.2 x0 4) + 1))) fun M108 => some (0, M108)) else ((am_Call (d + 1) 44 [(2, x0), (0, 1)] r106.2).bind fun r109 => some (0, r109.2))) else (am_g (am_ob x0 6) <| am_let (am_wr M x0 4 (am_w32 ((am_rd M x0 4) + 1))) fun M111 => (am_Call d 128 [(2, x0), (0, am_w32 (x1 + 1))] M111).bind fun r112 => if x2 = 24 then (am_g (am_ob (am_rd r112.2 x0 6) 8) <| (am_Call (d + 1) 54 [(2, am_rd r112.2 x0 6), (0, (-24))] r112.2).bind fun r115 => some (0, r115.2)) else (am_g (am_ob (am_rd r112.2 x0 6) 8) <| (am_Call (d + 1) 54 [(2, am_rd r112.2 x0 6), (0, (-45))] r112.2).bind fun r117 => some (0, r117.2)))) else (am_g (am_ob x0 6) <| (am_Call (d + 1) 44 [(2, x0), (0, 3)] M).bind fun r119 => some (0, r119.2))) := by
  refine (am_e0 rfl rfl).trans ?_
  refine (am_e0 rfl rfl).trans ?_
  refine (am_i_lt rfl).trans (am_if_congr (fun c101 => ?_) (fun c101 => ?_))
  · refine (am_e0 rfl rfl).trans ?_
    refine (am_e0 rfl rfl).trans ?_
    refine (am_i_ne rfl).trans (am_if_congr (fun c102 => ?_) (fun c102 => ?_))
    · refine (am_e0 rfl rfl).trans ?_
      refine (am_e0 rfl rfl).trans ?_
      refine (am_gf (c := 6) (t := 0) rfl rfl rfl).trans (am_g_congr fun h103 => ?_)
      refine (am_e0 rfl rfl).trans ?_
      refine (am_e0 rfl rfl).trans ?_
      refine (am_pf (c := 6) rfl rfl rfl).trans ((am_g_t h103).trans ?_)
      refine am_letm (fun M104 => ?_)
      refine (am_e0 rfl rfl).trans ?_
      refine (am_e0 rfl rfl).trans ?_
      refine (am_e0 rfl rfl).trans ?_
      refine (am_e0 rfl rfl).trans ?_
      refine (am_cal3 (z := 178) (k := 2) (c := (am_ob x0 6)) rfl rfl rfl rfl rfl rfl rfl rfl).trans ((am_g_t h103).trans ?_)
      refine am_bind_congr fun r105 => ?_
      show am_Ex (d + 1) 128 99 [(2, x0), (0, x1), (0, x2)] [] r105.2 = _
      refine (am_e0 rfl rfl).trans ?_
      refine (am_cal3 (z := 43) (k := 1) (c := (am_ob x0 6)) rfl rfl rfl rfl rfl rfl rfl rfl).trans ((am_g_t h103).trans ?_)
      refine am_bind_congr fun r106 => ?_
      show am_Ex (d + 1) 128 101 [(2, x0), (0, x1), (0, x2)] [(0, r106.1)] r106.2 = _
      refine (am_e0 rfl rfl).trans ?_
      refine (am_i_ne rfl).trans (am_if_congr (fun c107 => ?_) (fun c107 => ?_))
      · refine (am_e0 rfl rfl).trans ?_
        refine (am_e0 rfl rfl).trans ?_
        refine (am_gf (c := 6) (t := 0) rfl rfl rfl).trans ((am_g_t h103).trans ?_)
        refine (am_e0 rfl rfl).trans ?_
        refine (am_e0 rfl rfl).trans ?_
        refine (am_pf (c := 6) rfl rfl rfl).trans ((am_g_t h103).trans ?_)
        refine am_letm (fun M108 => ?_)
        refine (am_e1 rfl rfl).trans ?_
        refine (am_e5 rfl).trans ?_
        show am_Ex (d + 1) 128 135 [am_N, am_N, am_N] [] M108 = _
        exact (am_e4v rfl rfl).trans rfl
      · refine (am_e0 rfl rfl).trans ?_
        refine (am_e0 rfl rfl).trans ?_
        refine (am_cal3 (z := 44) (k := 2) (c := (am_ob x0 6)) rfl rfl rfl rfl rfl rfl rfl rfl).trans ((am_g_t h103).trans ?_)
        refine am_bind_congr fun r109 => ?_
        show am_Ex (d + 1) 128 113 [(2, x0), (0, x1), (0, x2)] [] r109.2 = _
        refine (am_e1 rfl rfl).trans ?_
        refine (am_e5 rfl).trans ?_
        show am_Ex (d + 1) 128 135 [am_N, am_N, am_N] [] r109.2 = _
        exact (am_e4v rfl rfl).trans rfl
    · refine (am_e0 rfl rfl).trans ?_
      refine (am_e0 rfl rfl).trans ?_
      refine (am_gf (c := 6) (t := 0) rfl rfl rfl).trans (am_g_congr fun h110 => ?_)
      refine (am_e0 rfl rfl).trans ?_
      refine (am_e0 rfl rfl).trans ?_
      refine (am_pf (c := 6) rfl rfl rfl).trans ((am_g_t h110).trans ?_)
      refine am_letm (fun M111 => ?_)
      refine (am_e0 rfl rfl).trans ?_
      refine (am_e0 rfl rfl).trans ?_
      refine (am_e0 rfl rfl).trans ?_
      refine (am_e0 rfl rfl).trans ?_
      refine (am_cal3 (z := 128) (k := 2) (c := (am_ob x0 6)) rfl rfl rfl rfl rfl rfl rfl rfl).trans ((am_g_t h110).trans ?_)
      refine am_bind_congr fun r112 => ?_
      show am_Ex (d + 1) 128 125 [(2, x0), (0, x1), (0, x2)] [] r112.2 = _
      refine (am_e0 rfl rfl).trans ?_
      refine (am_gf (c := 6) (t := 2) rfl rfl rfl).trans ((am_g_t h110).trans ?_)
      refine (am_e0 rfl rfl).trans ?_
      refine (am_e0 rfl rfl).trans ?_
      refine (am_i_ne rfl).trans (am_if_congr (fun c113 => ?_) (fun c113 => ?_))
      · refine (am_e0 rfl rfl).trans ?_
        refine (am_e1 rfl rfl).trans ?_
        refine (am_cal3 (z := 54) (k := 2) (c := (am_ob (am_rd r112.2 x0 6) 8)) rfl rfl rfl rfl rfl rfl rfl rfl).trans (am_g_congr fun h114 => ?_)
        refine am_bind_congr fun r115 => ?_
        show am_Ex (d + 1) 128 134 [(2, x0), (0, x1), (0, x2)] [] r115.2 = _
        refine (am_e5 rfl).trans ?_
        show am_Ex (d + 1) 128 135 [am_N, am_N, am_N] [] r115.2 = _
        exact (am_e4v rfl rfl).trans rfl
      · refine (am_e0 rfl rfl).trans ?_
        refine (am_cal3 (z := 54) (k := 2) (c := (am_ob (am_rd r112.2 x0 6) 8)) rfl rfl rfl rfl rfl rfl rfl rfl).trans (am_g_congr fun h116 => ?_)
        refine am_bind_congr fun r117 => ?_
        show am_Ex (d + 1) 128 134 [(2, x0), (0, x1), (0, x2)] [] r117.2 = _
        refine (am_e5 rfl).trans ?_
        show am_Ex (d + 1) 128 135 [am_N, am_N, am_N] [] r117.2 = _
        exact (am_e4v rfl rfl).trans rfl
  · refine (am_e0 rfl rfl).trans ?_
    refine (am_e0 rfl rfl).trans ?_
    refine (am_cal3 (z := 44) (k := 2) (c := (am_ob x0 6)) rfl rfl rfl rfl rfl rfl rfl rfl).trans (am_g_congr fun h118 => ?_)
    refine am_bind_congr fun r119 => ?_
    show am_Ex (d + 1) 128 84 [(2, x0), (0, x1), (0, x2)] [] r119.2 = _
    refine (am_e1 rfl rfl).trans ?_
    refine (am_e5 rfl).trans ?_
    show am_Ex (d + 1) 128 135 [am_N, am_N, am_N] [] r119.2 = _
    exact (am_e4v rfl rfl).trans rfl
-- 129: UnlearnedHand$Reckoning.isLedTo(I)Z
set_option maxRecDepth 10000 in
theorem aq_129 (d : Nat) (x0 x1 : Int) (M : am_M) : am_Call d 129 [(2, x0), (0, x1)] M = (am_Ex d 129 3 [(2, x0), (0, x1), (0, 0), am_N] [] M) := by
  show am_Ex d 129 0 [(2, x0), (0, x1), am_N, am_N] [] M = _
  refine (am_e0 rfl rfl).trans ?_
  refine (am_e0 rfl rfl).trans ?_
  exact (am_e5 rfl).trans rfl
set_option maxRecDepth 10000 in
theorem aq_129_3 (d : Nat) (x0 x1 x2 : Int) (M : am_M) : am_Ex d 129 3 [(2, x0), (0, x1), (0, x2), am_N] [] M = (am_g (am_ob x0 7) <| am_g (am_ob (am_rd M x0 0) 2) <| if x2 < am_rd M (am_rd M x0 0) 5 then ((am_Call d 19 [(2, am_rd M x0 0), (0, x2)] M).bind fun r104 => if am_and (am_shr x1 x2) 1 = 0 then (am_Ex d 129 28 [(2, x0), (0, x1), (0, x2), am_N] [] r104.2) else (if r104.1 = 0 then (am_Ex d 129 28 [(2, x0), (0, x1), (0, x2), am_N] [] r104.2) else (if am_and r104.1 x1 = 0 then (some (0, r104.2)) else (am_Ex d 129 28 [(2, x0), (0, x1), (0, x2), am_N] [] r104.2)))) else (some (1, M))) := by
  refine (am_e0 rfl rfl).trans ?_
  refine (am_e0 rfl rfl).trans ?_
  refine (am_gf (c := 7) (t := 2) rfl rfl rfl).trans (am_g_congr fun h101 => ?_)
  refine (am_gf (c := 2) (t := 0) rfl rfl rfl).trans (am_g_congr fun h102 => ?_)
  refine (am_i_ge rfl).trans (am_if_congr (fun c103 => ?_) (fun c103 => ?_))
  · refine (am_e0 rfl rfl).trans ?_
    refine (am_gf (c := 7) (t := 2) rfl rfl rfl).trans ((am_g_t h101).trans ?_)
    refine (am_e0 rfl rfl).trans ?_
    refine (am_cal3 (z := 19) (k := 2) (c := (am_ob (am_rd M x0 0) 2)) rfl rfl rfl rfl rfl rfl rfl rfl).trans ((am_g_t h102).trans ?_)
    refine am_bind_congr fun r104 => ?_
    show am_Ex d 129 12 [(2, x0), (0, x1), (0, x2), am_N] [(0, r104.1)] r104.2 = _
    refine (am_e0 rfl rfl).trans ?_
    refine (am_e0 rfl rfl).trans ?_
    refine (am_e0 rfl rfl).trans ?_
    refine (am_e0 rfl rfl).trans ?_
    refine (am_e0 rfl rfl).trans ?_
    refine (am_e0 rfl rfl).trans ?_
    refine (am_z_eq rfl).trans (am_if_congr (fun c105 => ?_) (fun c105 => ?_))
    · exact (am_e5 rfl).trans rfl
    · refine (am_e0 rfl rfl).trans ?_
      refine (am_z_eq rfl).trans (am_if_congr (fun c106 => ?_) (fun c106 => ?_))
      · exact (am_e5 rfl).trans rfl
      · refine (am_e0 rfl rfl).trans ?_
        refine (am_e0 rfl rfl).trans ?_
        refine (am_e0 rfl rfl).trans ?_
        refine (am_z_ne rfl).trans (am_if_congr (fun c107 => ?_) (fun c107 => ?_))
        · refine (am_e0 rfl rfl).trans ?_
          exact (am_e4i rfl rfl).trans rfl
        · exact (am_e5 rfl).trans rfl
  · refine (am_e0 rfl rfl).trans ?_
    exact (am_e4i rfl rfl).trans rfl
set_option maxRecDepth 10000 in
theorem aq_129_28 (d : Nat) (x0 x1 x2 : Int) (M : am_M) : am_Ex d 129 28 [(2, x0), (0, x1), (0, x2), am_N] [] M = (am_let (am_w32 (x2 + 1)) fun v101 => am_Ex d 129 3 [(2, x0), (0, x1), (0, v101), am_N] [] M) := by
  refine (am_e0 rfl rfl).trans ?_
  refine am_lets (L := fun v101 => [(2, x0), (0, x1), (0, v101), am_N]) (fun v101 => ?_)
  refine (am_e1 rfl rfl).trans ?_
  exact (am_e5 rfl).trans rfl
-- 130: UnlearnedHand$Reckoning.fewestSmells(I)I
set_option maxRecDepth 10000 in
theorem aq_130 (d : Nat) (x0 x1 : Int) (M : am_M) : am_Call d 130 [(2, x0), (0, x1)] M = (am_Ex d 130 5 [(2, x0), (0, x1), (0, (-1)), (0, 0), am_N] [] M) := by
  show am_Ex d 130 0 [(2, x0), (0, x1), am_N, am_N, am_N] [] M = _
  refine (am_e0 rfl rfl).trans ?_
  refine (am_e0 rfl rfl).trans ?_
  refine (am_e0 rfl rfl).trans ?_
  refine (am_e0 rfl rfl).trans ?_
  exact (am_e5 rfl).trans rfl
set_option maxRecDepth 10000 in
theorem aq_130_5 (d : Nat) (x0 x1 x2 x3 : Int) (M : am_M) : am_Ex d 130 5 [(2, x0), (0, x1), (0, x2), (0, x3), am_N] [] M = (am_g (am_ob x0 7) <| am_g (am_ob (am_rd M x0 0) 2) <| if x3 < am_shl 1 (am_rd M (am_rd M x0 0) 7) then (if x2 = (-1) then (am_Ex d 130 21 [(2, x0), (0, x1), (0, x2), (0, x3), am_N] [] M) else ((am_Call d 99 [(0, x3)] M).bind fun r105 => (am_Call d 99 [(0, x2)] r105.2).bind fun r106 => if r105.1 < r106.1 then (am_Ex d 130 21 [(2, x0), (0, x1), (0, x2), (0, x3), am_N] [] r106.2) else (if (0 : Int) = 0 then (am_Ex d 130 39 [(2, x0), (0, x1), (0, x2), (0, x3), am_N] [] r106.2) else (am_g (am_ob (am_rd r106.2 x0 0) 2) <| (am_Call d 20 [(2, am_rd r106.2 x0 0), (0, x3)] r106.2).bind fun r110 => if am_and x1 (am_xor r110.1 (-1)) = 0 then (am_Ex d 130 39 [(2, x0), (0, x1), (0, x3), (0, x3), am_N] [] r110.2) else (am_Ex d 130 39 [(2, x0), (0, x1), (0, x2), (0, x3), am_N] [] r110.2))))) else (some (x2, M))) := by
  refine (am_e0 rfl rfl).trans ?_
  refine (am_e0 rfl rfl).trans ?_
  refine (am_e0 rfl rfl).trans ?_
  refine (am_gf (c := 7) (t := 2) rfl rfl rfl).trans (am_g_congr fun h101 => ?_)
  refine (am_gf (c := 2) (t := 0) rfl rfl rfl).trans (am_g_congr fun h102 => ?_)
  refine (am_e0 rfl rfl).trans ?_
  refine (am_i_ge rfl).trans (am_if_congr (fun c103 => ?_) (fun c103 => ?_))
  · refine (am_e0 rfl rfl).trans ?_
    refine (am_e0 rfl rfl).trans ?_
    refine (am_i_eq rfl).trans (am_if_congr (fun c104 => ?_) (fun c104 => ?_))
    · exact (am_e5 rfl).trans rfl
    · refine (am_e0 rfl rfl).trans ?_
      refine (am_cal3 (z := 99) (k := 1) (c := true) rfl rfl rfl rfl rfl rfl rfl rfl).trans ((am_g_t rfl).trans ?_)
      refine am_bind_congr fun r105 => ?_
      show am_Ex d 130 17 [(2, x0), (0, x1), (0, x2), (0, x3), am_N] [(0, r105.1)] r105.2 = _
      refine (am_e0 rfl rfl).trans ?_
      refine (am_cal3 (z := 99) (k := 1) (c := true) rfl rfl rfl rfl rfl rfl rfl rfl).trans ((am_g_t rfl).trans ?_)
      refine am_bind_congr fun r106 => ?_
      show am_Ex d 130 19 [(2, x0), (0, x1), (0, x2), (0, x3), am_N] [(0, r106.1), (0, r105.1)] r106.2 = _
      refine (am_i_ge rfl).trans (am_if_congr (fun c107 => ?_) (fun c107 => ?_))
      · exact (am_e5 rfl).trans rfl
      · refine (am_e0 rfl rfl).trans ?_
        refine (am_e0 rfl rfl).trans ?_
        refine (am_e0 rfl rfl).trans ?_
        refine (am_z_eq rfl).trans (am_if_congr (fun c108 => ?_) (fun c108 => ?_))
        · exact (am_e5 rfl).trans rfl
        · refine (am_e0 rfl rfl).trans ?_
          refine (am_e0 rfl rfl).trans ?_
          refine (am_gf (c := 7) (t := 2) rfl rfl rfl).trans ((am_g_t h101).trans ?_)
          refine (am_e0 rfl rfl).trans ?_
          refine (am_cal3 (z := 20) (k := 2) (c := (am_ob (am_rd r106.2 x0 0) 2)) rfl rfl rfl rfl rfl rfl rfl rfl).trans (am_g_congr fun h109 => ?_)
          refine am_bind_congr fun r110 => ?_
          show am_Ex d 130 32 [(2, x0), (0, x1), (0, x2), (0, x3), (0, 0)] [(0, r110.1), (0, x1)] r110.2 = _
          refine (am_e0 rfl rfl).trans ?_
          refine (am_e0 rfl rfl).trans ?_
          refine (am_e0 rfl rfl).trans ?_
          refine (am_z_ne rfl).trans (am_if_congr (fun c111 => ?_) (fun c111 => ?_))
          · refine (am_e0 rfl rfl).trans ?_
            refine (am_e0 rfl rfl).trans ?_
            exact (am_e5 rfl).trans rfl
          · exact (am_e5 rfl).trans rfl
  · refine (am_e0 rfl rfl).trans ?_
    exact (am_e4i rfl rfl).trans rfl
set_option maxRecDepth 10000 in
theorem aq_130_21 (d : Nat) (x0 x1 x2 x3 : Int) (M : am_M) : am_Ex d 130 21 [(2, x0), (0, x1), (0, x2), (0, x3), am_N] [] M = (if (1 : Int) = 0 then (am_Ex d 130 39 [(2, x0), (0, x1), (0, x2), (0, x3), am_N] [] M) else (am_g (am_ob x0 7) <| am_g (am_ob (am_rd M x0 0) 2) <| (am_Call d 20 [(2, am_rd M x0 0), (0, x3)] M).bind fun r104 => if am_and x1 (am_xor r104.1 (-1)) = 0 then (am_Ex d 130 39 [(2, x0), (0, x1), (0, x3), (0, x3), am_N] [] r104.2) else (am_Ex d 130 39 [(2, x0), (0, x1), (0, x2), (0, x3), am_N] [] r104.2))) := by
  refine (am_e0 rfl rfl).trans ?_
  refine (am_e1 rfl rfl).trans ?_
  refine (am_e0 rfl rfl).trans ?_
  refine (am_e0 rfl rfl).trans ?_
  refine (am_z_eq rfl).trans (am_if_congr (fun c101 => ?_) (fun c101 => ?_))
  · exact (am_e5 rfl).trans rfl
  · refine (am_e0 rfl rfl).trans ?_
    refine (am_e0 rfl rfl).trans ?_
    refine (am_gf (c := 7) (t := 2) rfl rfl rfl).trans (am_g_congr fun h102 => ?_)
    refine (am_e0 rfl rfl).trans ?_
    refine (am_cal3 (z := 20) (k := 2) (c := (am_ob (am_rd M x0 0) 2)) rfl rfl rfl rfl rfl rfl rfl rfl).trans (am_g_congr fun h103 => ?_)
    refine am_bind_congr fun r104 => ?_
    show am_Ex d 130 32 [(2, x0), (0, x1), (0, x2), (0, x3), (0, 1)] [(0, r104.1), (0, x1)] r104.2 = _
    refine (am_e0 rfl rfl).trans ?_
    refine (am_e0 rfl rfl).trans ?_
    refine (am_e0 rfl rfl).trans ?_
    refine (am_z_ne rfl).trans (am_if_congr (fun c105 => ?_) (fun c105 => ?_))
    · refine (am_e0 rfl rfl).trans ?_
      refine (am_e0 rfl rfl).trans ?_
      exact (am_e5 rfl).trans rfl
    · exact (am_e5 rfl).trans rfl
set_option maxRecDepth 10000 in
theorem aq_130_39 (d : Nat) (x0 x1 x2 x3 : Int) (M : am_M) : am_Ex d 130 39 [(2, x0), (0, x1), (0, x2), (0, x3), am_N] [] M = (am_let (am_w32 (x3 + 1)) fun v101 => am_Ex d 130 5 [(2, x0), (0, x1), (0, x2), (0, v101), am_N] [] M) := by
  refine (am_e0 rfl rfl).trans ?_
  refine am_lets (L := fun v101 => [(2, x0), (0, x1), (0, x2), (0, v101), am_N]) (fun v101 => ?_)
  refine (am_e1 rfl rfl).trans ?_
  exact (am_e5 rfl).trans rfl
-- 131: UnlearnedHand$Reckoning.worthOfEach(I)I
set_option maxRecDepth 10000 in
theorem aq_131 (d : Nat) (x0 x1 : Int) (M : am_M) : am_Call d 131 [(2, x0), (0, x1)] M = (am_Ex d 131 5 [(2, x0), (0, x1), (0, 0), (0, 0)] [] M) := by
  show am_Ex d 131 0 [(2, x0), (0, x1), am_N, am_N] [] M = _
  refine (am_e0 rfl rfl).trans ?_
  refine (am_e0 rfl rfl).trans ?_
  refine (am_e0 rfl rfl).trans ?_
  refine (am_e0 rfl rfl).trans ?_
  exact (am_e5 rfl).trans rfl
set_option maxRecDepth 10000 in
theorem aq_131_5 (d : Nat) (x0 x1 x2 x3 : Int) (M : am_M) : am_Ex d 131 5 [(2, x0), (0, x1), (0, x2), (0, x3)] [] M = (am_g (am_ob x0 7) <| am_g (am_ob (am_rd M x0 0) 2) <| if x3 < am_rd M (am_rd M x0 0) 6 then (if x3 < 6 then (if am_and (am_shr x1 x3) 1 = 0 then (am_let (am_w32 (x2 + 0)) fun v106 => am_let (am_w32 (x3 + 1)) fun v107 => am_Ex d 131 5 [(2, x0), (0, x1), (0, v106), (0, v107)] [] M) else (am_g (am_ar (am_rd M x0 3) 20 x3) <| (am_Call d 18 [(2, am_rd M x0 0), (0, am_rd M (am_rd M x0 3) x3)] M).bind fun r109 => am_let (am_w32 (x2 + r109.1)) fun v110 => am_let (am_w32 (x3 + 1)) fun v111 => am_Ex d 131 5 [(2, x0), (0, x1), (0, v110), (0, v111)] [] r109.2)) else (some (x2, M))) else (some (x2, M))) := by
  refine (am_e0 rfl rfl).trans ?_
  refine (am_e0 rfl rfl).trans ?_
  refine (am_gf (c := 7) (t := 2) rfl rfl rfl).trans (am_g_congr fun h101 => ?_)
  refine (am_gf (c := 2) (t := 0) rfl rfl rfl).trans (am_g_congr fun h102 => ?_)
  refine (am_i_ge rfl).trans (am_if_congr (fun c103 => ?_) (fun c103 => ?_))
  · refine (am_e0 rfl rfl).trans ?_
    refine (am_e0 rfl rfl).trans ?_
    refine (am_i_ge rfl).trans (am_if_congr (fun c104 => ?_) (fun c104 => ?_))
    · refine (am_e0 rfl rfl).trans ?_
      refine (am_e0 rfl rfl).trans ?_
      refine (am_e0 rfl rfl).trans ?_
      refine (am_e0 rfl rfl).trans ?_
      refine (am_e0 rfl rfl).trans ?_
      refine (am_e0 rfl rfl).trans ?_
      refine (am_z_eq rfl).trans (am_if_congr (fun c105 => ?_) (fun c105 => ?_))
      · refine (am_e0 rfl rfl).trans ?_
        refine (am_e0 rfl rfl).trans ?_
        refine (am_e0 rfl rfl).trans ?_
        refine am_lets (L := fun v106 => [(2, x0), (0, x1), (0, v106), (0, x3)]) (fun v106 => ?_)
        refine (am_e0 rfl rfl).trans ?_
        refine am_lets (L := fun v107 => [(2, x0), (0, x1), (0, v106), (0, v107)]) (fun v107 => ?_)
        refine (am_e1 rfl rfl).trans ?_
        exact (am_e5 rfl).trans rfl
      · refine (am_e0 rfl rfl).trans ?_
        refine (am_gf (c := 7) (t := 2) rfl rfl rfl).trans ((am_g_t h101).trans ?_)
        refine (am_e0 rfl rfl).trans ?_
        refine (am_gf (c := 7) (t := 2) rfl rfl rfl).trans ((am_g_t h101).trans ?_)
        refine (am_e0 rfl rfl).trans ?_
        refine (am_ial rfl).trans (am_g_congr fun h108 => ?_)
        refine (am_cal3 (z := 18) (k := 2) (c := (am_ob (am_rd M x0 0) 2)) rfl rfl rfl rfl rfl rfl rfl rfl).trans ((am_g_t h102).trans ?_)
        refine am_bind_congr fun r109 => ?_
        show am_Ex d 131 27 [(2, x0), (0, x1), (0, x2), (0, x3)] [(0, r109.1), (0, x2)] r109.2 = _
        refine (am_e1 rfl rfl).trans ?_
        refine (am_e0 rfl rfl).trans ?_
        refine (am_e0 rfl rfl).trans ?_
        refine am_lets (L := fun v110 => [(2, x0), (0, x1), (0, v110), (0, x3)]) (fun v110 => ?_)
        refine (am_e0 rfl rfl).trans ?_
        refine am_lets (L := fun v111 => [(2, x0), (0, x1), (0, v110), (0, v111)]) (fun v111 => ?_)
        refine (am_e1 rfl rfl).trans ?_
        exact (am_e5 rfl).trans rfl
    · refine (am_e5 rfl).trans ?_
      show am_Ex d 131 34 [am_N, am_N, (0, x2), am_N] [] M = _
      refine (am_e0 rfl rfl).trans ?_
      exact (am_e4i rfl rfl).trans rfl
  · refine (am_e5 rfl).trans ?_
    show am_Ex d 131 34 [am_N, am_N, (0, x2), am_N] [] M = _
    refine (am_e0 rfl rfl).trans ?_
    exact (am_e4i rfl rfl).trans rfl
-- 132: UnlearnedHand$Steps.<init>()V
set_option maxRecDepth 10000 in
theorem aq_132 (d : Nat) (x0 : Int) (M : am_M) : am_Call d 132 [(2, x0)] M = (am_g (decide (0 < x0)) <| am_g (am_ob M.1 25 && (am_ln M.1 == 30)) <| am_let (am_al M) fun M103 => am_g (am_ob x0 9) <| am_let (am_wr M103 x0 0 (M.1 : Int)) fun M105 => am_Ex d 132 9 [(2, x0), (0, 0)] [] M105) := by
  show am_Ex d 132 0 [(2, x0), am_N] [] M = _
  refine (am_e0 rfl rfl).trans ?_
  refine (am_e8 rfl rfl).trans (am_g_congr fun h101 => ?_)
  refine (am_e0 rfl rfl).trans ?_
  refine (am_e0 rfl rfl).trans ?_
  refine (am_nwq (c := 25) rfl rfl).trans (am_g_congr fun h102 => ?_)
  refine am_letm (fun M103 => ?_)
  refine (am_pf (c := 9) rfl rfl rfl).trans (am_g_congr fun h104 => ?_)
  refine am_letm (fun M105 => ?_)
  refine (am_e0 rfl rfl).trans ?_
  refine (am_e0 rfl rfl).trans ?_
  exact (am_e5 rfl).trans rfl
set_option maxRecDepth 10000 in
theorem aq_132_9 (d : Nat) (x0 x1 : Int) (M : am_M) : am_Ex d 132 9 [(2, x0), (0, x1)] [] M = (am_g (am_ob x0 9) <| am_g (am_ia (am_rd M x0 0)) <| if x1 < am_ln (am_rd M x0 0) then (am_g (am_ob M.1 3) <| am_let (am_al M) fun M105 => am_g (am_ob (M.1 : Int) 3) <| (am_Call d 21 [(2, (M.1 : Int))] M105).bind fun r107 => am_g (am_ar (am_rd M x0 0) 24 x1 && am_ob (M.1 : Int) 8 || am_ar (am_rd M x0 0) 25 x1 && am_ob (M.1 : Int) 3) <| am_let (am_wr r107.2 (am_rd M x0 0) x1 (M.1 : Int)) fun M109 => am_let (am_w32 (x1 + 1)) fun v110 => am_Ex d 132 9 [(2, x0), (0, v110)] [] M109) else (some (0, M))) := by
  refine (am_e0 rfl rfl).trans ?_
  refine (am_e0 rfl rfl).trans ?_
  refine (am_gf (c := 9) (t := 2) rfl rfl rfl).trans (am_g_congr fun h101 => ?_)
  refine (am_aln rfl).trans (am_g_congr fun h102 => ?_)
  refine (am_i_ge rfl).trans (am_if_congr (fun c103 => ?_) (fun c103 => ?_))
  · refine (am_e0 rfl rfl).trans ?_
    refine (am_gf (c := 9) (t := 2) rfl rfl rfl).trans ((am_g_t h101).trans ?_)
    refine (am_e0 rfl rfl).trans ?_
    refine (am_nwo (c := 3) rfl rfl).trans (am_g_congr fun h104 => ?_)
    refine am_letm (fun M105 => ?_)
    refine (am_e0 rfl rfl).trans ?_
    refine (am_cal3 (z := 21) (k := 1) (c := (am_ob (M.1 : Int) 3)) rfl rfl rfl rfl rfl rfl rfl rfl).trans (am_g_congr fun h106 => ?_)
    refine am_bind_congr fun r107 => ?_
    show am_Ex d 132 20 [(2, x0), (0, x1)] [(2, (M.1 : Int)), (0, x1), (2, am_rd M x0 0)] r107.2 = _
    refine (am_aas rfl).trans (am_g_congr fun h108 => ?_)
    refine am_letm (fun M109 => ?_)
    refine (am_e0 rfl rfl).trans ?_
    refine am_lets (L := fun v110 => [(2, x0), (0, v110)]) (fun v110 => ?_)
    refine (am_e1 rfl rfl).trans ?_
    exact (am_e5 rfl).trans rfl
  · exact (am_e4v rfl rfl).trans rfl
-- 133: UnlearnedHand$Steps.copyFrom(LUnlearnedHand$Steps;)V
set_option maxRecDepth 10000 in
theorem aq_133 (d : Nat) (x0 x1 : Int) (M : am_M) : am_Call d 133 [(2, x0), (2, x1)] M = (am_Ex d 133 3 [(2, x0), (2, x1), (0, 0)] [] M) := by
  show am_Ex d 133 0 [(2, x0), (2, x1), am_N] [] M = _
  refine (am_e0 rfl rfl).trans ?_
  refine (am_e0 rfl rfl).trans ?_
  exact (am_e5 rfl).trans rfl
set_option maxRecDepth 10000 in
theorem aq_133_3 (d : Nat) (x0 x1 x2 : Int) (M : am_M) : am_Ex d 133 3 [(2, x0), (2, x1), (0, x2)] [] M = (if x2 < 30 then (am_g (am_ob x0 9) <| am_g (am_ar (am_rd M x0 0) 24 x2 || (am_ar (am_rd M x0 0) 25 x2 || am_ar (am_rd M x0 0) 26 x2)) <| if am_rd M (am_rd M x0 0) x2 = 0 then (am_Ex d 133 26 [(2, x0), (2, x1), (0, x2)] [] M) else (am_g (am_ob x1 9) <| am_g (am_ar (am_rd M x1 0) 24 x2 || (am_ar (am_rd M x1 0) 25 x2 || am_ar (am_rd M x1 0) 26 x2)) <| if am_rd M (am_rd M x1 0) x2 = 0 then (am_Ex d 133 26 [(2, x0), (2, x1), (0, x2)] [] M) else (am_g (am_ob (am_rd M (am_rd M x0 0) x2) 3) <| (am_Call d 22 [(2, am_rd M (am_rd M x0 0) x2), (2, am_rd M (am_rd M x1 0) x2)] M).bind fun r109 => am_Ex d 133 26 [(2, x0), (2, x1), (0, x2)] [] r109.2))) else (am_g (am_ob x1 9) <| am_g (am_ob x0 9) <| am_let (am_wr M x0 1 (am_rd M x1 1)) fun M112 => am_let (am_wr M112 x0 2 (am_rd M112 x1 2)) fun M113 => some (0, M113))) := by
  refine (am_e0 rfl rfl).trans ?_
  refine (am_e0 rfl rfl).trans ?_
  refine (am_i_ge rfl).trans (am_if_congr (fun c101 => ?_) (fun c101 => ?_))
  · refine (am_e0 rfl rfl).trans ?_
    refine (am_gf (c := 9) (t := 2) rfl rfl rfl).trans (am_g_congr fun h102 => ?_)
    refine (am_e0 rfl rfl).trans ?_
    refine (am_aal rfl).trans (am_g_congr fun h103 => ?_)
    refine (am_nul rfl).trans (am_if_congr (fun c104 => ?_) (fun c104 => ?_))
    · exact (am_e5 rfl).trans rfl
    · refine (am_e0 rfl rfl).trans ?_
      refine (am_gf (c := 9) (t := 2) rfl rfl rfl).trans (am_g_congr fun h105 => ?_)
      refine (am_e0 rfl rfl).trans ?_
      refine (am_aal rfl).trans (am_g_congr fun h106 => ?_)
      refine (am_nul rfl).trans (am_if_congr (fun c107 => ?_) (fun c107 => ?_))
      · exact (am_e5 rfl).trans rfl
      · refine (am_e0 rfl rfl).trans ?_
        refine (am_gf (c := 9) (t := 2) rfl rfl rfl).trans ((am_g_t h102).trans ?_)
        refine (am_e0 rfl rfl).trans ?_
        refine (am_aal rfl).trans ((am_g_t h103).trans ?_)
        refine (am_e0 rfl rfl).trans ?_
        refine (am_gf (c := 9) (t := 2) rfl rfl rfl).trans ((am_g_t h105).trans ?_)
        refine (am_e0 rfl rfl).trans ?_
        refine (am_aal rfl).trans ((am_g_t h106).trans ?_)
        refine (am_cal3 (z := 22) (k := 2) (c := (am_ob (am_rd M (am_rd M x0 0) x2) 3)) rfl rfl rfl rfl rfl rfl rfl rfl).trans (am_g_congr fun h108 => ?_)
        refine am_bind_congr fun r109 => ?_
        show am_Ex d 133 25 [(2, x0), (2, x1), (0, x2)] [] r109.2 = _
        exact (am_e5 rfl).trans rfl
  · refine (am_e0 rfl rfl).trans ?_
    refine (am_e0 rfl rfl).trans ?_
    refine (am_gf (c := 9) (t := 0) rfl rfl rfl).trans (am_g_congr fun h110 => ?_)
    refine (am_pf (c := 9) rfl rfl rfl).trans (am_g_congr fun h111 => ?_)
    refine am_letm (fun M112 => ?_)
    refine (am_e0 rfl rfl).trans ?_
    refine (am_e0 rfl rfl).trans ?_
    refine (am_gf (c := 9) (t := 0) rfl rfl rfl).trans ((am_g_t h110).trans ?_)
    refine (am_pf (c := 9) rfl rfl rfl).trans ((am_g_t h111).trans ?_)
    refine am_letm (fun M113 => ?_)
    exact (am_e4v rfl rfl).trans rfl
set_option maxRecDepth 10000 in
theorem aq_133_26 (d : Nat) (x0 x1 x2 : Int) (M : am_M) : am_Ex d 133 26 [(2, x0), (2, x1), (0, x2)] [] M = (am_let (am_w32 (x2 + 1)) fun v101 => am_Ex d 133 3 [(2, x0), (2, x1), (0, v101)] [] M) := by
  refine (am_e0 rfl rfl).trans ?_
  refine am_lets (L := fun v101 => [(2, x0), (2, x1), (0, v101)]) (fun v101 => ?_)
  refine (am_e1 rfl rfl).trans ?_
  exact (am_e5 rfl).trans rfl
-- 134: UnlearnedHand$Steps.keep(LUnlearnedHand$Hands;)V
set_option maxRecDepth 10000 in
theorem aq_134 (d : Nat) (x0 x1 : Int) (M : am_M) : am_Call d 134 [(2, x0), (2, x1)] M = (am_g (am_ob x0 9) <| if am_rd M x0 1 < 0 then (some (0, M)) else (if am_rd M x0 1 < 30 then (am_g (am_ar (am_rd M x0 0) 24 (am_rd M x0 1) || (am_ar (am_rd M x0 0) 25 (am_rd M x0 1) || am_ar (am_rd M x0 0) 26 (am_rd M x0 1))) <| if am_rd M (am_rd M x0 0) (am_rd M x0 1) = 0 then (some (0, M)) else (am_g (am_ob (am_rd M (am_rd M x0 0) (am_rd M x0 1)) 3) <| (am_Call d 22 [(2, am_rd M (am_rd M x0 0) (am_rd M x0 1)), (2, x1)] M).bind fun r107 => if (30 : Int) = 0 then none else am_let (am_wr r107.2 x0 1 (am_rem (am_w32 ((am_rd r107.2 x0 1) + 1)) 30)) fun M109 => am_let (am_wr M109 x0 2 (min (am_w32 ((am_rd M109 x0 2) + 1)) 30)) fun M110 => some (0, M110))) else (some (0, M)))) := by
  show am_Ex d 134 0 [(2, x0), (2, x1)] [] M = _
  refine (am_e0 rfl rfl).trans ?_
  refine (am_gf (c := 9) (t := 0) rfl rfl rfl).trans (am_g_congr fun h101 => ?_)
  refine (am_z_lt rfl).trans (am_if_congr (fun c102 => ?_) (fun c102 => ?_))
  · refine (am_e5 rfl).trans ?_
    show am_Ex d 134 37 [am_N, am_N] [] M = _
    exact (am_e4v rfl rfl).trans rfl
  · refine (am_e0 rfl rfl).trans ?_
    refine (am_gf (c := 9) (t := 0) rfl rfl rfl).trans ((am_g_t h101).trans ?_)
    refine (am_e0 rfl rfl).trans ?_
    refine (am_i_ge rfl).trans (am_if_congr (fun c103 => ?_) (fun c103 => ?_))
    · refine (am_e0 rfl rfl).trans ?_
      refine (am_gf (c := 9) (t := 2) rfl rfl rfl).trans ((am_g_t h101).trans ?_)
      refine (am_e0 rfl rfl).trans ?_
      refine (am_gf (c := 9) (t := 0) rfl rfl rfl).trans ((am_g_t h101).trans ?_)
      refine (am_aal rfl).trans (am_g_congr fun h104 => ?_)
      refine (am_nul rfl).trans (am_if_congr (fun c105 => ?_) (fun c105 => ?_))
      · refine (am_e5 rfl).trans ?_
        show am_Ex d 134 37 [am_N, am_N] [] M = _
        exact (am_e4v rfl rfl).trans rfl
      · refine (am_e0 rfl rfl).trans ?_
        refine (am_gf (c := 9) (t := 2) rfl rfl rfl).trans ((am_g_t h101).trans ?_)
        refine (am_e0 rfl rfl).trans ?_
        refine (am_gf (c := 9) (t := 0) rfl rfl rfl).trans ((am_g_t h101).trans ?_)
        refine (am_aal rfl).trans ((am_g_t h104).trans ?_)
        refine (am_e0 rfl rfl).trans ?_
        refine (am_cal3 (z := 22) (k := 2) (c := (am_ob (am_rd M (am_rd M x0 0) (am_rd M x0 1)) 3)) rfl rfl rfl rfl rfl rfl rfl rfl).trans (am_g_congr fun h106 => ?_)
        refine am_bind_congr fun r107 => ?_
        show am_Ex d 134 20 [(2, x0), (2, x1)] [] r107.2 = _
        refine (am_e0 rfl rfl).trans ?_
        refine (am_e0 rfl rfl).trans ?_
        refine (am_gf (c := 9) (t := 0) rfl rfl rfl).trans ((am_g_t h101).trans ?_)
        refine (am_e0 rfl rfl).trans ?_
        refine (am_e0 rfl rfl).trans ?_
        refine (am_e0 rfl rfl).trans ?_
        refine (am_rmi rfl).trans (am_if_congr (fun _ => rfl) (fun c108 => ?_))
        refine (am_pf (c := 9) rfl rfl rfl).trans ((am_g_t h101).trans ?_)
        refine am_letm (fun M109 => ?_)
        refine (am_e0 rfl rfl).trans ?_
        refine (am_e0 rfl rfl).trans ?_
        refine (am_gf (c := 9) (t := 0) rfl rfl rfl).trans ((am_g_t h101).trans ?_)
        refine (am_e0 rfl rfl).trans ?_
        refine (am_e0 rfl rfl).trans ?_
        refine (am_e0 rfl rfl).trans ?_
        refine (am_e10 (w := min (am_w32 ((am_rd M109 x0 2) + 1)) 30) rfl rfl rfl).trans ?_
        refine (am_pf (c := 9) rfl rfl rfl).trans ((am_g_t h101).trans ?_)
        refine am_letm (fun M110 => ?_)
        refine (am_e5 rfl).trans ?_
        show am_Ex d 134 37 [am_N, am_N] [] M110 = _
        exact (am_e4v rfl rfl).trans rfl
    · refine (am_e5 rfl).trans ?_
      show am_Ex d 134 37 [am_N, am_N] [] M = _
      exact (am_e4v rfl rfl).trans rfl
-- 135: UnlearnedHand$Steps.takeBack(LUnlearnedHand$Hands;)I
set_option maxRecDepth 10000 in
theorem aq_135 (d : Nat) (x0 x1 : Int) (M : am_M) : am_Call d 135 [(2, x0), (2, x1)] M = (am_g (am_ob x0 9) <| if (30 : Int) = 0 then none else am_let (am_rem (am_w32 ((am_w32 ((am_rd M x0 1) + 30)) - 1)) 30) fun v103 => if am_rd M x0 2 < 1 then (some ((-1), M)) else (if v103 < 0 then (some ((-1), M)) else (if v103 < 30 then (am_g (am_ar (am_rd M x0 0) 24 v103 || (am_ar (am_rd M x0 0) 25 v103 || am_ar (am_rd M x0 0) 26 v103)) <| if am_rd M (am_rd M x0 0) v103 = 0 then (some ((-1), M)) else (am_g (am_ob x1 3) <| (am_Call d 22 [(2, x1), (2, am_rd M (am_rd M x0 0) v103)] M).bind fun r110 => am_let (am_wr r110.2 x0 1 v103) fun M111 => am_let (am_wr M111 x0 2 (am_w32 ((am_rd M111 x0 2) - 1))) fun M112 => some (am_rd M112 x0 2, M112))) else (some ((-1), M))))) := by
  show am_Ex d 135 0 [(2, x0), (2, x1), am_N] [] M = _
  refine (am_e0 rfl rfl).trans ?_
  refine (am_gf (c := 9) (t := 0) rfl rfl rfl).trans (am_g_congr fun h101 => ?_)
  refine (am_e0 rfl rfl).trans ?_
  refine (am_e0 rfl rfl).trans ?_
  refine (am_e0 rfl rfl).trans ?_
  refine (am_e0 rfl rfl).trans ?_
  refine (am_e0 rfl rfl).trans ?_
  refine (am_rmi rfl).trans (am_if_congr (fun _ => rfl) (fun c102 => ?_))
  refine (am_e0 rfl rfl).trans ?_
  refine am_lets (L := fun v103 => [(2, x0), (2, x1), (0, v103)]) (fun v103 => ?_)
  refine (am_e0 rfl rfl).trans ?_
  refine (am_gf (c := 9) (t := 0) rfl rfl rfl).trans ((am_g_t h101).trans ?_)
  refine (am_e0 rfl rfl).trans ?_
  refine (am_i_lt rfl).trans (am_if_congr (fun c104 => ?_) (fun c104 => ?_))
  · refine (am_e5 rfl).trans ?_
    show am_Ex d 135 24 [am_N, am_N, am_N] [] M = _
    refine (am_e0 rfl rfl).trans ?_
    exact (am_e4i rfl rfl).trans rfl
  · refine (am_e0 rfl rfl).trans ?_
    refine (am_z_lt rfl).trans (am_if_congr (fun c105 => ?_) (fun c105 => ?_))
    · refine (am_e5 rfl).trans ?_
      show am_Ex d 135 24 [am_N, am_N, am_N] [] M = _
      refine (am_e0 rfl rfl).trans ?_
      exact (am_e4i rfl rfl).trans rfl
    · refine (am_e0 rfl rfl).trans ?_
      refine (am_e0 rfl rfl).trans ?_
      refine (am_i_ge rfl).trans (am_if_congr (fun c106 => ?_) (fun c106 => ?_))
      · refine (am_e0 rfl rfl).trans ?_
        refine (am_gf (c := 9) (t := 2) rfl rfl rfl).trans ((am_g_t h101).trans ?_)
        refine (am_e0 rfl rfl).trans ?_
        refine (am_aal rfl).trans (am_g_congr fun h107 => ?_)
        refine (am_nnul rfl).trans (am_if_congr (fun c108 => ?_) (fun c108 => ?_))
        · refine (am_e5 rfl).trans ?_
          show am_Ex d 135 24 [am_N, am_N, am_N] [] M = _
          refine (am_e0 rfl rfl).trans ?_
          exact (am_e4i rfl rfl).trans rfl
        · refine (am_e0 rfl rfl).trans ?_
          refine (am_e0 rfl rfl).trans ?_
          refine (am_gf (c := 9) (t := 2) rfl rfl rfl).trans ((am_g_t h101).trans ?_)
          refine (am_e0 rfl rfl).trans ?_
          refine (am_aal rfl).trans ((am_g_t h107).trans ?_)
          refine (am_cal3 (z := 22) (k := 2) (c := (am_ob x1 3)) rfl rfl rfl rfl rfl rfl rfl rfl).trans (am_g_congr fun h109 => ?_)
          refine am_bind_congr fun r110 => ?_
          show am_Ex d 135 32 [(2, x0), (2, x1), (0, v103)] [] r110.2 = _
          refine (am_e0 rfl rfl).trans ?_
          refine (am_e0 rfl rfl).trans ?_
          refine (am_pf (c := 9) rfl rfl rfl).trans ((am_g_t h101).trans ?_)
          refine am_letm (fun M111 => ?_)
          refine (am_e0 rfl rfl).trans ?_
          refine (am_e0 rfl rfl).trans ?_
          refine (am_gf (c := 9) (t := 0) rfl rfl rfl).trans ((am_g_t h101).trans ?_)
          refine (am_e0 rfl rfl).trans ?_
          refine (am_e0 rfl rfl).trans ?_
          refine (am_pf (c := 9) rfl rfl rfl).trans ((am_g_t h101).trans ?_)
          refine am_letm (fun M112 => ?_)
          refine (am_e0 rfl rfl).trans ?_
          refine (am_gf (c := 9) (t := 0) rfl rfl rfl).trans ((am_g_t h101).trans ?_)
          exact (am_e4i rfl rfl).trans rfl
      · refine (am_e5 rfl).trans ?_
        show am_Ex d 135 24 [am_N, am_N, am_N] [] M = _
        refine (am_e0 rfl rfl).trans ?_
        exact (am_e4i rfl rfl).trans rfl
-- 136: UnlearnedHand.turn(I)I
set_option maxRecDepth 10000 in
theorem aq_136 (d : Nat) (x0 x1 : Int) (M : am_M) : am_Call d 136 [(2, x0), (0, x1)] M = (if x1 < 1 then (am_Ex d 136 7 [am_N, am_N] [] M) else (if x1 ≤ 99 then (am_g (am_ob x0 10) <| am_g (am_ob (am_rd M x0 0) 2) <| (am_Call d 13 [(2, am_rd M x0 0), (0, x1)] M).bind fun r105 => some (r105.1, r105.2)) else (am_Ex d 136 7 [am_N, am_N] [] M))) := by
  show am_Ex d 136 0 [(2, x0), (0, x1)] [] M = _
  refine (am_e0 rfl rfl).trans ?_
  refine (am_e0 rfl rfl).trans ?_
  refine (am_i_lt rfl).trans (am_if_congr (fun c101 => ?_) (fun c101 => ?_))
  · exact (am_e5 rfl).trans rfl
  · refine (am_e0 rfl rfl).trans ?_
    refine (am_e0 rfl rfl).trans ?_
    refine (am_i_le rfl).trans (am_if_congr (fun c102 => ?_) (fun c102 => ?_))
    · refine (am_e0 rfl rfl).trans ?_
      refine (am_gf (c := 10) (t := 2) rfl rfl rfl).trans (am_g_congr fun h103 => ?_)
      refine (am_e0 rfl rfl).trans ?_
      refine (am_cal3 (z := 13) (k := 2) (c := (am_ob (am_rd M x0 0) 2)) rfl rfl rfl rfl rfl rfl rfl rfl).trans (am_g_congr fun h104 => ?_)
      refine am_bind_congr fun r105 => ?_
      show am_Ex d 136 13 [(2, x0), (0, x1)] [(0, r105.1)] r105.2 = _
      exact (am_e4i rfl rfl).trans rfl
    · exact (am_e5 rfl).trans rfl
set_option maxRecDepth 10000 in
theorem aq_136_7 (d : Nat) (M : am_M) : am_Ex d 136 7 [am_N, am_N] [] M = (some ((-1), M)) := by
  refine (am_e0 rfl rfl).trans ?_
  refine (am_e1 rfl rfl).trans ?_
  exact (am_e4i rfl rfl).trans rfl
-- 137: UnlearnedHand.man(I)I
set_option maxRecDepth 10000 in
theorem aq_137 (d : Nat) (x0 x1 : Int) (M : am_M) : am_Call d 137 [(2, x0), (0, x1)] M = (if x1 < 0 then (am_Ex d 137 6 [am_N, am_N] [] M) else (if x1 ≤ 9 then (am_g (am_ob x0 10) <| am_g (am_ob (am_rd M x0 0) 2) <| (am_Call d 14 [(2, am_rd M x0 0), (0, x1)] M).bind fun r105 => some (r105.1, r105.2)) else (am_Ex d 137 6 [am_N, am_N] [] M))) := by
  show am_Ex d 137 0 [(2, x0), (0, x1)] [] M = _
  refine (am_e0 rfl rfl).trans ?_
  refine (am_z_lt rfl).trans (am_if_congr (fun c101 => ?_) (fun c101 => ?_))
  · exact (am_e5 rfl).trans rfl
  · refine (am_e0 rfl rfl).trans ?_
    refine (am_e0 rfl rfl).trans ?_
    refine (am_i_le rfl).trans (am_if_congr (fun c102 => ?_) (fun c102 => ?_))
    · refine (am_e0 rfl rfl).trans ?_
      refine (am_gf (c := 10) (t := 2) rfl rfl rfl).trans (am_g_congr fun h103 => ?_)
      refine (am_e0 rfl rfl).trans ?_
      refine (am_cal3 (z := 14) (k := 2) (c := (am_ob (am_rd M x0 0) 2)) rfl rfl rfl rfl rfl rfl rfl rfl).trans (am_g_congr fun h104 => ?_)
      refine am_bind_congr fun r105 => ?_
      show am_Ex d 137 12 [(2, x0), (0, x1)] [(0, r105.1)] r105.2 = _
      exact (am_e4i rfl rfl).trans rfl
    · exact (am_e5 rfl).trans rfl
set_option maxRecDepth 10000 in
theorem aq_137_6 (d : Nat) (M : am_M) : am_Ex d 137 6 [am_N, am_N] [] M = (some ((-1), M)) := by
  refine (am_e0 rfl rfl).trans ?_
  refine (am_e1 rfl rfl).trans ?_
  exact (am_e4i rfl rfl).trans rfl
-- 138: UnlearnedHand.feed(IIIII)I
set_option maxRecDepth 10000 in
theorem aq_138 (d : Nat) (x0 x1 x2 x3 x4 x5 : Int) (M : am_M) : am_Call d 138 [(2, x0), (0, x1), (0, x2), (0, x3), (0, x4), (0, x5)] M = (am_g (am_ob x0 10) <| am_g (am_ia (am_rd M x0 7)) <| if am_w32 ((am_rd M x0 8) + 20) ≤ am_ln (am_rd M x0 7) then ((am_Call d 60 [(2, x0), (0, x1)] M).bind fun r104 => (am_Call d 60 [(2, x0), (0, x2)] r104.2).bind fun r105 => (am_Call d 60 [(2, x0), (0, x3)] r105.2).bind fun r106 => (am_Call d 60 [(2, x0), (0, x4)] r106.2).bind fun r107 => (am_Call d 60 [(2, x0), (0, x5)] r107.2).bind fun r108 => some (am_rd r108.2 x0 8, r108.2)) else (some ((-1), M))) := by
  show am_Ex d 138 0 [(2, x0), (0, x1), (0, x2), (0, x3), (0, x4), (0, x5)] [] M = _
  refine (am_e0 rfl rfl).trans ?_
  refine (am_gf (c := 10) (t := 0) rfl rfl rfl).trans (am_g_congr fun h101 => ?_)
  refine (am_e0 rfl rfl).trans ?_
  refine (am_e0 rfl rfl).trans ?_
  refine (am_e0 rfl rfl).trans ?_
  refine (am_gf (c := 10) (t := 2) rfl rfl rfl).trans ((am_g_t h101).trans ?_)
  refine (am_aln rfl).trans (am_g_congr fun h102 => ?_)
  refine (am_i_le rfl).trans (am_if_congr (fun c103 => ?_) (fun c103 => ?_))
  · refine (am_e0 rfl rfl).trans ?_
    refine (am_e0 rfl rfl).trans ?_
    refine (am_cal3 (z := 60) (k := 2) (c := (am_ob x0 10)) rfl rfl rfl rfl rfl rfl rfl rfl).trans ((am_g_t h101).trans ?_)
    refine am_bind_congr fun r104 => ?_
    show am_Ex d 138 13 [(2, x0), (0, x1), (0, x2), (0, x3), (0, x4), (0, x5)] [] r104.2 = _
    refine (am_e0 rfl rfl).trans ?_
    refine (am_e0 rfl rfl).trans ?_
    refine (am_cal3 (z := 60) (k := 2) (c := (am_ob x0 10)) rfl rfl rfl rfl rfl rfl rfl rfl).trans ((am_g_t h101).trans ?_)
    refine am_bind_congr fun r105 => ?_
    show am_Ex d 138 16 [(2, x0), (0, x1), (0, x2), (0, x3), (0, x4), (0, x5)] [] r105.2 = _
    refine (am_e0 rfl rfl).trans ?_
    refine (am_e0 rfl rfl).trans ?_
    refine (am_cal3 (z := 60) (k := 2) (c := (am_ob x0 10)) rfl rfl rfl rfl rfl rfl rfl rfl).trans ((am_g_t h101).trans ?_)
    refine am_bind_congr fun r106 => ?_
    show am_Ex d 138 19 [(2, x0), (0, x1), (0, x2), (0, x3), (0, x4), (0, x5)] [] r106.2 = _
    refine (am_e0 rfl rfl).trans ?_
    refine (am_e0 rfl rfl).trans ?_
    refine (am_cal3 (z := 60) (k := 2) (c := (am_ob x0 10)) rfl rfl rfl rfl rfl rfl rfl rfl).trans ((am_g_t h101).trans ?_)
    refine am_bind_congr fun r107 => ?_
    show am_Ex d 138 22 [(2, x0), (0, x1), (0, x2), (0, x3), (0, x4), (0, x5)] [] r107.2 = _
    refine (am_e0 rfl rfl).trans ?_
    refine (am_e0 rfl rfl).trans ?_
    refine (am_cal3 (z := 60) (k := 2) (c := (am_ob x0 10)) rfl rfl rfl rfl rfl rfl rfl rfl).trans ((am_g_t h101).trans ?_)
    refine am_bind_congr fun r108 => ?_
    show am_Ex d 138 25 [(2, x0), (0, x1), (0, x2), (0, x3), (0, x4), (0, x5)] [] r108.2 = _
    refine (am_e0 rfl rfl).trans ?_
    refine (am_gf (c := 10) (t := 0) rfl rfl rfl).trans ((am_g_t h101).trans ?_)
    exact (am_e4i rfl rfl).trans rfl
  · refine (am_e0 rfl rfl).trans ?_
    exact (am_e4i rfl rfl).trans rfl
-- 139: UnlearnedHand.by(I)Z
set_option maxRecDepth 10000 in
theorem aq_139 (d : Nat) (x0 x1 : Int) (M : am_M) : am_Call d 139 [(2, x0), (0, x1)] M = (if x1 = (-1) then (am_Ex d 139 11 [(2, x0), (0, x1)] [] M) else (am_g (am_ob x0 10) <| am_g (am_ob (am_rd M x0 0) 2) <| (am_Call d 10 [(2, am_rd M x0 0), (0, x1)] M).bind fun r104 => if r104.1 = 0 then (some (0, r104.2)) else (am_Ex d 139 11 [(2, x0), (0, x1)] [] r104.2))) := by
  show am_Ex d 139 0 [(2, x0), (0, x1)] [] M = _
  refine (am_e0 rfl rfl).trans ?_
  refine (am_e0 rfl rfl).trans ?_
  refine (am_i_eq rfl).trans (am_if_congr (fun c101 => ?_) (fun c101 => ?_))
  · exact (am_e5 rfl).trans rfl
  · refine (am_e0 rfl rfl).trans ?_
    refine (am_gf (c := 10) (t := 2) rfl rfl rfl).trans (am_g_congr fun h102 => ?_)
    refine (am_e0 rfl rfl).trans ?_
    refine (am_cal3 (z := 10) (k := 2) (c := (am_ob (am_rd M x0 0) 2)) rfl rfl rfl rfl rfl rfl rfl rfl).trans (am_g_congr fun h103 => ?_)
    refine am_bind_congr fun r104 => ?_
    show am_Ex d 139 7 [(2, x0), (0, x1)] [(0, r104.1)] r104.2 = _
    refine (am_z_ne rfl).trans (am_if_congr (fun c105 => ?_) (fun c105 => ?_))
    · refine (am_e0 rfl rfl).trans ?_
      exact (am_e4i rfl rfl).trans rfl
    · exact (am_e5 rfl).trans rfl
set_option maxRecDepth 10000 in
theorem aq_139_11 (d : Nat) (x0 x1 : Int) (M : am_M) : am_Ex d 139 11 [(2, x0), (0, x1)] [] M = (am_g (am_ob x0 10) <| am_g (am_ob (am_rd M x0 0) 2) <| am_let (am_wr M (am_rd M x0 0) 12 x1) fun M103 => some (1, M103)) := by
  refine (am_e0 rfl rfl).trans ?_
  refine (am_gf (c := 10) (t := 2) rfl rfl rfl).trans (am_g_congr fun h101 => ?_)
  refine (am_e0 rfl rfl).trans ?_
  refine (am_pf (c := 2) rfl rfl rfl).trans (am_g_congr fun h102 => ?_)
  refine am_letm (fun M103 => ?_)
  refine (am_e0 rfl rfl).trans ?_
  exact (am_e4i rfl rfl).trans rfl
-- 140: UnlearnedHand.done(IZ)I
set_option maxRecDepth 10000 in
theorem aq_140 (d : Nat) (x0 x1 x2 : Int) (M : am_M) : am_Call d 140 [(2, x0), (0, x1), (0, x2)] M = (if x1 = (-1) then (am_g (am_ob x0 10) <| am_g (am_ob (am_rd M x0 0) 2) <| am_let (am_wr M (am_rd M x0 0) 8 0) fun M104 => some (0, M104)) else (am_g (am_ob x0 10) <| am_g (am_ob (am_rd M x0 0) 2) <| (am_Call d 7 [(2, am_rd M x0 0), (0, x1)] M).bind fun r107 => if r107.1 = 0 then (some ((-2), r107.2)) else (am_g (am_ob (am_rd r107.2 x0 0) 2) <| (am_Call d 16 [(2, am_rd r107.2 x0 0), (0, x1), (0, x2)] r107.2).bind fun r110 => if r110.1 = 0 then (some ((-2), r110.2)) else (am_g (am_ob (am_rd r110.2 x0 0) 2) <| some (am_rd r110.2 (am_rd r110.2 x0 0) 8, r110.2))))) := by
  show am_Ex d 140 0 [(2, x0), (0, x1), (0, x2)] [] M = _
  refine (am_e0 rfl rfl).trans ?_
  refine (am_e0 rfl rfl).trans ?_
  refine (am_i_ne rfl).trans (am_if_congr (fun c101 => ?_) (fun c101 => ?_))
  · refine (am_e0 rfl rfl).trans ?_
    refine (am_gf (c := 10) (t := 2) rfl rfl rfl).trans (am_g_congr fun h102 => ?_)
    refine (am_e0 rfl rfl).trans ?_
    refine (am_pf (c := 2) rfl rfl rfl).trans (am_g_congr fun h103 => ?_)
    refine am_letm (fun M104 => ?_)
    refine (am_e0 rfl rfl).trans ?_
    exact (am_e4i rfl rfl).trans rfl
  · refine (am_e0 rfl rfl).trans ?_
    refine (am_gf (c := 10) (t := 2) rfl rfl rfl).trans (am_g_congr fun h105 => ?_)
    refine (am_e0 rfl rfl).trans ?_
    refine (am_cal3 (z := 7) (k := 2) (c := (am_ob (am_rd M x0 0) 2)) rfl rfl rfl rfl rfl rfl rfl rfl).trans (am_g_congr fun h106 => ?_)
    refine am_bind_congr fun r107 => ?_
    show am_Ex d 140 13 [(2, x0), (0, x1), (0, x2)] [(0, r107.1)] r107.2 = _
    refine (am_z_eq rfl).trans (am_if_congr (fun c108 => ?_) (fun c108 => ?_))
    · refine (am_e5 rfl).trans ?_
      show am_Ex d 140 25 [am_N, am_N, am_N] [] r107.2 = _
      refine (am_e0 rfl rfl).trans ?_
      exact (am_e4i rfl rfl).trans rfl
    · refine (am_e0 rfl rfl).trans ?_
      refine (am_gf (c := 10) (t := 2) rfl rfl rfl).trans ((am_g_t h105).trans ?_)
      refine (am_e0 rfl rfl).trans ?_
      refine (am_e0 rfl rfl).trans ?_
      refine (am_cal3 (z := 16) (k := 3) (c := (am_ob (am_rd r107.2 x0 0) 2)) rfl rfl rfl rfl rfl rfl rfl rfl).trans (am_g_congr fun h109 => ?_)
      refine am_bind_congr fun r110 => ?_
      show am_Ex d 140 19 [(2, x0), (0, x1), (0, x2)] [(0, r110.1)] r110.2 = _
      refine (am_z_eq rfl).trans (am_if_congr (fun c111 => ?_) (fun c111 => ?_))
      · refine (am_e5 rfl).trans ?_
        show am_Ex d 140 25 [am_N, am_N, am_N] [] r110.2 = _
        refine (am_e0 rfl rfl).trans ?_
        exact (am_e4i rfl rfl).trans rfl
      · refine (am_e0 rfl rfl).trans ?_
        refine (am_gf (c := 10) (t := 2) rfl rfl rfl).trans ((am_g_t h105).trans ?_)
        refine (am_gf (c := 2) (t := 0) rfl rfl rfl).trans (am_g_congr fun h112 => ?_)
        refine (am_e1 rfl rfl).trans ?_
        exact (am_e4i rfl rfl).trans rfl
-- 141: UnlearnedHand.back(I)I
set_option maxRecDepth 10000 in
theorem aq_141 (d : Nat) (x0 x1 : Int) (M : am_M) : am_Call d 141 [(2, x0), (0, x1)] M = (am_g (am_ob x0 10) <| am_g (am_ob (am_rd M x0 0) 2) <| (am_Call d 12 [(2, am_rd M x0 0), (0, x1)] M).bind fun r103 => if r103.1 = 0 then (some ((-1), r103.2)) else (am_g (am_ob (am_rd r103.2 x0 0) 2) <| (am_Call d 20 [(2, am_rd r103.2 x0 0), (0, x1)] r103.2).bind fun r106 => some (r106.1, r106.2))) := by
  show am_Ex d 141 0 [(2, x0), (0, x1)] [] M = _
  refine (am_e0 rfl rfl).trans ?_
  refine (am_gf (c := 10) (t := 2) rfl rfl rfl).trans (am_g_congr fun h101 => ?_)
  refine (am_e0 rfl rfl).trans ?_
  refine (am_cal3 (z := 12) (k := 2) (c := (am_ob (am_rd M x0 0) 2)) rfl rfl rfl rfl rfl rfl rfl rfl).trans (am_g_congr fun h102 => ?_)
  refine am_bind_congr fun r103 => ?_
  show am_Ex d 141 4 [(2, x0), (0, x1)] [(0, r103.1)] r103.2 = _
  refine (am_z_eq rfl).trans (am_if_congr (fun c104 => ?_) (fun c104 => ?_))
  · refine (am_e0 rfl rfl).trans ?_
    exact (am_e4i rfl rfl).trans rfl
  · refine (am_e0 rfl rfl).trans ?_
    refine (am_gf (c := 10) (t := 2) rfl rfl rfl).trans ((am_g_t h101).trans ?_)
    refine (am_e0 rfl rfl).trans ?_
    refine (am_cal3 (z := 20) (k := 2) (c := (am_ob (am_rd r103.2 x0 0) 2)) rfl rfl rfl rfl rfl rfl rfl rfl).trans (am_g_congr fun h105 => ?_)
    refine am_bind_congr fun r106 => ?_
    show am_Ex d 141 9 [(2, x0), (0, x1)] [(0, r106.1)] r106.2 = _
    refine (am_e1 rfl rfl).trans ?_
    exact (am_e4i rfl rfl).trans rfl
-- 142: UnlearnedHandModel.<init>()V
set_option maxRecDepth 10000 in
theorem aq_142 (d : Nat) (x0 : Int) (M : am_M) : am_Call d 142 [(2, x0)] M = (am_g (decide (0 < x0)) <| am_g (am_ob M.1 20 && (am_ln M.1 == 5160)) <| am_let (am_al M) fun M103 => am_g (am_ob x0 11) <| am_let (am_wr M103 x0 0 (M.1 : Int)) fun M105 => am_g (am_ob M105.1 20 && (am_ln M105.1 == 5160)) <| am_let (am_al M105) fun M107 => am_let (am_wr M107 x0 1 (M105.1 : Int)) fun M108 => am_g (am_ob M108.1 23 && (am_ln M108.1 == 300)) <| am_let (am_al M108) fun M110 => am_let (am_wr M110 x0 2 (M108.1 : Int)) fun M111 => am_let (am_wr M111 x0 4 (-1)) fun M112 => am_let (am_wr M112 x0 5 (-1)) fun M113 => am_g (am_ob M113.1 20 && (am_ln M113.1 == 4)) <| am_let (am_al M113) fun M115 => am_let (am_wr M115 x0 6 (M113.1 : Int)) fun M116 => am_g (am_ob M116.1 20 && (am_ln M116.1 == 96)) <| am_let (am_al M116) fun M118 => am_let (am_wr M118 x0 7 (M116.1 : Int)) fun M119 => am_g (am_ob M119.1 20 && (am_ln M119.1 == 96)) <| am_let (am_al M119) fun M121 => am_let (am_wr M121 x0 8 (M119.1 : Int)) fun M122 => am_g (am_ob M122.1 20 && (am_ln M122.1 == 96)) <| am_let (am_al M122) fun M124 => am_let (am_wr M124 x0 9 (M122.1 : Int)) fun M125 => am_g (am_ob M125.1 20 && (am_ln M125.1 == 96)) <| am_let (am_al M125) fun M127 => am_let (am_wr M127 x0 10 (M125.1 : Int)) fun M128 => am_g (am_ob M128.1 20 && (am_ln M128.1 == 96)) <| am_let (am_al M128) fun M130 => am_let (am_wr M130 x0 11 (M128.1 : Int)) fun M131 => am_g (am_ob M131.1 20 && (am_ln M131.1 == 1600)) <| am_let (am_al M131) fun M133 => am_let (am_wr M133 x0 12 (M131.1 : Int)) fun M134 => am_g (am_ob M134.1 20 && (am_ln M134.1 == 1600)) <| am_let (am_al M134) fun M136 => am_let (am_wr M136 x0 13 (M134.1 : Int)) fun M137 => am_g (am_ob M137.1 20 && (am_ln M137.1 == 40)) <| am_let (am_al M137) fun M139 => am_let (am_wr M139 x0 23 (M137.1 : Int)) fun M140 => am_g (am_ob M140.1 20 && (am_ln M140.1 == 41)) <| am_let (am_al M140) fun M142 => am_let (am_wr M142 x0 24 (M140.1 : Int)) fun M143 => am_g (am_ob M143.1 20 && (am_ln M143.1 == 80)) <| am_let (am_al M143) fun M145 => am_let (am_wr M145 x0 26 (M143.1 : Int)) fun M146 => am_g (am_ob M146.1 20 && (am_ln M146.1 == 80)) <| am_let (am_al M146) fun M148 => am_let (am_wr M148 x0 27 (M146.1 : Int)) fun M149 => am_g (am_ob M149.1 20 && (am_ln M149.1 == 24)) <| am_let (am_al M149) fun M151 => am_let (am_wr M151 x0 31 (M149.1 : Int)) fun M152 => am_g (am_ob M152.1 20 && (am_ln M152.1 == 24)) <| am_let (am_al M152) fun M154 => am_let (am_wr M154 x0 32 (M152.1 : Int)) fun M155 => am_g (am_ob M155.1 20 && (am_ln M155.1 == 24)) <| am_let (am_al M155) fun M157 => am_let (am_wr M157 x0 33 (M155.1 : Int)) fun M158 => am_g (am_ob M158.1 20 && (am_ln M158.1 == 24)) <| am_let (am_al M158) fun M160 => am_let (am_wr M160 x0 34 (M158.1 : Int)) fun M161 => am_g (am_ob M161.1 20 && (am_ln M161.1 == 24)) <| am_let (am_al M161) fun M163 => am_let (am_wr M163 x0 35 (M161.1 : Int)) fun M164 => am_g (am_ob M164.1 20 && (am_ln M164.1 == 400)) <| am_let (am_al M164) fun M166 => am_let (am_wr M166 x0 37 (M164.1 : Int)) fun M167 => am_g (am_ob M167.1 20 && (am_ln M167.1 == 400)) <| am_let (am_al M167) fun M169 => am_let (am_wr M169 x0 38 (M167.1 : Int)) fun M170 => am_g (am_ob M170.1 20 && (am_ln M170.1 == 9)) <| am_let (am_al M170) fun M172 => am_let (am_wr M172 x0 39 (M170.1 : Int)) fun M173 => am_g (am_ob M173.1 21 && (am_ln M173.1 == 200)) <| am_let (am_al M173) fun M175 => am_let (am_wr M175 x0 40 (M173.1 : Int)) fun M176 => am_g (am_ob M176.1 20 && (am_ln M176.1 == 48)) <| am_let (am_al M176) fun M178 => am_let (am_wr M178 x0 41 (M176.1 : Int)) fun M179 => am_g (am_ob M179.1 20 && (am_ln M179.1 == 48)) <| am_let (am_al M179) fun M181 => am_let (am_wr M181 x0 42 (M179.1 : Int)) fun M182 => am_g (am_ob M182.1 20 && (am_ln M182.1 == 48)) <| am_let (am_al M182) fun M184 => am_let (am_wr M184 x0 43 (M182.1 : Int)) fun M185 => am_g (am_ob M185.1 20 && (am_ln M185.1 == 6)) <| am_let (am_al M185) fun M187 => am_let (am_wr M187 x0 44 (M185.1 : Int)) fun M188 => am_g (am_ob M188.1 20 && (am_ln M188.1 == 6)) <| am_let (am_al M188) fun M190 => am_let (am_wr M190 x0 45 (M188.1 : Int)) fun M191 => am_g (am_ob M191.1 20 && (am_ln M191.1 == 6)) <| am_let (am_al M191) fun M193 => am_let (am_wr M193 x0 46 (M191.1 : Int)) fun M194 => am_g (am_ob M194.1 20 && (am_ln M194.1 == 4)) <| am_let (am_al M194) fun M196 => am_let (am_wr M196 x0 48 (M194.1 : Int)) fun M197 => am_g (am_ob M197.1 20 && (am_ln M197.1 == 4)) <| am_let (am_al M197) fun M199 => am_let (am_wr M199 x0 49 (M197.1 : Int)) fun M200 => am_g (am_ob M200.1 20 && (am_ln M200.1 == 8)) <| am_let (am_al M200) fun M202 => am_let (am_wr M202 x0 50 (M200.1 : Int)) fun M203 => am_g (am_ob M203.1 20 && (am_ln M203.1 == 6)) <| am_let (am_al M203) fun M205 => am_let (am_wr M205 x0 51 (M203.1 : Int)) fun M206 => am_g (am_ob M206.1 20 && (am_ln M206.1 == 6)) <| am_let (am_al M206) fun M208 => am_let (am_wr M208 x0 52 (M206.1 : Int)) fun M209 => am_g (am_ob M209.1 20 && (am_ln M209.1 == 6)) <| am_let (am_al M209) fun M211 => am_let (am_wr M211 x0 53 (M209.1 : Int)) fun M212 => am_g (am_ar (am_rd M212 x0 0) 20 4) <| am_let (am_wr M212 (am_rd M212 x0 0) 4 (-1)) fun M214 => am_g (am_ar (am_rd M214 x0 0) 20 223) <| am_let (am_wr M214 (am_rd M214 x0 0) 223 73) fun M216 => (am_Call d 67 [(2, x0), (0, 1)] M216).bind fun r217 => some (0, r217.2)) := by
  show am_Ex d 142 0 [(2, x0)] [] M = _
  refine (am_e0 rfl rfl).trans ?_
  refine (am_e8 rfl rfl).trans (am_g_congr fun h101 => ?_)
  refine (am_e0 rfl rfl).trans ?_
  refine (am_e0 rfl rfl).trans ?_
  refine (am_nwa (c := 20) rfl rfl).trans (am_g_congr fun h102 => ?_)
  refine am_letm (fun M103 => ?_)
  refine (am_pf (c := 11) rfl rfl rfl).trans (am_g_congr fun h104 => ?_)
  refine am_letm (fun M105 => ?_)
  refine (am_e0 rfl rfl).trans ?_
  refine (am_e0 rfl rfl).trans ?_
  refine (am_nwa (c := 20) rfl rfl).trans (am_g_congr fun h106 => ?_)
  refine am_letm (fun M107 => ?_)
  refine (am_pf (c := 11) rfl rfl rfl).trans ((am_g_t h104).trans ?_)
  refine am_letm (fun M108 => ?_)
  refine (am_e0 rfl rfl).trans ?_
  refine (am_e0 rfl rfl).trans ?_
  refine (am_nwa (c := 23) rfl rfl).trans (am_g_congr fun h109 => ?_)
  refine am_letm (fun M110 => ?_)
  refine (am_pf (c := 11) rfl rfl rfl).trans ((am_g_t h104).trans ?_)
  refine am_letm (fun M111 => ?_)
  refine (am_e0 rfl rfl).trans ?_
  refine (am_e0 rfl rfl).trans ?_
  refine (am_pf (c := 11) rfl rfl rfl).trans ((am_g_t h104).trans ?_)
  refine am_letm (fun M112 => ?_)
  refine (am_e0 rfl rfl).trans ?_
  refine (am_e0 rfl rfl).trans ?_
  refine (am_pf (c := 11) rfl rfl rfl).trans ((am_g_t h104).trans ?_)
  refine am_letm (fun M113 => ?_)
  refine (am_e0 rfl rfl).trans ?_
  refine (am_e0 rfl rfl).trans ?_
  refine (am_nwa (c := 20) rfl rfl).trans (am_g_congr fun h114 => ?_)
  refine am_letm (fun M115 => ?_)
  refine (am_pf (c := 11) rfl rfl rfl).trans ((am_g_t h104).trans ?_)
  refine am_letm (fun M116 => ?_)
  refine (am_e0 rfl rfl).trans ?_
  refine (am_e0 rfl rfl).trans ?_
  refine (am_nwa (c := 20) rfl rfl).trans (am_g_congr fun h117 => ?_)
  refine am_letm (fun M118 => ?_)
  refine (am_pf (c := 11) rfl rfl rfl).trans ((am_g_t h104).trans ?_)
  refine am_letm (fun M119 => ?_)
  refine (am_e0 rfl rfl).trans ?_
  refine (am_e0 rfl rfl).trans ?_
  refine (am_nwa (c := 20) rfl rfl).trans (am_g_congr fun h120 => ?_)
  refine am_letm (fun M121 => ?_)
  refine (am_pf (c := 11) rfl rfl rfl).trans ((am_g_t h104).trans ?_)
  refine am_letm (fun M122 => ?_)
  refine (am_e0 rfl rfl).trans ?_
  refine (am_e0 rfl rfl).trans ?_
  refine (am_nwa (c := 20) rfl rfl).trans (am_g_congr fun h123 => ?_)
  refine am_letm (fun M124 => ?_)
  refine (am_pf (c := 11) rfl rfl rfl).trans ((am_g_t h104).trans ?_)
  refine am_letm (fun M125 => ?_)
  refine (am_e0 rfl rfl).trans ?_
  refine (am_e0 rfl rfl).trans ?_
  refine (am_nwa (c := 20) rfl rfl).trans (am_g_congr fun h126 => ?_)
  refine am_letm (fun M127 => ?_)
  refine (am_pf (c := 11) rfl rfl rfl).trans ((am_g_t h104).trans ?_)
  refine am_letm (fun M128 => ?_)
  refine (am_e0 rfl rfl).trans ?_
  refine (am_e0 rfl rfl).trans ?_
  refine (am_nwa (c := 20) rfl rfl).trans (am_g_congr fun h129 => ?_)
  refine am_letm (fun M130 => ?_)
  refine (am_pf (c := 11) rfl rfl rfl).trans ((am_g_t h104).trans ?_)
  refine am_letm (fun M131 => ?_)
  refine (am_e0 rfl rfl).trans ?_
  refine (am_e0 rfl rfl).trans ?_
  refine (am_nwa (c := 20) rfl rfl).trans (am_g_congr fun h132 => ?_)
  refine am_letm (fun M133 => ?_)
  refine (am_pf (c := 11) rfl rfl rfl).trans ((am_g_t h104).trans ?_)
  refine am_letm (fun M134 => ?_)
  refine (am_e0 rfl rfl).trans ?_
  refine (am_e0 rfl rfl).trans ?_
  refine (am_nwa (c := 20) rfl rfl).trans (am_g_congr fun h135 => ?_)
  refine am_letm (fun M136 => ?_)
  refine (am_pf (c := 11) rfl rfl rfl).trans ((am_g_t h104).trans ?_)
  refine am_letm (fun M137 => ?_)
  refine (am_e0 rfl rfl).trans ?_
  refine (am_e0 rfl rfl).trans ?_
  refine (am_nwa (c := 20) rfl rfl).trans (am_g_congr fun h138 => ?_)
  refine am_letm (fun M139 => ?_)
  refine (am_pf (c := 11) rfl rfl rfl).trans ((am_g_t h104).trans ?_)
  refine am_letm (fun M140 => ?_)
  refine (am_e0 rfl rfl).trans ?_
  refine (am_e0 rfl rfl).trans ?_
  refine (am_nwa (c := 20) rfl rfl).trans (am_g_congr fun h141 => ?_)
  refine am_letm (fun M142 => ?_)
  refine (am_pf (c := 11) rfl rfl rfl).trans ((am_g_t h104).trans ?_)
  refine am_letm (fun M143 => ?_)
  refine (am_e0 rfl rfl).trans ?_
  refine (am_e0 rfl rfl).trans ?_
  refine (am_nwa (c := 20) rfl rfl).trans (am_g_congr fun h144 => ?_)
  refine am_letm (fun M145 => ?_)
  refine (am_pf (c := 11) rfl rfl rfl).trans ((am_g_t h104).trans ?_)
  refine am_letm (fun M146 => ?_)
  refine (am_e0 rfl rfl).trans ?_
  refine (am_e0 rfl rfl).trans ?_
  refine (am_nwa (c := 20) rfl rfl).trans (am_g_congr fun h147 => ?_)
  refine am_letm (fun M148 => ?_)
  refine (am_pf (c := 11) rfl rfl rfl).trans ((am_g_t h104).trans ?_)
  refine am_letm (fun M149 => ?_)
  refine (am_e0 rfl rfl).trans ?_
  refine (am_e0 rfl rfl).trans ?_
  refine (am_nwa (c := 20) rfl rfl).trans (am_g_congr fun h150 => ?_)
  refine am_letm (fun M151 => ?_)
  refine (am_pf (c := 11) rfl rfl rfl).trans ((am_g_t h104).trans ?_)
  refine am_letm (fun M152 => ?_)
  refine (am_e0 rfl rfl).trans ?_
  refine (am_e0 rfl rfl).trans ?_
  refine (am_nwa (c := 20) rfl rfl).trans (am_g_congr fun h153 => ?_)
  refine am_letm (fun M154 => ?_)
  refine (am_pf (c := 11) rfl rfl rfl).trans ((am_g_t h104).trans ?_)
  refine am_letm (fun M155 => ?_)
  refine (am_e0 rfl rfl).trans ?_
  refine (am_e0 rfl rfl).trans ?_
  refine (am_nwa (c := 20) rfl rfl).trans (am_g_congr fun h156 => ?_)
  refine am_letm (fun M157 => ?_)
  refine (am_pf (c := 11) rfl rfl rfl).trans ((am_g_t h104).trans ?_)
  refine am_letm (fun M158 => ?_)
  refine (am_e0 rfl rfl).trans ?_
  refine (am_e0 rfl rfl).trans ?_
  refine (am_nwa (c := 20) rfl rfl).trans (am_g_congr fun h159 => ?_)
  refine am_letm (fun M160 => ?_)
  refine (am_pf (c := 11) rfl rfl rfl).trans ((am_g_t h104).trans ?_)
  refine am_letm (fun M161 => ?_)
  refine (am_e0 rfl rfl).trans ?_
  refine (am_e0 rfl rfl).trans ?_
  refine (am_nwa (c := 20) rfl rfl).trans (am_g_congr fun h162 => ?_)
  refine am_letm (fun M163 => ?_)
  refine (am_pf (c := 11) rfl rfl rfl).trans ((am_g_t h104).trans ?_)
  refine am_letm (fun M164 => ?_)
  refine (am_e0 rfl rfl).trans ?_
  refine (am_e0 rfl rfl).trans ?_
  refine (am_nwa (c := 20) rfl rfl).trans (am_g_congr fun h165 => ?_)
  refine am_letm (fun M166 => ?_)
  refine (am_pf (c := 11) rfl rfl rfl).trans ((am_g_t h104).trans ?_)
  refine am_letm (fun M167 => ?_)
  refine (am_e0 rfl rfl).trans ?_
  refine (am_e0 rfl rfl).trans ?_
  refine (am_nwa (c := 20) rfl rfl).trans (am_g_congr fun h168 => ?_)
  refine am_letm (fun M169 => ?_)
  refine (am_pf (c := 11) rfl rfl rfl).trans ((am_g_t h104).trans ?_)
  refine am_letm (fun M170 => ?_)
  refine (am_e0 rfl rfl).trans ?_
  refine (am_e0 rfl rfl).trans ?_
  refine (am_nwa (c := 20) rfl rfl).trans (am_g_congr fun h171 => ?_)
  refine am_letm (fun M172 => ?_)
  refine (am_pf (c := 11) rfl rfl rfl).trans ((am_g_t h104).trans ?_)
  refine am_letm (fun M173 => ?_)
  refine (am_e0 rfl rfl).trans ?_
  refine (am_e0 rfl rfl).trans ?_
  refine (am_nwa (c := 21) rfl rfl).trans (am_g_congr fun h174 => ?_)
  refine am_letm (fun M175 => ?_)
  refine (am_pf (c := 11) rfl rfl rfl).trans ((am_g_t h104).trans ?_)
  refine am_letm (fun M176 => ?_)
  refine (am_e0 rfl rfl).trans ?_
  refine (am_e0 rfl rfl).trans ?_
  refine (am_nwa (c := 20) rfl rfl).trans (am_g_congr fun h177 => ?_)
  refine am_letm (fun M178 => ?_)
  refine (am_pf (c := 11) rfl rfl rfl).trans ((am_g_t h104).trans ?_)
  refine am_letm (fun M179 => ?_)
  refine (am_e0 rfl rfl).trans ?_
  refine (am_e0 rfl rfl).trans ?_
  refine (am_nwa (c := 20) rfl rfl).trans (am_g_congr fun h180 => ?_)
  refine am_letm (fun M181 => ?_)
  refine (am_pf (c := 11) rfl rfl rfl).trans ((am_g_t h104).trans ?_)
  refine am_letm (fun M182 => ?_)
  refine (am_e0 rfl rfl).trans ?_
  refine (am_e0 rfl rfl).trans ?_
  refine (am_nwa (c := 20) rfl rfl).trans (am_g_congr fun h183 => ?_)
  refine am_letm (fun M184 => ?_)
  refine (am_pf (c := 11) rfl rfl rfl).trans ((am_g_t h104).trans ?_)
  refine am_letm (fun M185 => ?_)
  refine (am_e0 rfl rfl).trans ?_
  refine (am_e0 rfl rfl).trans ?_
  refine (am_nwa (c := 20) rfl rfl).trans (am_g_congr fun h186 => ?_)
  refine am_letm (fun M187 => ?_)
  refine (am_pf (c := 11) rfl rfl rfl).trans ((am_g_t h104).trans ?_)
  refine am_letm (fun M188 => ?_)
  refine (am_e0 rfl rfl).trans ?_
  refine (am_e0 rfl rfl).trans ?_
  refine (am_nwa (c := 20) rfl rfl).trans (am_g_congr fun h189 => ?_)
  refine am_letm (fun M190 => ?_)
  refine (am_pf (c := 11) rfl rfl rfl).trans ((am_g_t h104).trans ?_)
  refine am_letm (fun M191 => ?_)
  refine (am_e0 rfl rfl).trans ?_
  refine (am_e0 rfl rfl).trans ?_
  refine (am_nwa (c := 20) rfl rfl).trans (am_g_congr fun h192 => ?_)
  refine am_letm (fun M193 => ?_)
  refine (am_pf (c := 11) rfl rfl rfl).trans ((am_g_t h104).trans ?_)
  refine am_letm (fun M194 => ?_)
  refine (am_e0 rfl rfl).trans ?_
  refine (am_e0 rfl rfl).trans ?_
  refine (am_nwa (c := 20) rfl rfl).trans (am_g_congr fun h195 => ?_)
  refine am_letm (fun M196 => ?_)
  refine (am_pf (c := 11) rfl rfl rfl).trans ((am_g_t h104).trans ?_)
  refine am_letm (fun M197 => ?_)
  refine (am_e0 rfl rfl).trans ?_
  refine (am_e0 rfl rfl).trans ?_
  refine (am_nwa (c := 20) rfl rfl).trans (am_g_congr fun h198 => ?_)
  refine am_letm (fun M199 => ?_)
  refine (am_pf (c := 11) rfl rfl rfl).trans ((am_g_t h104).trans ?_)
  refine am_letm (fun M200 => ?_)
  refine (am_e0 rfl rfl).trans ?_
  refine (am_e0 rfl rfl).trans ?_
  refine (am_nwa (c := 20) rfl rfl).trans (am_g_congr fun h201 => ?_)
  refine am_letm (fun M202 => ?_)
  refine (am_pf (c := 11) rfl rfl rfl).trans ((am_g_t h104).trans ?_)
  refine am_letm (fun M203 => ?_)
  refine (am_e0 rfl rfl).trans ?_
  refine (am_e0 rfl rfl).trans ?_
  refine (am_nwa (c := 20) rfl rfl).trans (am_g_congr fun h204 => ?_)
  refine am_letm (fun M205 => ?_)
  refine (am_pf (c := 11) rfl rfl rfl).trans ((am_g_t h104).trans ?_)
  refine am_letm (fun M206 => ?_)
  refine (am_e0 rfl rfl).trans ?_
  refine (am_e0 rfl rfl).trans ?_
  refine (am_nwa (c := 20) rfl rfl).trans (am_g_congr fun h207 => ?_)
  refine am_letm (fun M208 => ?_)
  refine (am_pf (c := 11) rfl rfl rfl).trans ((am_g_t h104).trans ?_)
  refine am_letm (fun M209 => ?_)
  refine (am_e0 rfl rfl).trans ?_
  refine (am_e0 rfl rfl).trans ?_
  refine (am_nwa (c := 20) rfl rfl).trans (am_g_congr fun h210 => ?_)
  refine am_letm (fun M211 => ?_)
  refine (am_pf (c := 11) rfl rfl rfl).trans ((am_g_t h104).trans ?_)
  refine am_letm (fun M212 => ?_)
  refine (am_e0 rfl rfl).trans ?_
  refine (am_gf (c := 11) (t := 2) rfl rfl rfl).trans ((am_g_t h104).trans ?_)
  refine (am_e0 rfl rfl).trans ?_
  refine (am_e0 rfl rfl).trans ?_
  refine (am_ias rfl).trans (am_g_congr fun h213 => ?_)
  refine am_letm (fun M214 => ?_)
  refine (am_e0 rfl rfl).trans ?_
  refine (am_gf (c := 11) (t := 2) rfl rfl rfl).trans ((am_g_t h104).trans ?_)
  refine (am_e0 rfl rfl).trans ?_
  refine (am_e0 rfl rfl).trans ?_
  refine (am_ias rfl).trans (am_g_congr fun h215 => ?_)
  refine am_letm (fun M216 => ?_)
  refine (am_e0 rfl rfl).trans ?_
  refine (am_e0 rfl rfl).trans ?_
  refine (am_cal3 (z := 67) (k := 2) (c := (am_ob x0 11)) rfl rfl rfl rfl rfl rfl rfl rfl).trans ((am_g_t h104).trans ?_)
  refine am_bind_congr fun r217 => ?_
  show am_Ex d 142 165 [(2, x0)] [] r217.2 = _
  exact (am_e4v rfl rfl).trans rfl
-- 143: UnlearnedHandModel.isTurn(I)Z
set_option maxRecDepth 10000 in
theorem aq_143 (d : Nat) (x0 x1 : Int) (M : am_M) : am_Call d 143 [(2, x0), (0, x1)] M = (am_g (am_ob x0 11) <| am_g (am_ar (am_rd M x0 0) 20 0) <| (am_Call d 64 [(0, x1), (0, 0), (0, am_w32 ((am_rd M (am_rd M x0 0) 0) - 1))] M).bind fun r103 => am_g (r103.1 == 0 || r103.1 == 1) (some (r103.1, r103.2))) := by
  show am_Ex d 143 0 [(2, x0), (0, x1)] [] M = _
  refine (am_e0 rfl rfl).trans ?_
  refine (am_e0 rfl rfl).trans ?_
  refine (am_e0 rfl rfl).trans ?_
  refine (am_gf (c := 11) (t := 2) rfl rfl rfl).trans (am_g_congr fun h101 => ?_)
  refine (am_e0 rfl rfl).trans ?_
  refine (am_ial rfl).trans (am_g_congr fun h102 => ?_)
  refine (am_e0 rfl rfl).trans ?_
  refine (am_e0 rfl rfl).trans ?_
  refine (am_cal3 (z := 64) (k := 3) (c := true) rfl rfl rfl rfl rfl rfl rfl rfl).trans ((am_g_t rfl).trans ?_)
  refine am_bind_congr fun r103 => ?_
  show am_Ex d 143 9 [(2, x0), (0, x1)] [(0, r103.1)] r103.2 = _
  exact (am_e4z rfl rfl).trans rfl
-- 144: UnlearnedHandModel.isMan(I)Z
set_option maxRecDepth 10000 in
theorem aq_144 (d : Nat) (x0 x1 : Int) (M : am_M) : am_Call d 144 [(2, x0), (0, x1)] M = (am_g (am_ob x0 11) <| am_g (am_ar (am_rd M x0 0) 20 1) <| (am_Call d 64 [(0, x1), (0, 0), (0, am_w32 ((am_rd M (am_rd M x0 0) 1) - 1))] M).bind fun r103 => am_g (r103.1 == 0 || r103.1 == 1) (some (r103.1, r103.2))) := by
  show am_Ex d 144 0 [(2, x0), (0, x1)] [] M = _
  refine (am_e0 rfl rfl).trans ?_
  refine (am_e0 rfl rfl).trans ?_
  refine (am_e0 rfl rfl).trans ?_
  refine (am_gf (c := 11) (t := 2) rfl rfl rfl).trans (am_g_congr fun h101 => ?_)
  refine (am_e0 rfl rfl).trans ?_
  refine (am_ial rfl).trans (am_g_congr fun h102 => ?_)
  refine (am_e0 rfl rfl).trans ?_
  refine (am_e0 rfl rfl).trans ?_
  refine (am_cal3 (z := 64) (k := 3) (c := true) rfl rfl rfl rfl rfl rfl rfl rfl).trans ((am_g_t rfl).trans ?_)
  refine am_bind_congr fun r103 => ?_
  show am_Ex d 144 9 [(2, x0), (0, x1)] [(0, r103.1)] r103.2 = _
  exact (am_e4z rfl rfl).trans rfl
-- 145: UnlearnedHandModel.areTurns(I)Z
set_option maxRecDepth 10000 in
theorem aq_145 (d : Nat) (x0 x1 : Int) (M : am_M) : am_Call d 145 [(2, x0), (0, x1)] M = (am_g (am_ob x0 11) <| am_g (am_ar (am_rd M x0 0) 20 0) <| (am_Call d 64 [(0, x1), (0, 0), (0, am_w32 ((am_shl 1 (am_rd M (am_rd M x0 0) 0)) - 1))] M).bind fun r103 => am_g (r103.1 == 0 || r103.1 == 1) (some (r103.1, r103.2))) := by
  show am_Ex d 145 0 [(2, x0), (0, x1)] [] M = _
  refine (am_e0 rfl rfl).trans ?_
  refine (am_e0 rfl rfl).trans ?_
  refine (am_e0 rfl rfl).trans ?_
  refine (am_e0 rfl rfl).trans ?_
  refine (am_gf (c := 11) (t := 2) rfl rfl rfl).trans (am_g_congr fun h101 => ?_)
  refine (am_e0 rfl rfl).trans ?_
  refine (am_ial rfl).trans (am_g_congr fun h102 => ?_)
  refine (am_e0 rfl rfl).trans ?_
  refine (am_e0 rfl rfl).trans ?_
  refine (am_e0 rfl rfl).trans ?_
  refine (am_cal3 (z := 64) (k := 3) (c := true) rfl rfl rfl rfl rfl rfl rfl rfl).trans ((am_g_t rfl).trans ?_)
  refine am_bind_congr fun r103 => ?_
  show am_Ex d 145 11 [(2, x0), (0, x1)] [(0, r103.1)] r103.2 = _
  exact (am_e4z rfl rfl).trans rfl
-- 146: UnlearnedHandModel.turn(I)I
set_option maxRecDepth 10000 in
theorem aq_146 (d : Nat) (x0 x1 : Int) (M : am_M) : am_Call d 146 [(2, x0), (0, x1)] M = (am_g (am_ob x0 11) <| am_g (am_ar (am_rd M x0 0) 20 0) <| am_let (am_rd M (am_rd M x0 0) 0) fun v103 => (am_Call d 64 [(0, x1), (0, 1), (0, 99)] M).bind fun r104 => if r104.1 = 0 then (some ((-1), r104.2)) else (if v103 = 8 then (some ((-1), r104.2)) else (am_g (am_ar (am_rd r104.2 x0 0) 20 (am_w32 (10 + v103))) <| am_let (am_wr r104.2 (am_rd r104.2 x0 0) (am_w32 (10 + v103)) x1) fun M108 => am_g (am_ar (am_rd M108 x0 0) 20 0) <| am_let (am_wr M108 (am_rd M108 x0 0) 0 (am_w32 ((am_rd M108 (am_rd M108 x0 0) 0) + 1))) fun M110 => some (v103, M110)))) := by
  show am_Ex d 146 0 [(2, x0), (0, x1), am_N] [] M = _
  refine (am_e0 rfl rfl).trans ?_
  refine (am_gf (c := 11) (t := 2) rfl rfl rfl).trans (am_g_congr fun h101 => ?_)
  refine (am_e0 rfl rfl).trans ?_
  refine (am_ial rfl).trans (am_g_congr fun h102 => ?_)
  refine (am_e0 rfl rfl).trans ?_
  refine am_lets (L := fun v103 => [(2, x0), (0, x1), (0, v103)]) (fun v103 => ?_)
  refine (am_e0 rfl rfl).trans ?_
  refine (am_e0 rfl rfl).trans ?_
  refine (am_e0 rfl rfl).trans ?_
  refine (am_cal3 (z := 64) (k := 3) (c := true) rfl rfl rfl rfl rfl rfl rfl rfl).trans ((am_g_t rfl).trans ?_)
  refine am_bind_congr fun r104 => ?_
  show am_Ex d 146 9 [(2, x0), (0, x1), (0, v103)] [(0, r104.1)] r104.2 = _
  refine (am_z_eq rfl).trans (am_if_congr (fun c105 => ?_) (fun c105 => ?_))
  · refine (am_e5 rfl).trans ?_
    show am_Ex d 146 14 [am_N, am_N, am_N] [] r104.2 = _
    refine (am_e0 rfl rfl).trans ?_
    exact (am_e4i rfl rfl).trans rfl
  · refine (am_e0 rfl rfl).trans ?_
    refine (am_e0 rfl rfl).trans ?_
    refine (am_i_ne rfl).trans (am_if_congr (fun c106 => ?_) (fun c106 => ?_))
    · refine (am_e5 rfl).trans ?_
      show am_Ex d 146 14 [am_N, am_N, am_N] [] r104.2 = _
      refine (am_e0 rfl rfl).trans ?_
      exact (am_e4i rfl rfl).trans rfl
    · refine (am_e0 rfl rfl).trans ?_
      refine (am_gf (c := 11) (t := 2) rfl rfl rfl).trans ((am_g_t h101).trans ?_)
      refine (am_e0 rfl rfl).trans ?_
      refine (am_e0 rfl rfl).trans ?_
      refine (am_e0 rfl rfl).trans ?_
      refine (am_e0 rfl rfl).trans ?_
      refine (am_ias rfl).trans (am_g_congr fun h107 => ?_)
      refine am_letm (fun M108 => ?_)
      refine (am_e0 rfl rfl).trans ?_
      refine (am_gf (c := 11) (t := 2) rfl rfl rfl).trans ((am_g_t h101).trans ?_)
      refine (am_e0 rfl rfl).trans ?_
      refine (am_e0 rfl rfl).trans ?_
      refine (am_ial rfl).trans (am_g_congr fun h109 => ?_)
      refine (am_e0 rfl rfl).trans ?_
      refine (am_e0 rfl rfl).trans ?_
      refine (am_ias rfl).trans ((am_g_t h109).trans ?_)
      refine am_letm (fun M110 => ?_)
      refine (am_e0 rfl rfl).trans ?_
      exact (am_e4i rfl rfl).trans rfl
-- 147: UnlearnedHandModel.man(I)I
set_option maxRecDepth 10000 in
theorem aq_147 (d : Nat) (x0 x1 : Int) (M : am_M) : am_Call d 147 [(2, x0), (0, x1)] M = (am_g (am_ob x0 11) <| am_g (am_ar (am_rd M x0 0) 20 1) <| am_let (am_rd M (am_rd M x0 0) 1) fun v103 => (am_Call d 64 [(0, x1), (0, 0), (0, 9)] M).bind fun r104 => if r104.1 = 0 then (some ((-1), r104.2)) else (if v103 = 6 then (some ((-1), r104.2)) else (am_g (am_ar (am_rd r104.2 x0 0) 20 (am_w32 (26 + v103))) <| am_let (am_wr r104.2 (am_rd r104.2 x0 0) (am_w32 (26 + v103)) x1) fun M108 => am_g (am_ar (am_rd M108 x0 0) 20 (am_w32 (210 + v103))) <| am_let (am_wr M108 (am_rd M108 x0 0) (am_w32 (210 + v103)) (-1)) fun M110 => am_Ex d 147 33 [(2, x0), am_N, (0, v103), (0, 0)] [] M110))) := by
  show am_Ex d 147 0 [(2, x0), (0, x1), am_N, am_N] [] M = _
  refine (am_e0 rfl rfl).trans ?_
  refine (am_gf (c := 11) (t := 2) rfl rfl rfl).trans (am_g_congr fun h101 => ?_)
  refine (am_e0 rfl rfl).trans ?_
  refine (am_ial rfl).trans (am_g_congr fun h102 => ?_)
  refine (am_e0 rfl rfl).trans ?_
  refine am_lets (L := fun v103 => [(2, x0), (0, x1), (0, v103), am_N]) (fun v103 => ?_)
  refine (am_e0 rfl rfl).trans ?_
  refine (am_e0 rfl rfl).trans ?_
  refine (am_e0 rfl rfl).trans ?_
  refine (am_cal3 (z := 64) (k := 3) (c := true) rfl rfl rfl rfl rfl rfl rfl rfl).trans ((am_g_t rfl).trans ?_)
  refine am_bind_congr fun r104 => ?_
  show am_Ex d 147 9 [(2, x0), (0, x1), (0, v103), am_N] [(0, r104.1)] r104.2 = _
  refine (am_z_eq rfl).trans (am_if_congr (fun c105 => ?_) (fun c105 => ?_))
  · refine (am_e5 rfl).trans ?_
    show am_Ex d 147 14 [am_N, am_N, am_N, am_N] [] r104.2 = _
    refine (am_e0 rfl rfl).trans ?_
    exact (am_e4i rfl rfl).trans rfl
  · refine (am_e0 rfl rfl).trans ?_
    refine (am_e0 rfl rfl).trans ?_
    refine (am_i_ne rfl).trans (am_if_congr (fun c106 => ?_) (fun c106 => ?_))
    · refine (am_e5 rfl).trans ?_
      show am_Ex d 147 14 [am_N, am_N, am_N, am_N] [] r104.2 = _
      refine (am_e0 rfl rfl).trans ?_
      exact (am_e4i rfl rfl).trans rfl
    · refine (am_e0 rfl rfl).trans ?_
      refine (am_gf (c := 11) (t := 2) rfl rfl rfl).trans ((am_g_t h101).trans ?_)
      refine (am_e0 rfl rfl).trans ?_
      refine (am_e0 rfl rfl).trans ?_
      refine (am_e0 rfl rfl).trans ?_
      refine (am_e0 rfl rfl).trans ?_
      refine (am_ias rfl).trans (am_g_congr fun h107 => ?_)
      refine am_letm (fun M108 => ?_)
      refine (am_e0 rfl rfl).trans ?_
      refine (am_gf (c := 11) (t := 2) rfl rfl rfl).trans ((am_g_t h101).trans ?_)
      refine (am_e0 rfl rfl).trans ?_
      refine (am_e0 rfl rfl).trans ?_
      refine (am_e0 rfl rfl).trans ?_
      refine (am_e0 rfl rfl).trans ?_
      refine (am_ias rfl).trans (am_g_congr fun h109 => ?_)
      refine am_letm (fun M110 => ?_)
      refine (am_e0 rfl rfl).trans ?_
      refine (am_e0 rfl rfl).trans ?_
      exact (am_e5 rfl).trans rfl
set_option maxRecDepth 10000 in
theorem aq_147_33 (d : Nat) (x0 x2 x3 : Int) (M : am_M) : am_Ex d 147 33 [(2, x0), am_N, (0, x2), (0, x3)] [] M = (am_g (am_ob x0 11) <| am_g (am_ar (am_rd M x0 0) 20 5) <| if x3 < am_rd M (am_rd M x0 0) 5 then (am_g (am_ar (am_rd M x0 0) 20 (am_w32 ((am_w32 ((am_w32 ((am_w32 (240 + (am_w32 (164 * x3)))) + 210)) - 60)) + x2))) <| am_let (am_wr M (am_rd M x0 0) (am_w32 ((am_w32 ((am_w32 ((am_w32 (240 + (am_w32 (164 * x3)))) + 210)) - 60)) + x2)) (-1)) fun M105 => am_let (am_w32 (x3 + 1)) fun v106 => am_Ex d 147 33 [(2, x0), am_N, (0, x2), (0, v106)] [] M105) else (am_g (am_ar (am_rd M x0 0) 20 1) <| am_let (am_wr M (am_rd M x0 0) 1 (am_w32 ((am_rd M (am_rd M x0 0) 1) + 1))) fun M108 => some (x2, M108))) := by
  refine (am_e0 rfl rfl).trans ?_
  refine (am_e0 rfl rfl).trans ?_
  refine (am_gf (c := 11) (t := 2) rfl rfl rfl).trans (am_g_congr fun h101 => ?_)
  refine (am_e0 rfl rfl).trans ?_
  refine (am_ial rfl).trans (am_g_congr fun h102 => ?_)
  refine (am_i_ge rfl).trans (am_if_congr (fun c103 => ?_) (fun c103 => ?_))
  · refine (am_e0 rfl rfl).trans ?_
    refine (am_gf (c := 11) (t := 2) rfl rfl rfl).trans ((am_g_t h101).trans ?_)
    refine (am_e0 rfl rfl).trans ?_
    refine (am_e0 rfl rfl).trans ?_
    refine (am_e0 rfl rfl).trans ?_
    refine (am_e0 rfl rfl).trans ?_
    refine (am_e0 rfl rfl).trans ?_
    refine (am_e0 rfl rfl).trans ?_
    refine (am_e0 rfl rfl).trans ?_
    refine (am_e0 rfl rfl).trans ?_
    refine (am_e0 rfl rfl).trans ?_
    refine (am_e0 rfl rfl).trans ?_
    refine (am_e0 rfl rfl).trans ?_
    refine (am_e0 rfl rfl).trans ?_
    refine (am_ias rfl).trans (am_g_congr fun h104 => ?_)
    refine am_letm (fun M105 => ?_)
    refine (am_e0 rfl rfl).trans ?_
    refine am_lets (L := fun v106 => [(2, x0), am_N, (0, x2), (0, v106)]) (fun v106 => ?_)
    refine (am_e1 rfl rfl).trans ?_
    exact (am_e5 rfl).trans rfl
  · refine (am_e0 rfl rfl).trans ?_
    refine (am_gf (c := 11) (t := 2) rfl rfl rfl).trans ((am_g_t h101).trans ?_)
    refine (am_e0 rfl rfl).trans ?_
    refine (am_e0 rfl rfl).trans ?_
    refine (am_ial rfl).trans (am_g_congr fun h107 => ?_)
    refine (am_e0 rfl rfl).trans ?_
    refine (am_e0 rfl rfl).trans ?_
    refine (am_ias rfl).trans ((am_g_t h107).trans ?_)
    refine am_letm (fun M108 => ?_)
    refine (am_e0 rfl rfl).trans ?_
    exact (am_e4i rfl rfl).trans rfl
-- 148: UnlearnedHandModel.allow(I)Z
set_option maxRecDepth 10000 in
theorem aq_148 (d : Nat) (x0 x1 : Int) (M : am_M) : am_Call d 148 [(2, x0), (0, x1)] M = ((am_Call d 64 [(0, x1), (0, 0), (0, 8)] M).bind fun r101 => if r101.1 = 0 then (some (0, r101.2)) else (am_g (am_ob x0 11) <| am_g (am_ar (am_rd r101.2 x0 0) 20 7) <| am_let (am_wr r101.2 (am_rd r101.2 x0 0) 7 x1) fun M105 => some (1, M105))) := by
  show am_Ex d 148 0 [(2, x0), (0, x1)] [] M = _
  refine (am_e0 rfl rfl).trans ?_
  refine (am_e0 rfl rfl).trans ?_
  refine (am_e0 rfl rfl).trans ?_
  refine (am_cal3 (z := 64) (k := 3) (c := true) rfl rfl rfl rfl rfl rfl rfl rfl).trans ((am_g_t rfl).trans ?_)
  refine am_bind_congr fun r101 => ?_
  show am_Ex d 148 4 [(2, x0), (0, x1)] [(0, r101.1)] r101.2 = _
  refine (am_z_ne rfl).trans (am_if_congr (fun c102 => ?_) (fun c102 => ?_))
  · refine (am_e0 rfl rfl).trans ?_
    exact (am_e4i rfl rfl).trans rfl
  · refine (am_e0 rfl rfl).trans ?_
    refine (am_gf (c := 11) (t := 2) rfl rfl rfl).trans (am_g_congr fun h103 => ?_)
    refine (am_e0 rfl rfl).trans ?_
    refine (am_e0 rfl rfl).trans ?_
    refine (am_ias rfl).trans (am_g_congr fun h104 => ?_)
    refine am_letm (fun M105 => ?_)
    refine (am_e0 rfl rfl).trans ?_
    exact (am_e4i rfl rfl).trans rfl
-- 149: UnlearnedHandModel.feed(IIIII)I
set_option maxRecDepth 10000 in
theorem aq_149 (d : Nat) (x0 x1 x2 x3 x4 x5 : Int) (M : am_M) : am_Call d 149 [(2, x0), (0, x1), (0, x2), (0, x3), (0, x4), (0, x5)] M = (am_g (am_ob x0 11) <| if am_w32 ((am_rd M x0 3) + 20) ≤ 300 then ((am_Call d 70 [(2, x0), (0, x1)] M).bind fun r103 => (am_Call d 70 [(2, x0), (0, x2)] r103.2).bind fun r104 => (am_Call d 70 [(2, x0), (0, x3)] r104.2).bind fun r105 => (am_Call d 70 [(2, x0), (0, x4)] r105.2).bind fun r106 => (am_Call d 70 [(2, x0), (0, x5)] r106.2).bind fun r107 => some (am_rd r107.2 x0 3, r107.2)) else (some ((-1), M))) := by
  show am_Ex d 149 0 [(2, x0), (0, x1), (0, x2), (0, x3), (0, x4), (0, x5)] [] M = _
  refine (am_e0 rfl rfl).trans ?_
  refine (am_gf (c := 11) (t := 0) rfl rfl rfl).trans (am_g_congr fun h101 => ?_)
  refine (am_e0 rfl rfl).trans ?_
  refine (am_e0 rfl rfl).trans ?_
  refine (am_e0 rfl rfl).trans ?_
  refine (am_i_le rfl).trans (am_if_congr (fun c102 => ?_) (fun c102 => ?_))
  · refine (am_e0 rfl rfl).trans ?_
    refine (am_e0 rfl rfl).trans ?_
    refine (am_cal3 (z := 70) (k := 2) (c := (am_ob x0 11)) rfl rfl rfl rfl rfl rfl rfl rfl).trans ((am_g_t h101).trans ?_)
    refine am_bind_congr fun r103 => ?_
    show am_Ex d 149 11 [(2, x0), (0, x1), (0, x2), (0, x3), (0, x4), (0, x5)] [] r103.2 = _
    refine (am_e0 rfl rfl).trans ?_
    refine (am_e0 rfl rfl).trans ?_
    refine (am_cal3 (z := 70) (k := 2) (c := (am_ob x0 11)) rfl rfl rfl rfl rfl rfl rfl rfl).trans ((am_g_t h101).trans ?_)
    refine am_bind_congr fun r104 => ?_
    show am_Ex d 149 14 [(2, x0), (0, x1), (0, x2), (0, x3), (0, x4), (0, x5)] [] r104.2 = _
    refine (am_e0 rfl rfl).trans ?_
    refine (am_e0 rfl rfl).trans ?_
    refine (am_cal3 (z := 70) (k := 2) (c := (am_ob x0 11)) rfl rfl rfl rfl rfl rfl rfl rfl).trans ((am_g_t h101).trans ?_)
    refine am_bind_congr fun r105 => ?_
    show am_Ex d 149 17 [(2, x0), (0, x1), (0, x2), (0, x3), (0, x4), (0, x5)] [] r105.2 = _
    refine (am_e0 rfl rfl).trans ?_
    refine (am_e0 rfl rfl).trans ?_
    refine (am_cal3 (z := 70) (k := 2) (c := (am_ob x0 11)) rfl rfl rfl rfl rfl rfl rfl rfl).trans ((am_g_t h101).trans ?_)
    refine am_bind_congr fun r106 => ?_
    show am_Ex d 149 20 [(2, x0), (0, x1), (0, x2), (0, x3), (0, x4), (0, x5)] [] r106.2 = _
    refine (am_e0 rfl rfl).trans ?_
    refine (am_e0 rfl rfl).trans ?_
    refine (am_cal3 (z := 70) (k := 2) (c := (am_ob x0 11)) rfl rfl rfl rfl rfl rfl rfl rfl).trans ((am_g_t h101).trans ?_)
    refine am_bind_congr fun r107 => ?_
    show am_Ex d 149 23 [(2, x0), (0, x1), (0, x2), (0, x3), (0, x4), (0, x5)] [] r107.2 = _
    refine (am_e0 rfl rfl).trans ?_
    refine (am_gf (c := 11) (t := 0) rfl rfl rfl).trans ((am_g_t h101).trans ?_)
    exact (am_e4i rfl rfl).trans rfl
  · refine (am_e0 rfl rfl).trans ?_
    exact (am_e4i rfl rfl).trans rfl
-- 150: UnlearnedHandModel.end(I)I
set_option maxRecDepth 10000 in
theorem aq_150 (d : Nat) (x0 x1 : Int) (M : am_M) : am_Call d 150 [(2, x0), (0, x1)] M = (am_g (am_ob x0 11) <| (am_Call d 64 [(0, x1), (0, 0), (0, am_rd M x0 3)] M).bind fun r102 => if r102.1 = 0 then (some ((-1), r102.2)) else (am_let (am_wr r102.2 x0 3 x1) fun M104 => some (x1, M104))) := by
  show am_Ex d 150 0 [(2, x0), (0, x1)] [] M = _
  refine (am_e0 rfl rfl).trans ?_
  refine (am_e0 rfl rfl).trans ?_
  refine (am_e0 rfl rfl).trans ?_
  refine (am_gf (c := 11) (t := 0) rfl rfl rfl).trans (am_g_congr fun h101 => ?_)
  refine (am_cal3 (z := 64) (k := 3) (c := true) rfl rfl rfl rfl rfl rfl rfl rfl).trans ((am_g_t rfl).trans ?_)
  refine am_bind_congr fun r102 => ?_
  show am_Ex d 150 5 [(2, x0), (0, x1)] [(0, r102.1)] r102.2 = _
  refine (am_z_ne rfl).trans (am_if_congr (fun c103 => ?_) (fun c103 => ?_))
  · refine (am_e0 rfl rfl).trans ?_
    exact (am_e4i rfl rfl).trans rfl
  · refine (am_e0 rfl rfl).trans ?_
    refine (am_e0 rfl rfl).trans ?_
    refine (am_pf (c := 11) rfl rfl rfl).trans ((am_g_t h101).trans ?_)
    refine am_letm (fun M104 => ?_)
    refine (am_e0 rfl rfl).trans ?_
    exact (am_e4i rfl rfl).trans rfl
-- 151: UnlearnedHandModel.isLetter(I)Z
set_option maxRecDepth 10000 in
theorem aq_151 (d : Nat) (x0 : Int) (M : am_M) : am_Call d 151 [(0, x0)] M = ((am_Call d 64 [(0, x0), (0, 97), (0, 122)] M).bind fun r101 => if r101.1 = 0 then ((am_Call d 64 [(0, x0), (0, 65), (0, 90)] r101.2).bind fun r103 => if r103.1 = 0 then (some (0, r103.2)) else (am_Ex d 151 11 [am_N] [] r103.2)) else (am_Ex d 151 11 [am_N] [] r101.2)) := by
  show am_Ex d 151 0 [(0, x0)] [] M = _
  refine (am_e0 rfl rfl).trans ?_
  refine (am_e0 rfl rfl).trans ?_
  refine (am_e0 rfl rfl).trans ?_
  refine (am_cal3 (z := 64) (k := 3) (c := true) rfl rfl rfl rfl rfl rfl rfl rfl).trans ((am_g_t rfl).trans ?_)
  refine am_bind_congr fun r101 => ?_
  show am_Ex d 151 4 [(0, x0)] [(0, r101.1)] r101.2 = _
  refine (am_z_ne rfl).trans (am_if_congr (fun c102 => ?_) (fun c102 => ?_))
  · refine (am_e0 rfl rfl).trans ?_
    refine (am_e0 rfl rfl).trans ?_
    refine (am_e0 rfl rfl).trans ?_
    refine (am_cal3 (z := 64) (k := 3) (c := true) rfl rfl rfl rfl rfl rfl rfl rfl).trans ((am_g_t rfl).trans ?_)
    refine am_bind_congr fun r103 => ?_
    show am_Ex d 151 9 [(0, x0)] [(0, r103.1)] r103.2 = _
    refine (am_z_eq rfl).trans (am_if_congr (fun c104 => ?_) (fun c104 => ?_))
    · refine (am_e0 rfl rfl).trans ?_
      exact (am_e4i rfl rfl).trans rfl
    · exact (am_e5 rfl).trans rfl
  · exact (am_e5 rfl).trans rfl
set_option maxRecDepth 10000 in
theorem aq_151_11 (d : Nat) (M : am_M) : am_Ex d 151 11 [am_N] [] M = (some (1, M)) := by
  refine (am_e0 rfl rfl).trans ?_
  refine (am_e1 rfl rfl).trans ?_
  exact (am_e4i rfl rfl).trans rfl
-- 152: UnlearnedHandModel.works(I)V
set_option maxRecDepth 10000 in
theorem aq_152 (d : Nat) (x0 x1 : Int) (M : am_M) : am_Call d 152 [(2, x0), (0, x1)] M = (am_Ex d 152 1 [(2, x0), (0, x1)] [] M) := by
  show am_Ex d 152 0 [(2, x0), (0, x1)] [] M = _
  exact (am_e5 rfl).trans rfl
set_option maxRecDepth 10000 in
theorem aq_152_1 (d : Nat) (x0 x1 : Int) (M : am_M) : am_Ex d 152 1 [(2, x0), (0, x1)] [] M = (am_g (am_ob x0 11) <| if am_rd M x0 25 ≤ 0 then (some (0, M)) else (am_g (am_ar (am_rd M x0 27) 20 (am_w32 ((am_rd M x0 25) - 1))) <| if am_rd M (am_rd M x0 27) (am_w32 ((am_rd M x0 25) - 1)) = am_rd M x0 22 then (am_g (am_ar (am_rd M x0 26) 20 (am_w32 ((am_rd M x0 25) - 1))) <| (am_Call d 78 [(0, am_rd M (am_rd M x0 26) (am_w32 ((am_rd M x0 25) - 1)))] M).bind fun r106 => if r106.1 < x1 then (some (0, r106.2)) else (am_let (am_wr r106.2 x0 25 (am_w32 ((am_rd r106.2 x0 25) - 1))) fun M108 => am_g (am_ar (am_rd M108 x0 26) 20 (am_rd M108 x0 25)) <| (am_Call d 75 [(2, x0), (0, am_rd M108 (am_rd M108 x0 26) (am_rd M108 x0 25)), (0, 0)] M108).bind fun r110 => am_Ex d 152 1 [(2, x0), (0, x1)] [] r110.2)) else (some (0, M)))) := by
  refine (am_e0 rfl rfl).trans ?_
  refine (am_gf (c := 11) (t := 0) rfl rfl rfl).trans (am_g_congr fun h101 => ?_)
  refine (am_z_le rfl).trans (am_if_congr (fun c102 => ?_) (fun c102 => ?_))
  · refine (am_e5 rfl).trans ?_
    show am_Ex d 152 40 [am_N, am_N] [] M = _
    exact (am_e4v rfl rfl).trans rfl
  · refine (am_e0 rfl rfl).trans ?_
    refine (am_gf (c := 11) (t := 2) rfl rfl rfl).trans ((am_g_t h101).trans ?_)
    refine (am_e0 rfl rfl).trans ?_
    refine (am_gf (c := 11) (t := 0) rfl rfl rfl).trans ((am_g_t h101).trans ?_)
    refine (am_e0 rfl rfl).trans ?_
    refine (am_e0 rfl rfl).trans ?_
    refine (am_ial rfl).trans (am_g_congr fun h103 => ?_)
    refine (am_e0 rfl rfl).trans ?_
    refine (am_gf (c := 11) (t := 0) rfl rfl rfl).trans ((am_g_t h101).trans ?_)
    refine (am_i_ne rfl).trans (am_if_congr (fun c104 => ?_) (fun c104 => ?_))
    · refine (am_e0 rfl rfl).trans ?_
      refine (am_gf (c := 11) (t := 2) rfl rfl rfl).trans ((am_g_t h101).trans ?_)
      refine (am_e0 rfl rfl).trans ?_
      refine (am_gf (c := 11) (t := 0) rfl rfl rfl).trans ((am_g_t h101).trans ?_)
      refine (am_e0 rfl rfl).trans ?_
      refine (am_e0 rfl rfl).trans ?_
      refine (am_ial rfl).trans (am_g_congr fun h105 => ?_)
      refine (am_cal3 (z := 78) (k := 1) (c := true) rfl rfl rfl rfl rfl rfl rfl rfl).trans ((am_g_t rfl).trans ?_)
      refine am_bind_congr fun r106 => ?_
      show am_Ex d 152 22 [(2, x0), (0, x1)] [(0, r106.1)] r106.2 = _
      refine (am_e0 rfl rfl).trans ?_
      refine (am_i_lt rfl).trans (am_if_congr (fun c107 => ?_) (fun c107 => ?_))
      · refine (am_e5 rfl).trans ?_
        show am_Ex d 152 40 [am_N, am_N] [] r106.2 = _
        exact (am_e4v rfl rfl).trans rfl
      · refine (am_e0 rfl rfl).trans ?_
        refine (am_e0 rfl rfl).trans ?_
        refine (am_gf (c := 11) (t := 0) rfl rfl rfl).trans ((am_g_t h101).trans ?_)
        refine (am_e0 rfl rfl).trans ?_
        refine (am_e0 rfl rfl).trans ?_
        refine (am_pf (c := 11) rfl rfl rfl).trans ((am_g_t h101).trans ?_)
        refine am_letm (fun M108 => ?_)
        refine (am_e0 rfl rfl).trans ?_
        refine (am_e0 rfl rfl).trans ?_
        refine (am_gf (c := 11) (t := 2) rfl rfl rfl).trans ((am_g_t h101).trans ?_)
        refine (am_e0 rfl rfl).trans ?_
        refine (am_gf (c := 11) (t := 0) rfl rfl rfl).trans ((am_g_t h101).trans ?_)
        refine (am_ial rfl).trans (am_g_congr fun h109 => ?_)
        refine (am_e0 rfl rfl).trans ?_
        refine (am_cal3 (z := 75) (k := 3) (c := (am_ob x0 11)) rfl rfl rfl rfl rfl rfl rfl rfl).trans ((am_g_t h101).trans ?_)
        refine am_bind_congr fun r110 => ?_
        show am_Ex d 152 38 [(2, x0), (0, x1)] [] r110.2 = _
        refine (am_e1 rfl rfl).trans ?_
        exact (am_e5 rfl).trans rfl
    · refine (am_e5 rfl).trans ?_
      show am_Ex d 152 40 [am_N, am_N] [] M = _
      exact (am_e4v rfl rfl).trans rfl
