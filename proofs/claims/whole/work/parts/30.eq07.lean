/-! equations of the methods 178 .. 194 -/
-- 178: UnlearnedHand$Reader.readSum(I)V
set_option maxRecDepth 10000 in
theorem aq_178 (d : Nat) (x0 x1 : Int) (M : am_M) : am_Call d 178 [(2, x0), (0, x1)] M = (am_g (am_ob x0 6) <| (am_Call d 128 [(2, x0), (0, x1)] M).bind fun r102 => am_Ex d 178 8 [(2, x0), (0, x1), (0, 0), (0, 0), am_N, am_N] [] r102.2) := by
  show am_Ex d 178 0 [(2, x0), (0, x1), am_N, am_N, am_N, am_N] [] M = _
  refine (am_e0 rfl rfl).trans ?_
  refine (am_e0 rfl rfl).trans ?_
  refine (am_cal3 (z := 128) (k := 2) (c := (am_ob x0 6)) rfl rfl rfl rfl rfl rfl rfl rfl).trans (am_g_congr fun h101 => ?_)
  refine am_bind_congr fun r102 => ?_
  show am_Ex d 178 3 [(2, x0), (0, x1), am_N, am_N, am_N, am_N] [] r102.2 = _
  refine (am_e0 rfl rfl).trans ?_
  refine (am_e0 rfl rfl).trans ?_
  refine (am_e0 rfl rfl).trans ?_
  refine (am_e0 rfl rfl).trans ?_
  exact (am_e5 rfl).trans rfl
set_option maxRecDepth 10000 in
theorem aq_178_8 (d : Nat) (x0 x1 x2 x3 : Int) (M : am_M) : am_Ex d 178 8 [(2, x0), (0, x1), (0, x2), (0, x3), am_N, am_N] [] M = (am_g (am_ob x0 6) <| if x3 < am_rd M x0 3 then ((am_Call d 43 [(2, x0)] M).bind fun r103 => if r103.1 < 33 then (am_Ex d 178 67 [(2, x0), am_N, (0, x2), am_N, am_N, am_N] [] r103.2) else ((am_Call d 43 [(2, x0)] r103.2).bind fun r105 => if r105.1 ≤ 36 then ((am_Call d 43 [(2, x0)] r105.2).bind fun r107 => am_let (am_wr r107.2 x0 4 (am_w32 ((am_rd r107.2 x0 4) + 1))) fun M108 => if r107.1 = 35 then (am_Ex d 178 36 [(2, x0), (0, x1), (0, x2), (0, x3), (0, r107.1), am_N] [] M108) else (if r107.1 = 36 then (am_Ex d 178 36 [(2, x0), (0, x1), (0, x2), (0, x3), (0, r107.1), am_N] [] M108) else (if (0 : Int) = 0 then (if x2 = 0 then (am_Ex d 178 50 [(2, x0), (0, x1), (0, x2), (0, x3), (0, r107.1), (0, 0)] [] M108) else (am_g (am_ob (am_rd M108 x0 6) 8) <| (am_Call d 54 [(2, am_rd M108 x0 6), (0, am_w32 (-x2))] M108).bind fun r114 => am_Ex d 178 50 [(2, x0), (0, x1), (0, x2), (0, x3), (0, r107.1), (0, 0)] [] r114.2)) else (am_Ex d 178 50 [(2, x0), (0, x1), (0, x2), (0, x3), (0, r107.1), (0, 0)] [] M108)))) else (am_Ex d 178 67 [(2, x0), am_N, (0, x2), am_N, am_N, am_N] [] r105.2))) else (am_Ex d 178 67 [(2, x0), am_N, (0, x2), am_N, am_N, am_N] [] M)) := by
  refine (am_e0 rfl rfl).trans ?_
  refine (am_e0 rfl rfl).trans ?_
  refine (am_gf (c := 6) (t := 0) rfl rfl rfl).trans (am_g_congr fun h101 => ?_)
  refine (am_i_ge rfl).trans (am_if_congr (fun c102 => ?_) (fun c102 => ?_))
  · refine (am_e0 rfl rfl).trans ?_
    refine (am_cal3 (z := 43) (k := 1) (c := (am_ob x0 6)) rfl rfl rfl rfl rfl rfl rfl rfl).trans ((am_g_t h101).trans ?_)
    refine am_bind_congr fun r103 => ?_
    show am_Ex d 178 14 [(2, x0), (0, x1), (0, x2), (0, x3), am_N, am_N] [(0, r103.1)] r103.2 = _
    refine (am_e0 rfl rfl).trans ?_
    refine (am_i_lt rfl).trans (am_if_congr (fun c104 => ?_) (fun c104 => ?_))
    · exact (am_e5 rfl).trans rfl
    · refine (am_e0 rfl rfl).trans ?_
      refine (am_cal3 (z := 43) (k := 1) (c := (am_ob x0 6)) rfl rfl rfl rfl rfl rfl rfl rfl).trans ((am_g_t h101).trans ?_)
      refine am_bind_congr fun r105 => ?_
      show am_Ex d 178 18 [(2, x0), (0, x1), (0, x2), (0, x3), am_N, am_N] [(0, r105.1)] r105.2 = _
      refine (am_e0 rfl rfl).trans ?_
      refine (am_i_gt rfl).trans (am_if_congr (fun c106 => ?_) (fun c106 => ?_))
      · refine (am_e0 rfl rfl).trans ?_
        refine (am_cal3 (z := 43) (k := 1) (c := (am_ob x0 6)) rfl rfl rfl rfl rfl rfl rfl rfl).trans ((am_g_t h101).trans ?_)
        refine am_bind_congr fun r107 => ?_
        show am_Ex d 178 22 [(2, x0), (0, x1), (0, x2), (0, x3), am_N, am_N] [(0, r107.1)] r107.2 = _
        refine (am_e0 rfl rfl).trans ?_
        refine (am_e0 rfl rfl).trans ?_
        refine (am_e0 rfl rfl).trans ?_
        refine (am_gf (c := 6) (t := 0) rfl rfl rfl).trans ((am_g_t h101).trans ?_)
        refine (am_e0 rfl rfl).trans ?_
        refine (am_e0 rfl rfl).trans ?_
        refine (am_pf (c := 6) rfl rfl rfl).trans ((am_g_t h101).trans ?_)
        refine am_letm (fun M108 => ?_)
        refine (am_e0 rfl rfl).trans ?_
        refine (am_e0 rfl rfl).trans ?_
        refine (am_i_eq rfl).trans (am_if_congr (fun c109 => ?_) (fun c109 => ?_))
        · exact (am_e5 rfl).trans rfl
        · refine (am_e0 rfl rfl).trans ?_
          refine (am_e0 rfl rfl).trans ?_
          refine (am_i_ne rfl).trans (am_if_congr (fun c110 => ?_) (fun c110 => ?_))
          · exact (am_e5 rfl).trans rfl
          · refine (am_e0 rfl rfl).trans ?_
            refine (am_e0 rfl rfl).trans ?_
            refine (am_e0 rfl rfl).trans ?_
            refine (am_z_ne rfl).trans (am_if_congr (fun c111 => ?_) (fun c111 => ?_))
            · refine (am_e0 rfl rfl).trans ?_
              refine (am_z_eq rfl).trans (am_if_congr (fun c112 => ?_) (fun c112 => ?_))
              · exact (am_e5 rfl).trans rfl
              · refine (am_e0 rfl rfl).trans ?_
                refine (am_gf (c := 6) (t := 2) rfl rfl rfl).trans ((am_g_t h101).trans ?_)
                refine (am_e0 rfl rfl).trans ?_
                refine (am_e0 rfl rfl).trans ?_
                refine (am_cal3 (z := 54) (k := 2) (c := (am_ob (am_rd M108 x0 6) 8)) rfl rfl rfl rfl rfl rfl rfl rfl).trans (am_g_congr fun h113 => ?_)
                refine am_bind_congr fun r114 => ?_
                show am_Ex d 178 49 [(2, x0), (0, x1), (0, x2), (0, x3), (0, r107.1), (0, 0)] [] r114.2 = _
                exact (am_e5 rfl).trans rfl
            · exact (am_e5 rfl).trans rfl
      · exact (am_e5 rfl).trans rfl
  · exact (am_e5 rfl).trans rfl
set_option maxRecDepth 10000 in
theorem aq_178_67 (d : Nat) (x0 x2 : Int) (M : am_M) : am_Ex d 178 67 [(2, x0), am_N, (0, x2), am_N, am_N, am_N] [] M = (if x2 = 0 then (some (0, M)) else (am_g (am_ob x0 6) <| am_g (am_ob (am_rd M x0 6) 8) <| (am_Call d 54 [(2, am_rd M x0 6), (0, am_w32 (-x2))] M).bind fun r104 => some (0, r104.2))) := by
  refine (am_e0 rfl rfl).trans ?_
  refine (am_z_eq rfl).trans (am_if_congr (fun c101 => ?_) (fun c101 => ?_))
  · refine (am_e5 rfl).trans ?_
    show am_Ex d 178 75 [am_N, am_N, am_N, am_N, am_N, am_N] [] M = _
    exact (am_e4v rfl rfl).trans rfl
  · refine (am_e0 rfl rfl).trans ?_
    refine (am_gf (c := 6) (t := 2) rfl rfl rfl).trans (am_g_congr fun h102 => ?_)
    refine (am_e0 rfl rfl).trans ?_
    refine (am_e0 rfl rfl).trans ?_
    refine (am_cal3 (z := 54) (k := 2) (c := (am_ob (am_rd M x0 6) 8)) rfl rfl rfl rfl rfl rfl rfl rfl).trans (am_g_congr fun h103 => ?_)
    refine am_bind_congr fun r104 => ?_
    show am_Ex d 178 74 [(2, x0), am_N, (0, x2), am_N, am_N, am_N] [] r104.2 = _
    refine (am_e5 rfl).trans ?_
    show am_Ex d 178 75 [am_N, am_N, am_N, am_N, am_N, am_N] [] r104.2 = _
    exact (am_e4v rfl rfl).trans rfl
set_option maxRecDepth 10000 in
theorem aq_178_36 (d : Nat) (x0 x1 x2 x3 x4 : Int) (M : am_M) : am_Ex d 178 36 [(2, x0), (0, x1), (0, x2), (0, x3), (0, x4), am_N] [] M = (if (1 : Int) = 0 then (if x2 = 0 then (am_Ex d 178 50 [(2, x0), (0, x1), (0, x2), (0, x3), (0, x4), (0, 1)] [] M) else (am_g (am_ob x0 6) <| am_g (am_ob (am_rd M x0 6) 8) <| (am_Call d 54 [(2, am_rd M x0 6), (0, am_w32 (-x2))] M).bind fun r105 => am_Ex d 178 50 [(2, x0), (0, x1), (0, x2), (0, x3), (0, x4), (0, 1)] [] r105.2)) else (am_Ex d 178 50 [(2, x0), (0, x1), (0, x2), (0, x3), (0, x4), (0, 1)] [] M)) := by
  refine (am_e0 rfl rfl).trans ?_
  refine (am_e1 rfl rfl).trans ?_
  refine (am_e0 rfl rfl).trans ?_
  refine (am_e0 rfl rfl).trans ?_
  refine (am_z_ne rfl).trans (am_if_congr (fun c101 => ?_) (fun c101 => ?_))
  · refine (am_e0 rfl rfl).trans ?_
    refine (am_z_eq rfl).trans (am_if_congr (fun c102 => ?_) (fun c102 => ?_))
    · exact (am_e5 rfl).trans rfl
    · refine (am_e0 rfl rfl).trans ?_
      refine (am_gf (c := 6) (t := 2) rfl rfl rfl).trans (am_g_congr fun h103 => ?_)
      refine (am_e0 rfl rfl).trans ?_
      refine (am_e0 rfl rfl).trans ?_
      refine (am_cal3 (z := 54) (k := 2) (c := (am_ob (am_rd M x0 6) 8)) rfl rfl rfl rfl rfl rfl rfl rfl).trans (am_g_congr fun h104 => ?_)
      refine am_bind_congr fun r105 => ?_
      show am_Ex d 178 49 [(2, x0), (0, x1), (0, x2), (0, x3), (0, x4), (0, 1)] [] r105.2 = _
      exact (am_e5 rfl).trans rfl
  · exact (am_e5 rfl).trans rfl
set_option maxRecDepth 10000 in
theorem aq_178_50 (d : Nat) (x0 x1 x2 x3 x4 x5 : Int) (M : am_M) : am_Ex d 178 50 [(2, x0), (0, x1), (0, x2), (0, x3), (0, x4), (0, x5)] [] M = (am_g (am_ob x0 6) <| (am_Call d 128 [(2, x0), (0, x1)] M).bind fun r102 => if x5 = 0 then (am_Ex d 178 64 [(2, x0), (0, x1), (0, x4), (0, x3), am_N, am_N] [] r102.2) else (am_g (am_ob (am_rd r102.2 x0 6) 8) <| (am_Call d 54 [(2, am_rd r102.2 x0 6), (0, am_w32 (-x4))] r102.2).bind fun r105 => am_Ex d 178 64 [(2, x0), (0, x1), (0, x2), (0, x3), am_N, am_N] [] r105.2)) := by
  refine (am_e0 rfl rfl).trans ?_
  refine (am_e0 rfl rfl).trans ?_
  refine (am_cal3 (z := 128) (k := 2) (c := (am_ob x0 6)) rfl rfl rfl rfl rfl rfl rfl rfl).trans (am_g_congr fun h101 => ?_)
  refine am_bind_congr fun r102 => ?_
  show am_Ex d 178 53 [(2, x0), (0, x1), (0, x2), (0, x3), (0, x4), (0, x5)] [] r102.2 = _
  refine (am_e0 rfl rfl).trans ?_
  refine (am_z_eq rfl).trans (am_if_congr (fun c103 => ?_) (fun c103 => ?_))
  · refine (am_e0 rfl rfl).trans ?_
    refine (am_e0 rfl rfl).trans ?_
    exact (am_e5 rfl).trans rfl
  · refine (am_e0 rfl rfl).trans ?_
    refine (am_gf (c := 6) (t := 2) rfl rfl rfl).trans ((am_g_t h101).trans ?_)
    refine (am_e0 rfl rfl).trans ?_
    refine (am_e0 rfl rfl).trans ?_
    refine (am_cal3 (z := 54) (k := 2) (c := (am_ob (am_rd r102.2 x0 6) 8)) rfl rfl rfl rfl rfl rfl rfl rfl).trans (am_g_congr fun h104 => ?_)
    refine am_bind_congr fun r105 => ?_
    show am_Ex d 178 60 [(2, x0), (0, x1), (0, x2), (0, x3), (0, x4), (0, x5)] [] r105.2 = _
    refine (am_e1 rfl rfl).trans ?_
    exact (am_e5 rfl).trans rfl
set_option maxRecDepth 10000 in
theorem aq_178_64 (d : Nat) (x0 x1 x2 x3 : Int) (M : am_M) : am_Ex d 178 64 [(2, x0), (0, x1), (0, x2), (0, x3), am_N, am_N] [] M = (am_let (am_w32 (x3 + 1)) fun v101 => am_Ex d 178 8 [(2, x0), (0, x1), (0, x2), (0, v101), am_N, am_N] [] M) := by
  refine (am_e0 rfl rfl).trans ?_
  refine am_lets (L := fun v101 => [(2, x0), (0, x1), (0, x2), (0, v101), am_N, am_N]) (fun v101 => ?_)
  refine (am_e1 rfl rfl).trans ?_
  exact (am_e5 rfl).trans rfl
-- 179: UnlearnedHand$Reckoning.setsByDone(ZI)I
set_option maxRecDepth 10000 in
theorem aq_179 (d : Nat) (x0 x1 x2 : Int) (M : am_M) : am_Call d 179 [(2, x0), (0, x1), (0, x2)] M = (am_g (am_ob x0 7) <| am_g (am_ob (am_rd M x0 0) 2) <| (am_Call d 113 [(2, am_rd M x0 0), (0, 1)] M).bind fun r103 => if x1 = 0 then (am_g (am_ob (am_rd r103.2 x0 0) 2) <| (am_Call d 113 [(2, am_rd r103.2 x0 0), (0, 0)] r103.2).bind fun r106 => am_g (am_ob (am_rd r106.2 x0 0) 2) <| (am_Call d 11 [(2, am_rd r106.2 x0 0)] r106.2).bind fun r108 => am_Ex d 179 23 [(2, x0), am_N, (0, x2), (0, r103.1), (0, r106.1), (0, r108.1), (0, 0), (0, 0)] [] r108.2) else (am_g (am_ob (am_rd r103.2 x0 0) 2) <| (am_Call d 11 [(2, am_rd r103.2 x0 0)] r103.2).bind fun r110 => am_Ex d 179 23 [(2, x0), am_N, (0, x2), (0, r103.1), (0, 0), (0, r110.1), (0, 0), (0, 0)] [] r110.2)) := by
  show am_Ex d 179 0 [(2, x0), (0, x1), (0, x2), am_N, am_N, am_N, am_N, am_N] [] M = _
  refine (am_e0 rfl rfl).trans ?_
  refine (am_gf (c := 7) (t := 2) rfl rfl rfl).trans (am_g_congr fun h101 => ?_)
  refine (am_e0 rfl rfl).trans ?_
  refine (am_cal3 (z := 113) (k := 2) (c := (am_ob (am_rd M x0 0) 2)) rfl rfl rfl rfl rfl rfl rfl rfl).trans (am_g_congr fun h102 => ?_)
  refine am_bind_congr fun r103 => ?_
  show am_Ex d 179 4 [(2, x0), (0, x1), (0, x2), am_N, am_N, am_N, am_N, am_N] [(0, r103.1)] r103.2 = _
  refine (am_e0 rfl rfl).trans ?_
  refine (am_e0 rfl rfl).trans ?_
  refine (am_z_eq rfl).trans (am_if_congr (fun c104 => ?_) (fun c104 => ?_))
  · refine (am_e0 rfl rfl).trans ?_
    refine (am_gf (c := 7) (t := 2) rfl rfl rfl).trans ((am_g_t h101).trans ?_)
    refine (am_e0 rfl rfl).trans ?_
    refine (am_cal3 (z := 113) (k := 2) (c := (am_ob (am_rd r103.2 x0 0) 2)) rfl rfl rfl rfl rfl rfl rfl rfl).trans (am_g_congr fun h105 => ?_)
    refine am_bind_congr fun r106 => ?_
    show am_Ex d 179 13 [(2, x0), (0, x1), (0, x2), (0, r103.1), am_N, am_N, am_N, am_N] [(0, r106.1)] r106.2 = _
    refine (am_e0 rfl rfl).trans ?_
    refine (am_e0 rfl rfl).trans ?_
    refine (am_gf (c := 7) (t := 2) rfl rfl rfl).trans ((am_g_t h101).trans ?_)
    refine (am_cal3 (z := 11) (k := 1) (c := (am_ob (am_rd r106.2 x0 0) 2)) rfl rfl rfl rfl rfl rfl rfl rfl).trans (am_g_congr fun h107 => ?_)
    refine am_bind_congr fun r108 => ?_
    show am_Ex d 179 17 [(2, x0), (0, x1), (0, x2), (0, r103.1), (0, r106.1), am_N, am_N, am_N] [(0, r108.1)] r108.2 = _
    refine (am_e0 rfl rfl).trans ?_
    refine (am_e0 rfl rfl).trans ?_
    refine (am_e0 rfl rfl).trans ?_
    refine (am_e0 rfl rfl).trans ?_
    refine (am_e0 rfl rfl).trans ?_
    exact (am_e5 rfl).trans rfl
  · refine (am_e0 rfl rfl).trans ?_
    refine (am_e1 rfl rfl).trans ?_
    refine (am_e0 rfl rfl).trans ?_
    refine (am_e0 rfl rfl).trans ?_
    refine (am_gf (c := 7) (t := 2) rfl rfl rfl).trans ((am_g_t h101).trans ?_)
    refine (am_cal3 (z := 11) (k := 1) (c := (am_ob (am_rd r103.2 x0 0) 2)) rfl rfl rfl rfl rfl rfl rfl rfl).trans (am_g_congr fun h109 => ?_)
    refine am_bind_congr fun r110 => ?_
    show am_Ex d 179 17 [(2, x0), (0, x1), (0, x2), (0, r103.1), (0, 0), am_N, am_N, am_N] [(0, r110.1)] r110.2 = _
    refine (am_e0 rfl rfl).trans ?_
    refine (am_e0 rfl rfl).trans ?_
    refine (am_e0 rfl rfl).trans ?_
    refine (am_e0 rfl rfl).trans ?_
    refine (am_e0 rfl rfl).trans ?_
    exact (am_e5 rfl).trans rfl
set_option maxRecDepth 10000 in
theorem aq_179_23 (d : Nat) (x0 x2 x3 x4 x5 x6 x7 : Int) (M : am_M) : am_Ex d 179 23 [(2, x0), am_N, (0, x2), (0, x3), (0, x4), (0, x5), (0, x6), (0, x7)] [] M = (if x7 ≤ x5 then (if am_and x7 x3 = x3 then (if am_and x7 x4 = 0 then (am_g (am_ob x0 7) <| (am_Call d 129 [(2, x0), (0, x7)] M).bind fun r105 => if r105.1 = 0 then (am_Ex d 179 46 [(2, x0), am_N, (0, x2), (0, x3), (0, x4), (0, x5), (0, x6), (0, x7)] [] r105.2) else (if x6 = x2 then (some (x7, r105.2)) else (am_let (am_w32 (x6 + 1)) fun v108 => am_Ex d 179 46 [(2, x0), am_N, (0, x2), (0, x3), (0, x4), (0, x5), (0, v108), (0, x7)] [] r105.2))) else (am_Ex d 179 46 [(2, x0), am_N, (0, x2), (0, x3), (0, x4), (0, x5), (0, x6), (0, x7)] [] M)) else (am_Ex d 179 46 [(2, x0), am_N, (0, x2), (0, x3), (0, x4), (0, x5), (0, x6), (0, x7)] [] M)) else (if x2 = (-1) then (some (x6, M)) else (some ((-1), M)))) := by
  refine (am_e0 rfl rfl).trans ?_
  refine (am_e0 rfl rfl).trans ?_
  refine (am_i_gt rfl).trans (am_if_congr (fun c101 => ?_) (fun c101 => ?_))
  · refine (am_e0 rfl rfl).trans ?_
    refine (am_e0 rfl rfl).trans ?_
    refine (am_e0 rfl rfl).trans ?_
    refine (am_e0 rfl rfl).trans ?_
    refine (am_i_ne rfl).trans (am_if_congr (fun c102 => ?_) (fun c102 => ?_))
    · refine (am_e0 rfl rfl).trans ?_
      refine (am_e0 rfl rfl).trans ?_
      refine (am_e0 rfl rfl).trans ?_
      refine (am_z_ne rfl).trans (am_if_congr (fun c103 => ?_) (fun c103 => ?_))
      · refine (am_e0 rfl rfl).trans ?_
        refine (am_e0 rfl rfl).trans ?_
        refine (am_cal3 (z := 129) (k := 2) (c := (am_ob x0 7)) rfl rfl rfl rfl rfl rfl rfl rfl).trans (am_g_congr fun h104 => ?_)
        refine am_bind_congr fun r105 => ?_
        show am_Ex d 179 38 [(2, x0), am_N, (0, x2), (0, x3), (0, x4), (0, x5), (0, x6), (0, x7)] [(0, r105.1)] r105.2 = _
        refine (am_z_eq rfl).trans (am_if_congr (fun c106 => ?_) (fun c106 => ?_))
        · exact (am_e5 rfl).trans rfl
        · refine (am_e0 rfl rfl).trans ?_
          refine (am_e0 rfl rfl).trans ?_
          refine (am_i_ne rfl).trans (am_if_congr (fun c107 => ?_) (fun c107 => ?_))
          · refine (am_e0 rfl rfl).trans ?_
            exact (am_e4i rfl rfl).trans rfl
          · refine (am_e0 rfl rfl).trans ?_
            refine am_lets (L := fun v108 => [(2, x0), am_N, (0, x2), (0, x3), (0, x4), (0, x5), (0, v108), (0, x7)]) (fun v108 => ?_)
            exact (am_e5 rfl).trans rfl
      · exact (am_e5 rfl).trans rfl
    · exact (am_e5 rfl).trans rfl
  · refine (am_e0 rfl rfl).trans ?_
    refine (am_e0 rfl rfl).trans ?_
    refine (am_i_ne rfl).trans (am_if_congr (fun c109 => ?_) (fun c109 => ?_))
    · refine (am_e0 rfl rfl).trans ?_
      refine (am_e1 rfl rfl).trans ?_
      exact (am_e4i rfl rfl).trans rfl
    · refine (am_e0 rfl rfl).trans ?_
      exact (am_e4i rfl rfl).trans rfl
set_option maxRecDepth 10000 in
theorem aq_179_46 (d : Nat) (x0 x2 x3 x4 x5 x6 x7 : Int) (M : am_M) : am_Ex d 179 46 [(2, x0), am_N, (0, x2), (0, x3), (0, x4), (0, x5), (0, x6), (0, x7)] [] M = (am_let (am_w32 (x7 + 1)) fun v101 => am_Ex d 179 23 [(2, x0), am_N, (0, x2), (0, x3), (0, x4), (0, x5), (0, x6), (0, v101)] [] M) := by
  refine (am_e0 rfl rfl).trans ?_
  refine am_lets (L := fun v101 => [(2, x0), am_N, (0, x2), (0, x3), (0, x4), (0, x5), (0, x6), (0, v101)]) (fun v101 => ?_)
  refine (am_e1 rfl rfl).trans ?_
  exact (am_e5 rfl).trans rfl
-- 180: UnlearnedHand$Reckoning.isBetter(II)Z
set_option maxRecDepth 10000 in
theorem aq_180 (d : Nat) (x0 x1 x2 : Int) (M : am_M) : am_Call d 180 [(2, x0), (0, x1), (0, x2)] M = ((am_Call d 99 [(0, x1)] M).bind fun r101 => (am_Call d 99 [(0, x2)] r101.2).bind fun r102 => if r101.1 < r102.1 then (am_Ex d 180 20 [am_N, am_N, am_N, am_N, am_N] [] r102.2) else (if r101.1 = r102.1 then (am_g (am_ob x0 7) <| (am_Call d 131 [(2, x0), (0, x1)] r102.2).bind fun r106 => (am_Call d 131 [(2, x0), (0, x2)] r106.2).bind fun r107 => if r106.1 ≤ r107.1 then (some (0, r107.2)) else (am_Ex d 180 20 [am_N, am_N, am_N, am_N, am_N] [] r107.2)) else (some (0, r102.2)))) := by
  show am_Ex d 180 0 [(2, x0), (0, x1), (0, x2), am_N, am_N] [] M = _
  refine (am_e0 rfl rfl).trans ?_
  refine (am_cal3 (z := 99) (k := 1) (c := true) rfl rfl rfl rfl rfl rfl rfl rfl).trans ((am_g_t rfl).trans ?_)
  refine am_bind_congr fun r101 => ?_
  show am_Ex d 180 2 [(2, x0), (0, x1), (0, x2), am_N, am_N] [(0, r101.1)] r101.2 = _
  refine (am_e0 rfl rfl).trans ?_
  refine (am_e0 rfl rfl).trans ?_
  refine (am_cal3 (z := 99) (k := 1) (c := true) rfl rfl rfl rfl rfl rfl rfl rfl).trans ((am_g_t rfl).trans ?_)
  refine am_bind_congr fun r102 => ?_
  show am_Ex d 180 5 [(2, x0), (0, x1), (0, x2), (0, r101.1), am_N] [(0, r102.1)] r102.2 = _
  refine (am_e0 rfl rfl).trans ?_
  refine (am_e0 rfl rfl).trans ?_
  refine (am_e0 rfl rfl).trans ?_
  refine (am_i_lt rfl).trans (am_if_congr (fun c103 => ?_) (fun c103 => ?_))
  · exact (am_e5 rfl).trans rfl
  · refine (am_e0 rfl rfl).trans ?_
    refine (am_e0 rfl rfl).trans ?_
    refine (am_i_ne rfl).trans (am_if_congr (fun c104 => ?_) (fun c104 => ?_))
    · refine (am_e0 rfl rfl).trans ?_
      refine (am_e0 rfl rfl).trans ?_
      refine (am_cal3 (z := 131) (k := 2) (c := (am_ob x0 7)) rfl rfl rfl rfl rfl rfl rfl rfl).trans (am_g_congr fun h105 => ?_)
      refine am_bind_congr fun r106 => ?_
      show am_Ex d 180 15 [(2, x0), (0, x1), (0, x2), (0, r101.1), (0, r102.1)] [(0, r106.1)] r106.2 = _
      refine (am_e0 rfl rfl).trans ?_
      refine (am_e0 rfl rfl).trans ?_
      refine (am_cal3 (z := 131) (k := 2) (c := (am_ob x0 7)) rfl rfl rfl rfl rfl rfl rfl rfl).trans ((am_g_t h105).trans ?_)
      refine am_bind_congr fun r107 => ?_
      show am_Ex d 180 18 [(2, x0), (0, x1), (0, x2), (0, r101.1), (0, r102.1)] [(0, r107.1), (0, r106.1)] r107.2 = _
      refine (am_i_le rfl).trans (am_if_congr (fun c108 => ?_) (fun c108 => ?_))
      · refine (am_e5 rfl).trans ?_
        show am_Ex d 180 23 [am_N, am_N, am_N, am_N, am_N] [] r107.2 = _
        refine (am_e0 rfl rfl).trans ?_
        exact (am_e4i rfl rfl).trans rfl
      · exact (am_e5 rfl).trans rfl
    · refine (am_e5 rfl).trans ?_
      show am_Ex d 180 23 [am_N, am_N, am_N, am_N, am_N] [] r102.2 = _
      refine (am_e0 rfl rfl).trans ?_
      exact (am_e4i rfl rfl).trans rfl
set_option maxRecDepth 10000 in
theorem aq_180_20 (d : Nat) (M : am_M) : am_Ex d 180 20 [am_N, am_N, am_N, am_N, am_N] [] M = (some (1, M)) := by
  refine (am_e0 rfl rfl).trans ?_
  refine (am_e1 rfl rfl).trans ?_
  exact (am_e4i rfl rfl).trans rfl
-- 181: UnlearnedHand.<init>()V
set_option maxRecDepth 10000 in
theorem aq_181 (d : Nat) (x0 : Int) (M : am_M) : am_Call d 181 [(2, x0)] M = (am_g (decide (0 < x0)) <| am_g (am_ob M.1 2) <| am_let (am_al M) fun M103 => am_g (am_ob (M.1 : Int) 2) <| (am_Call d 5 [(2, (M.1 : Int))] M103).bind fun r105 => am_let ((M.1 : Int)) fun v106 => am_g (am_ob r105.2.1 3) <| am_let (am_al r105.2) fun M108 => am_g (am_ob (r105.2.1 : Int) 3) <| (am_Call d 21 [(2, (r105.2.1 : Int))] M108).bind fun r110 => am_let ((r105.2.1 : Int)) fun v111 => am_g (am_ob r110.2.1 24 && (am_ln r110.2.1 == 4)) <| am_let (am_al r110.2) fun M113 => am_let ((r110.2.1 : Int)) fun v114 => am_Ex d 181 16 [(2, x0), (2, v106), (2, v111), (2, v114), (0, 0), am_N] [] M113) := by
  show am_Ex d 181 0 [(2, x0), am_N, am_N, am_N, am_N, am_N] [] M = _
  refine (am_e0 rfl rfl).trans ?_
  refine (am_e8 rfl rfl).trans (am_g_congr fun h101 => ?_)
  refine (am_nwo (c := 2) rfl rfl).trans (am_g_congr fun h102 => ?_)
  refine am_letm (fun M103 => ?_)
  refine (am_e0 rfl rfl).trans ?_
  refine (am_cal3 (z := 5) (k := 1) (c := (am_ob (M.1 : Int) 2)) rfl rfl rfl rfl rfl rfl rfl rfl).trans (am_g_congr fun h104 => ?_)
  refine am_bind_congr fun r105 => ?_
  show am_Ex d 181 5 [(2, x0), am_N, am_N, am_N, am_N, am_N] [(2, (M.1 : Int))] r105.2 = _
  refine (am_e0 rfl rfl).trans ?_
  refine am_lets (L := fun v106 => [(2, x0), (2, v106), am_N, am_N, am_N, am_N]) (fun v106 => ?_)
  refine (am_nwo (c := 3) rfl rfl).trans (am_g_congr fun h107 => ?_)
  refine am_letm (fun M108 => ?_)
  refine (am_e0 rfl rfl).trans ?_
  refine (am_cal3 (z := 21) (k := 1) (c := (am_ob (r105.2.1 : Int) 3)) rfl rfl rfl rfl rfl rfl rfl rfl).trans (am_g_congr fun h109 => ?_)
  refine am_bind_congr fun r110 => ?_
  show am_Ex d 181 9 [(2, x0), (2, v106), am_N, am_N, am_N, am_N] [(2, (r105.2.1 : Int))] r110.2 = _
  refine (am_e0 rfl rfl).trans ?_
  refine am_lets (L := fun v111 => [(2, x0), (2, v106), (2, v111), am_N, am_N, am_N]) (fun v111 => ?_)
  refine (am_e0 rfl rfl).trans ?_
  refine (am_nwq (c := 24) rfl rfl).trans (am_g_congr fun h112 => ?_)
  refine am_letm (fun M113 => ?_)
  refine (am_e0 rfl rfl).trans ?_
  refine am_lets (L := fun v114 => [(2, x0), (2, v106), (2, v111), (2, v114), am_N, am_N]) (fun v114 => ?_)
  refine (am_e0 rfl rfl).trans ?_
  refine (am_e0 rfl rfl).trans ?_
  exact (am_e5 rfl).trans rfl
set_option maxRecDepth 10000 in
theorem aq_181_16 (d : Nat) (x0 x1 x2 x3 x4 : Int) (M : am_M) : am_Ex d 181 16 [(2, x0), (2, x1), (2, x2), (2, x3), (0, x4), am_N] [] M = (am_g (am_ia x3) <| if x4 < am_ln x3 then (am_g (am_ob M.1 8) <| am_let (am_al M) fun M104 => am_g (am_ob (M.1 : Int) 8) <| (am_Call d 49 [(2, (M.1 : Int))] M104).bind fun r106 => am_g (am_ar x3 24 x4 && am_ob (M.1 : Int) 8 || am_ar x3 25 x4 && am_ob (M.1 : Int) 3) <| am_let (am_wr r106.2 x3 x4 (M.1 : Int)) fun M108 => am_let (am_w32 (x4 + 1)) fun v109 => am_Ex d 181 16 [(2, x0), (2, x1), (2, x2), (2, x3), (0, v109), am_N] [] M108) else (am_g (am_ob M.1 4) <| am_let (am_al M) fun M111 => am_g (am_ob (M.1 : Int) 4) <| (am_Call d 29 [(2, (M.1 : Int)), (2, x1), (2, x3)] M111).bind fun r113 => am_let ((M.1 : Int)) fun v114 => am_g (am_ob r113.2.1 0) <| am_let (am_al r113.2) fun M116 => am_g (am_ob (r113.2.1 : Int) 0) <| (am_Call d 0 [(2, (r113.2.1 : Int)), (2, x1), (2, v114)] M116).bind fun r118 => am_let ((r113.2.1 : Int)) fun v119 => am_g (am_ob x0 10) <| am_let (am_wr r118.2 x0 0 x1) fun M121 => am_g (am_ob M121.1 2) <| am_let (am_al M121) fun M123 => am_g (am_ob (M121.1 : Int) 2) <| (am_Call d 5 [(2, (M121.1 : Int))] M123).bind fun r125 => am_let (am_wr r125.2 x0 1 (M121.1 : Int)) fun M126 => am_let (am_wr M126 x0 2 x2) fun M127 => am_g (am_ob M127.1 3) <| am_let (am_al M127) fun M129 => am_g (am_ob (M127.1 : Int) 3) <| (am_Call d 21 [(2, (M127.1 : Int))] M129).bind fun r131 => am_let (am_wr r131.2 x0 3 (M127.1 : Int)) fun M132 => am_g (am_ob M132.1 9) <| am_let (am_al M132) fun M134 => am_g (am_ob (M132.1 : Int) 9) <| (am_Call d 132 [(2, (M132.1 : Int))] M134).bind fun r136 => am_let (am_wr r136.2 x0 4 (M132.1 : Int)) fun M137 => am_g (am_ob M137.1 9) <| am_let (am_al M137) fun M139 => am_g (am_ob (M137.1 : Int) 9) <| (am_Call d 132 [(2, (M137.1 : Int))] M139).bind fun r141 => am_let (am_wr r141.2 x0 5 (M137.1 : Int)) fun M142 => am_let (am_wr M142 x0 6 x3) fun M143 => am_g (am_ob M143.1 22 && (am_ln M143.1 == 300)) <| am_let (am_al M143) fun M145 => am_let (am_wr M145 x0 7 (M143.1 : Int)) fun M146 => am_g (am_ob M146.1 6) <| am_let (am_al M146) fun M148 => am_g (am_ob (M146.1 : Int) 6) <| (am_Call d 38 [(2, (M146.1 : Int))] M148).bind fun r150 => am_let (am_wr r150.2 x0 9 (M146.1 : Int)) fun M151 => am_let (am_wr M151 x0 10 v114) fun M152 => am_let (am_wr M152 x0 11 v119) fun M153 => am_g (am_ob M153.1 1) <| am_let (am_al M153) fun M155 => am_g (am_ob (M153.1 : Int) 1) <| (am_Call d 105 [(2, (M153.1 : Int)), (2, x1), (2, x2), (2, v114), (2, v119)] M155).bind fun r157 => am_let (am_wr r157.2 x0 12 (M153.1 : Int)) fun M158 => am_g (am_ob M158.1 7) <| am_let (am_al M158) fun M160 => am_g (am_ob (M158.1 : Int) 7) <| (am_Call d 47 [(2, (M158.1 : Int)), (2, x1), (2, x2), (2, v114)] M160).bind fun r162 => am_let (am_wr r162.2 x0 13 (M158.1 : Int)) fun M163 => am_g (am_ob M163.1 5) <| am_let (am_al M163) fun M165 => am_g (am_ob (M163.1 : Int) 5) <| (am_Call d 34 [(2, (M163.1 : Int)), (2, x1), (2, x2)] M165).bind fun r167 => am_let (am_wr r167.2 x0 14 (M163.1 : Int)) fun M168 => some (0, M168))) := by
  refine (am_e0 rfl rfl).trans ?_
  refine (am_e0 rfl rfl).trans ?_
  refine (am_aln rfl).trans (am_g_congr fun h101 => ?_)
  refine (am_i_ge rfl).trans (am_if_congr (fun c102 => ?_) (fun c102 => ?_))
  · refine (am_e0 rfl rfl).trans ?_
    refine (am_e0 rfl rfl).trans ?_
    refine (am_nwo (c := 8) rfl rfl).trans (am_g_congr fun h103 => ?_)
    refine am_letm (fun M104 => ?_)
    refine (am_e0 rfl rfl).trans ?_
    refine (am_cal3 (z := 49) (k := 1) (c := (am_ob (M.1 : Int) 8)) rfl rfl rfl rfl rfl rfl rfl rfl).trans (am_g_congr fun h105 => ?_)
    refine am_bind_congr fun r106 => ?_
    show am_Ex d 181 25 [(2, x0), (2, x1), (2, x2), (2, x3), (0, x4), am_N] [(2, (M.1 : Int)), (0, x4), (2, x3)] r106.2 = _
    refine (am_aas rfl).trans (am_g_congr fun h107 => ?_)
    refine am_letm (fun M108 => ?_)
    refine (am_e0 rfl rfl).trans ?_
    refine am_lets (L := fun v109 => [(2, x0), (2, x1), (2, x2), (2, x3), (0, v109), am_N]) (fun v109 => ?_)
    refine (am_e1 rfl rfl).trans ?_
    exact (am_e5 rfl).trans rfl
  · refine (am_nwo (c := 4) rfl rfl).trans (am_g_congr fun h110 => ?_)
    refine am_letm (fun M111 => ?_)
    refine (am_e0 rfl rfl).trans ?_
    refine (am_e0 rfl rfl).trans ?_
    refine (am_e0 rfl rfl).trans ?_
    refine (am_cal3 (z := 29) (k := 3) (c := (am_ob (M.1 : Int) 4)) rfl rfl rfl rfl rfl rfl rfl rfl).trans (am_g_congr fun h112 => ?_)
    refine am_bind_congr fun r113 => ?_
    show am_Ex d 181 33 [(2, x0), (2, x1), (2, x2), (2, x3), (0, x4), am_N] [(2, (M.1 : Int))] r113.2 = _
    refine (am_e0 rfl rfl).trans ?_
    refine am_lets (L := fun v114 => [(2, x0), (2, x1), (2, x2), (2, x3), (2, v114), am_N]) (fun v114 => ?_)
    refine (am_nwo (c := 0) rfl rfl).trans (am_g_congr fun h115 => ?_)
    refine am_letm (fun M116 => ?_)
    refine (am_e0 rfl rfl).trans ?_
    refine (am_e0 rfl rfl).trans ?_
    refine (am_e0 rfl rfl).trans ?_
    refine (am_cal3 (z := 0) (k := 3) (c := (am_ob (r113.2.1 : Int) 0)) rfl rfl rfl rfl rfl rfl rfl rfl).trans (am_g_congr fun h117 => ?_)
    refine am_bind_congr fun r118 => ?_
    show am_Ex d 181 39 [(2, x0), (2, x1), (2, x2), (2, x3), (2, v114), am_N] [(2, (r113.2.1 : Int))] r118.2 = _
    refine (am_e0 rfl rfl).trans ?_
    refine am_lets (L := fun v119 => [(2, x0), (2, x1), (2, x2), (2, x3), (2, v114), (2, v119)]) (fun v119 => ?_)
    refine (am_e0 rfl rfl).trans ?_
    refine (am_e0 rfl rfl).trans ?_
    refine (am_pf (c := 10) rfl rfl rfl).trans (am_g_congr fun h120 => ?_)
    refine am_letm (fun M121 => ?_)
    refine (am_e0 rfl rfl).trans ?_
    refine (am_nwo (c := 2) rfl rfl).trans (am_g_congr fun h122 => ?_)
    refine am_letm (fun M123 => ?_)
    refine (am_e0 rfl rfl).trans ?_
    refine (am_cal3 (z := 5) (k := 1) (c := (am_ob (M121.1 : Int) 2)) rfl rfl rfl rfl rfl rfl rfl rfl).trans (am_g_congr fun h124 => ?_)
    refine am_bind_congr fun r125 => ?_
    show am_Ex d 181 47 [(2, x0), (2, x1), (2, x2), (2, x3), (2, v114), (2, v119)] [(2, (M121.1 : Int)), (2, x0)] r125.2 = _
    refine (am_pf (c := 10) rfl rfl rfl).trans ((am_g_t h120).trans ?_)
    refine am_letm (fun M126 => ?_)
    refine (am_e0 rfl rfl).trans ?_
    refine (am_e0 rfl rfl).trans ?_
    refine (am_pf (c := 10) rfl rfl rfl).trans ((am_g_t h120).trans ?_)
    refine am_letm (fun M127 => ?_)
    refine (am_e0 rfl rfl).trans ?_
    refine (am_nwo (c := 3) rfl rfl).trans (am_g_congr fun h128 => ?_)
    refine am_letm (fun M129 => ?_)
    refine (am_e0 rfl rfl).trans ?_
    refine (am_cal3 (z := 21) (k := 1) (c := (am_ob (M127.1 : Int) 3)) rfl rfl rfl rfl rfl rfl rfl rfl).trans (am_g_congr fun h130 => ?_)
    refine am_bind_congr fun r131 => ?_
    show am_Ex d 181 55 [(2, x0), (2, x1), (2, x2), (2, x3), (2, v114), (2, v119)] [(2, (M127.1 : Int)), (2, x0)] r131.2 = _
    refine (am_pf (c := 10) rfl rfl rfl).trans ((am_g_t h120).trans ?_)
    refine am_letm (fun M132 => ?_)
    refine (am_e0 rfl rfl).trans ?_
    refine (am_nwo (c := 9) rfl rfl).trans (am_g_congr fun h133 => ?_)
    refine am_letm (fun M134 => ?_)
    refine (am_e0 rfl rfl).trans ?_
    refine (am_cal3 (z := 132) (k := 1) (c := (am_ob (M132.1 : Int) 9)) rfl rfl rfl rfl rfl rfl rfl rfl).trans (am_g_congr fun h135 => ?_)
    refine am_bind_congr fun r136 => ?_
    show am_Ex d 181 60 [(2, x0), (2, x1), (2, x2), (2, x3), (2, v114), (2, v119)] [(2, (M132.1 : Int)), (2, x0)] r136.2 = _
    refine (am_pf (c := 10) rfl rfl rfl).trans ((am_g_t h120).trans ?_)
    refine am_letm (fun M137 => ?_)
    refine (am_e0 rfl rfl).trans ?_
    refine (am_nwo (c := 9) rfl rfl).trans (am_g_congr fun h138 => ?_)
    refine am_letm (fun M139 => ?_)
    refine (am_e0 rfl rfl).trans ?_
    refine (am_cal3 (z := 132) (k := 1) (c := (am_ob (M137.1 : Int) 9)) rfl rfl rfl rfl rfl rfl rfl rfl).trans (am_g_congr fun h140 => ?_)
    refine am_bind_congr fun r141 => ?_
    show am_Ex d 181 65 [(2, x0), (2, x1), (2, x2), (2, x3), (2, v114), (2, v119)] [(2, (M137.1 : Int)), (2, x0)] r141.2 = _
    refine (am_pf (c := 10) rfl rfl rfl).trans ((am_g_t h120).trans ?_)
    refine am_letm (fun M142 => ?_)
    refine (am_e0 rfl rfl).trans ?_
    refine (am_e0 rfl rfl).trans ?_
    refine (am_pf (c := 10) rfl rfl rfl).trans ((am_g_t h120).trans ?_)
    refine am_letm (fun M143 => ?_)
    refine (am_e0 rfl rfl).trans ?_
    refine (am_e0 rfl rfl).trans ?_
    refine (am_nwa (c := 22) rfl rfl).trans (am_g_congr fun h144 => ?_)
    refine am_letm (fun M145 => ?_)
    refine (am_pf (c := 10) rfl rfl rfl).trans ((am_g_t h120).trans ?_)
    refine am_letm (fun M146 => ?_)
    refine (am_e0 rfl rfl).trans ?_
    refine (am_nwo (c := 6) rfl rfl).trans (am_g_congr fun h147 => ?_)
    refine am_letm (fun M148 => ?_)
    refine (am_e0 rfl rfl).trans ?_
    refine (am_cal3 (z := 38) (k := 1) (c := (am_ob (M146.1 : Int) 6)) rfl rfl rfl rfl rfl rfl rfl rfl).trans (am_g_congr fun h149 => ?_)
    refine am_bind_congr fun r150 => ?_
    show am_Ex d 181 77 [(2, x0), (2, x1), (2, x2), (2, x3), (2, v114), (2, v119)] [(2, (M146.1 : Int)), (2, x0)] r150.2 = _
    refine (am_pf (c := 10) rfl rfl rfl).trans ((am_g_t h120).trans ?_)
    refine am_letm (fun M151 => ?_)
    refine (am_e0 rfl rfl).trans ?_
    refine (am_e0 rfl rfl).trans ?_
    refine (am_pf (c := 10) rfl rfl rfl).trans ((am_g_t h120).trans ?_)
    refine am_letm (fun M152 => ?_)
    refine (am_e0 rfl rfl).trans ?_
    refine (am_e0 rfl rfl).trans ?_
    refine (am_pf (c := 10) rfl rfl rfl).trans ((am_g_t h120).trans ?_)
    refine am_letm (fun M153 => ?_)
    refine (am_e0 rfl rfl).trans ?_
    refine (am_nwo (c := 1) rfl rfl).trans (am_g_congr fun h154 => ?_)
    refine am_letm (fun M155 => ?_)
    refine (am_e0 rfl rfl).trans ?_
    refine (am_e0 rfl rfl).trans ?_
    refine (am_e0 rfl rfl).trans ?_
    refine (am_e0 rfl rfl).trans ?_
    refine (am_e0 rfl rfl).trans ?_
    refine (am_cal3 (z := 105) (k := 5) (c := (am_ob (M153.1 : Int) 1)) rfl rfl rfl rfl rfl rfl rfl rfl).trans (am_g_congr fun h156 => ?_)
    refine am_bind_congr fun r157 => ?_
    show am_Ex d 181 92 [(2, x0), (2, x1), (2, x2), (2, x3), (2, v114), (2, v119)] [(2, (M153.1 : Int)), (2, x0)] r157.2 = _
    refine (am_pf (c := 10) rfl rfl rfl).trans ((am_g_t h120).trans ?_)
    refine am_letm (fun M158 => ?_)
    refine (am_e0 rfl rfl).trans ?_
    refine (am_nwo (c := 7) rfl rfl).trans (am_g_congr fun h159 => ?_)
    refine am_letm (fun M160 => ?_)
    refine (am_e0 rfl rfl).trans ?_
    refine (am_e0 rfl rfl).trans ?_
    refine (am_e0 rfl rfl).trans ?_
    refine (am_e0 rfl rfl).trans ?_
    refine (am_cal3 (z := 47) (k := 4) (c := (am_ob (M158.1 : Int) 7)) rfl rfl rfl rfl rfl rfl rfl rfl).trans (am_g_congr fun h161 => ?_)
    refine am_bind_congr fun r162 => ?_
    show am_Ex d 181 100 [(2, x0), (2, x1), (2, x2), (2, x3), (2, v114), (2, v119)] [(2, (M158.1 : Int)), (2, x0)] r162.2 = _
    refine (am_pf (c := 10) rfl rfl rfl).trans ((am_g_t h120).trans ?_)
    refine am_letm (fun M163 => ?_)
    refine (am_e0 rfl rfl).trans ?_
    refine (am_nwo (c := 5) rfl rfl).trans (am_g_congr fun h164 => ?_)
    refine am_letm (fun M165 => ?_)
    refine (am_e0 rfl rfl).trans ?_
    refine (am_e0 rfl rfl).trans ?_
    refine (am_e0 rfl rfl).trans ?_
    refine (am_cal3 (z := 34) (k := 3) (c := (am_ob (M163.1 : Int) 5)) rfl rfl rfl rfl rfl rfl rfl rfl).trans (am_g_congr fun h166 => ?_)
    refine am_bind_congr fun r167 => ?_
    show am_Ex d 181 107 [(2, x0), (2, x1), (2, x2), (2, x3), (2, v114), (2, v119)] [(2, (M163.1 : Int)), (2, x0)] r167.2 = _
    refine (am_pf (c := 10) rfl rfl rfl).trans ((am_g_t h120).trans ?_)
    refine am_letm (fun M168 => ?_)
    exact (am_e4v rfl rfl).trans rfl
-- 182: UnlearnedHand.leads(II)Z
set_option maxRecDepth 10000 in
theorem aq_182 (d : Nat) (x0 x1 x2 : Int) (M : am_M) : am_Call d 182 [(2, x0), (0, x1), (0, x2)] M = (am_g (am_ob x0 10) <| am_g (am_ob (am_rd M x0 0) 2) <| (am_Call d 109 [(2, am_rd M x0 0), (0, x1), (0, x2)] M).bind fun r103 => am_g (r103.1 == 0 || r103.1 == 1) (some (r103.1, r103.2))) := by
  show am_Ex d 182 0 [(2, x0), (0, x1), (0, x2)] [] M = _
  refine (am_e0 rfl rfl).trans ?_
  refine (am_gf (c := 10) (t := 2) rfl rfl rfl).trans (am_g_congr fun h101 => ?_)
  refine (am_e0 rfl rfl).trans ?_
  refine (am_e0 rfl rfl).trans ?_
  refine (am_cal3 (z := 109) (k := 3) (c := (am_ob (am_rd M x0 0) 2)) rfl rfl rfl rfl rfl rfl rfl rfl).trans (am_g_congr fun h102 => ?_)
  refine am_bind_congr fun r103 => ?_
  show am_Ex d 182 5 [(2, x0), (0, x1), (0, x2)] [(0, r103.1)] r103.2 = _
  exact (am_e4z rfl rfl).trans rfl
-- 183: UnlearnedHand.smell(I)I
set_option maxRecDepth 10000 in
theorem aq_183 (d : Nat) (x0 x1 : Int) (M : am_M) : am_Call d 183 [(2, x0), (0, x1)] M = (if x1 = 0 then (am_Ex d 183 8 [am_N, am_N] [] M) else (am_g (am_ob x0 10) <| am_g (am_ob (am_rd M x0 0) 2) <| (am_Call d 108 [(2, am_rd M x0 0), (0, x1)] M).bind fun r104 => if r104.1 = 0 then (am_Ex d 183 8 [am_N, am_N] [] r104.2) else (am_g (am_ob (am_rd r104.2 x0 0) 2) <| (am_Call d 15 [(2, am_rd r104.2 x0 0), (0, x1)] r104.2).bind fun r107 => some (r107.1, r107.2)))) := by
  show am_Ex d 183 0 [(2, x0), (0, x1)] [] M = _
  refine (am_e0 rfl rfl).trans ?_
  refine (am_z_eq rfl).trans (am_if_congr (fun c101 => ?_) (fun c101 => ?_))
  · exact (am_e5 rfl).trans rfl
  · refine (am_e0 rfl rfl).trans ?_
    refine (am_gf (c := 10) (t := 2) rfl rfl rfl).trans (am_g_congr fun h102 => ?_)
    refine (am_e0 rfl rfl).trans ?_
    refine (am_cal3 (z := 108) (k := 2) (c := (am_ob (am_rd M x0 0) 2)) rfl rfl rfl rfl rfl rfl rfl rfl).trans (am_g_congr fun h103 => ?_)
    refine am_bind_congr fun r104 => ?_
    show am_Ex d 183 6 [(2, x0), (0, x1)] [(0, r104.1)] r104.2 = _
    refine (am_z_ne rfl).trans (am_if_congr (fun c105 => ?_) (fun c105 => ?_))
    · exact (am_e5 rfl).trans rfl
    · refine (am_e0 rfl rfl).trans ?_
      refine (am_gf (c := 10) (t := 2) rfl rfl rfl).trans ((am_g_t h102).trans ?_)
      refine (am_e0 rfl rfl).trans ?_
      refine (am_cal3 (z := 15) (k := 2) (c := (am_ob (am_rd r104.2 x0 0) 2)) rfl rfl rfl rfl rfl rfl rfl rfl).trans (am_g_congr fun h106 => ?_)
      refine am_bind_congr fun r107 => ?_
      show am_Ex d 183 14 [(2, x0), (0, x1)] [(0, r107.1)] r107.2 = _
      exact (am_e4i rfl rfl).trans rfl
set_option maxRecDepth 10000 in
theorem aq_183_8 (d : Nat) (M : am_M) : am_Ex d 183 8 [am_N, am_N] [] M = (some ((-1), M)) := by
  refine (am_e0 rfl rfl).trans ?_
  refine (am_e1 rfl rfl).trans ?_
  exact (am_e4i rfl rfl).trans rfl
-- 184: UnlearnedHand.teach(III)I
set_option maxRecDepth 10000 in
theorem aq_184 (d : Nat) (x0 x1 x2 x3 : Int) (M : am_M) : am_Call d 184 [(2, x0), (0, x1), (0, x2), (0, x3)] M = (am_g (am_ob x0 10) <| am_g (am_ob (am_rd M x0 0) 2) <| (am_Call d 107 [(2, am_rd M x0 0), (0, x1), (0, x2)] M).bind fun r103 => if r103.1 = 0 then (some ((-1), r103.2)) else (if x3 < 1 then (some ((-1), r103.2)) else (if x3 ≤ 99 then (am_g (am_ob (am_rd r103.2 x0 2) 3) <| (am_Call d 118 [(2, am_rd r103.2 x0 2), (0, x1), (0, x2)] r103.2).bind fun r108 => if r108.1 = 0 then (some ((-1), r108.2)) else (am_g (am_ob (am_rd r108.2 x0 4) 9) <| (am_Call d 134 [(2, am_rd r108.2 x0 4), (2, am_rd r108.2 x0 2)] r108.2).bind fun r111 => am_g (am_ob (am_rd r111.2 x0 2) 3) <| (am_Call d 114 [(2, am_rd r111.2 x0 2), (0, x1), (0, x2)] r111.2).bind fun r113 => (am_Call d 119 [(2, am_rd r111.2 x0 2), (0, x1), (0, x2), (0, am_w32 (r113.1 + x3))] r113.2).bind fun r114 => am_g (am_ob (am_rd r114.2 x0 2) 3) <| (am_Call d 114 [(2, am_rd r114.2 x0 2), (0, x1), (0, x2)] r114.2).bind fun r116 => some (r116.1, r116.2))) else (some ((-1), r103.2))))) := by
  show am_Ex d 184 0 [(2, x0), (0, x1), (0, x2), (0, x3)] [] M = _
  refine (am_e0 rfl rfl).trans ?_
  refine (am_gf (c := 10) (t := 2) rfl rfl rfl).trans (am_g_congr fun h101 => ?_)
  refine (am_e0 rfl rfl).trans ?_
  refine (am_e0 rfl rfl).trans ?_
  refine (am_cal3 (z := 107) (k := 3) (c := (am_ob (am_rd M x0 0) 2)) rfl rfl rfl rfl rfl rfl rfl rfl).trans (am_g_congr fun h102 => ?_)
  refine am_bind_congr fun r103 => ?_
  show am_Ex d 184 5 [(2, x0), (0, x1), (0, x2), (0, x3)] [(0, r103.1)] r103.2 = _
  refine (am_z_eq rfl).trans (am_if_congr (fun c104 => ?_) (fun c104 => ?_))
  · refine (am_e5 rfl).trans ?_
    show am_Ex d 184 19 [am_N, am_N, am_N, am_N] [] r103.2 = _
    refine (am_e0 rfl rfl).trans ?_
    exact (am_e4i rfl rfl).trans rfl
  · refine (am_e0 rfl rfl).trans ?_
    refine (am_e0 rfl rfl).trans ?_
    refine (am_i_lt rfl).trans (am_if_congr (fun c105 => ?_) (fun c105 => ?_))
    · refine (am_e5 rfl).trans ?_
      show am_Ex d 184 19 [am_N, am_N, am_N, am_N] [] r103.2 = _
      refine (am_e0 rfl rfl).trans ?_
      exact (am_e4i rfl rfl).trans rfl
    · refine (am_e0 rfl rfl).trans ?_
      refine (am_e0 rfl rfl).trans ?_
      refine (am_i_gt rfl).trans (am_if_congr (fun c106 => ?_) (fun c106 => ?_))
      · refine (am_e0 rfl rfl).trans ?_
        refine (am_gf (c := 10) (t := 2) rfl rfl rfl).trans ((am_g_t h101).trans ?_)
        refine (am_e0 rfl rfl).trans ?_
        refine (am_e0 rfl rfl).trans ?_
        refine (am_cal3 (z := 118) (k := 3) (c := (am_ob (am_rd r103.2 x0 2) 3)) rfl rfl rfl rfl rfl rfl rfl rfl).trans (am_g_congr fun h107 => ?_)
        refine am_bind_congr fun r108 => ?_
        show am_Ex d 184 17 [(2, x0), (0, x1), (0, x2), (0, x3)] [(0, r108.1)] r108.2 = _
        refine (am_z_ne rfl).trans (am_if_congr (fun c109 => ?_) (fun c109 => ?_))
        · refine (am_e5 rfl).trans ?_
          show am_Ex d 184 19 [am_N, am_N, am_N, am_N] [] r108.2 = _
          refine (am_e0 rfl rfl).trans ?_
          exact (am_e4i rfl rfl).trans rfl
        · refine (am_e0 rfl rfl).trans ?_
          refine (am_gf (c := 10) (t := 2) rfl rfl rfl).trans ((am_g_t h101).trans ?_)
          refine (am_e0 rfl rfl).trans ?_
          refine (am_gf (c := 10) (t := 2) rfl rfl rfl).trans ((am_g_t h101).trans ?_)
          refine (am_cal3 (z := 134) (k := 2) (c := (am_ob (am_rd r108.2 x0 4) 9)) rfl rfl rfl rfl rfl rfl rfl rfl).trans (am_g_congr fun h110 => ?_)
          refine am_bind_congr fun r111 => ?_
          show am_Ex d 184 26 [(2, x0), (0, x1), (0, x2), (0, x3)] [] r111.2 = _
          refine (am_e0 rfl rfl).trans ?_
          refine (am_gf (c := 10) (t := 2) rfl rfl rfl).trans ((am_g_t h101).trans ?_)
          refine (am_e0 rfl rfl).trans ?_
          refine (am_e0 rfl rfl).trans ?_
          refine (am_e0 rfl rfl).trans ?_
          refine (am_gf (c := 10) (t := 2) rfl rfl rfl).trans ((am_g_t h101).trans ?_)
          refine (am_e0 rfl rfl).trans ?_
          refine (am_e0 rfl rfl).trans ?_
          refine (am_cal3 (z := 114) (k := 3) (c := (am_ob (am_rd r111.2 x0 2) 3)) rfl rfl rfl rfl rfl rfl rfl rfl).trans (am_g_congr fun h112 => ?_)
          refine am_bind_congr fun r113 => ?_
          show am_Ex d 184 35 [(2, x0), (0, x1), (0, x2), (0, x3)] [(0, r113.1), (0, x2), (0, x1), (2, am_rd r111.2 x0 2)] r113.2 = _
          refine (am_e0 rfl rfl).trans ?_
          refine (am_e0 rfl rfl).trans ?_
          refine (am_cal3 (z := 119) (k := 4) (c := (am_ob (am_rd r111.2 x0 2) 3)) rfl rfl rfl rfl rfl rfl rfl rfl).trans ((am_g_t h112).trans ?_)
          refine am_bind_congr fun r114 => ?_
          show am_Ex d 184 38 [(2, x0), (0, x1), (0, x2), (0, x3)] [] r114.2 = _
          refine (am_e0 rfl rfl).trans ?_
          refine (am_gf (c := 10) (t := 2) rfl rfl rfl).trans ((am_g_t h101).trans ?_)
          refine (am_e0 rfl rfl).trans ?_
          refine (am_e0 rfl rfl).trans ?_
          refine (am_cal3 (z := 114) (k := 3) (c := (am_ob (am_rd r114.2 x0 2) 3)) rfl rfl rfl rfl rfl rfl rfl rfl).trans (am_g_congr fun h115 => ?_)
          refine am_bind_congr fun r116 => ?_
          show am_Ex d 184 43 [(2, x0), (0, x1), (0, x2), (0, x3)] [(0, r116.1)] r116.2 = _
          exact (am_e4i rfl rfl).trans rfl
      · refine (am_e5 rfl).trans ?_
        show am_Ex d 184 19 [am_N, am_N, am_N, am_N] [] r103.2 = _
        refine (am_e0 rfl rfl).trans ?_
        exact (am_e4i rfl rfl).trans rfl
-- 185: UnlearnedHand.sing(IIZ)Z
set_option maxRecDepth 10000 in
theorem aq_185 (d : Nat) (x0 x1 x2 x3 : Int) (M : am_M) : am_Call d 185 [(2, x0), (0, x1), (0, x2), (0, x3)] M = (am_g (am_ob x0 10) <| am_g (am_ob (am_rd M x0 0) 2) <| (am_Call d 107 [(2, am_rd M x0 0), (0, x1), (0, x2)] M).bind fun r103 => if r103.1 = 0 then (some (0, r103.2)) else (am_g (am_ob (am_rd r103.2 x0 2) 3) <| (am_Call d 25 [(2, am_rd r103.2 x0 2), (0, x1)] r103.2).bind fun r106 => if r106.1 = 0 then (am_g (am_ob (am_rd r106.2 x0 2) 3) <| (am_Call d 117 [(2, am_rd r106.2 x0 2), (0, x1), (0, x2)] r106.2).bind fun r109 => if r109.1 = x3 then (some (0, r109.2)) else (am_g (am_ob (am_rd r109.2 x0 4) 9) <| (am_Call d 134 [(2, am_rd r109.2 x0 4), (2, am_rd r109.2 x0 2)] r109.2).bind fun r112 => am_g (am_ob (am_rd r112.2 x0 2) 3) <| (am_Call d 121 [(2, am_rd r112.2 x0 2), (0, x1), (0, x2)] r112.2).bind fun r114 => some (1, r114.2))) else (some (0, r106.2)))) := by
  show am_Ex d 185 0 [(2, x0), (0, x1), (0, x2), (0, x3)] [] M = _
  refine (am_e0 rfl rfl).trans ?_
  refine (am_gf (c := 10) (t := 2) rfl rfl rfl).trans (am_g_congr fun h101 => ?_)
  refine (am_e0 rfl rfl).trans ?_
  refine (am_e0 rfl rfl).trans ?_
  refine (am_cal3 (z := 107) (k := 3) (c := (am_ob (am_rd M x0 0) 2)) rfl rfl rfl rfl rfl rfl rfl rfl).trans (am_g_congr fun h102 => ?_)
  refine am_bind_congr fun r103 => ?_
  show am_Ex d 185 5 [(2, x0), (0, x1), (0, x2), (0, x3)] [(0, r103.1)] r103.2 = _
  refine (am_z_eq rfl).trans (am_if_congr (fun c104 => ?_) (fun c104 => ?_))
  · refine (am_e5 rfl).trans ?_
    show am_Ex d 185 19 [am_N, am_N, am_N, am_N] [] r103.2 = _
    refine (am_e0 rfl rfl).trans ?_
    exact (am_e4i rfl rfl).trans rfl
  · refine (am_e0 rfl rfl).trans ?_
    refine (am_gf (c := 10) (t := 2) rfl rfl rfl).trans ((am_g_t h101).trans ?_)
    refine (am_e0 rfl rfl).trans ?_
    refine (am_cal3 (z := 25) (k := 2) (c := (am_ob (am_rd r103.2 x0 2) 3)) rfl rfl rfl rfl rfl rfl rfl rfl).trans (am_g_congr fun h105 => ?_)
    refine am_bind_congr fun r106 => ?_
    show am_Ex d 185 10 [(2, x0), (0, x1), (0, x2), (0, x3)] [(0, r106.1)] r106.2 = _
    refine (am_z_ne rfl).trans (am_if_congr (fun c107 => ?_) (fun c107 => ?_))
    · refine (am_e0 rfl rfl).trans ?_
      refine (am_gf (c := 10) (t := 2) rfl rfl rfl).trans ((am_g_t h101).trans ?_)
      refine (am_e0 rfl rfl).trans ?_
      refine (am_e0 rfl rfl).trans ?_
      refine (am_cal3 (z := 117) (k := 3) (c := (am_ob (am_rd r106.2 x0 2) 3)) rfl rfl rfl rfl rfl rfl rfl rfl).trans (am_g_congr fun h108 => ?_)
      refine am_bind_congr fun r109 => ?_
      show am_Ex d 185 16 [(2, x0), (0, x1), (0, x2), (0, x3)] [(0, r109.1)] r109.2 = _
      refine (am_e0 rfl rfl).trans ?_
      refine (am_i_ne rfl).trans (am_if_congr (fun c110 => ?_) (fun c110 => ?_))
      · refine (am_e5 rfl).trans ?_
        show am_Ex d 185 19 [am_N, am_N, am_N, am_N] [] r109.2 = _
        refine (am_e0 rfl rfl).trans ?_
        exact (am_e4i rfl rfl).trans rfl
      · refine (am_e0 rfl rfl).trans ?_
        refine (am_gf (c := 10) (t := 2) rfl rfl rfl).trans ((am_g_t h101).trans ?_)
        refine (am_e0 rfl rfl).trans ?_
        refine (am_gf (c := 10) (t := 2) rfl rfl rfl).trans ((am_g_t h101).trans ?_)
        refine (am_cal3 (z := 134) (k := 2) (c := (am_ob (am_rd r109.2 x0 4) 9)) rfl rfl rfl rfl rfl rfl rfl rfl).trans (am_g_congr fun h111 => ?_)
        refine am_bind_congr fun r112 => ?_
        show am_Ex d 185 26 [(2, x0), (0, x1), (0, x2), (0, x3)] [] r112.2 = _
        refine (am_e0 rfl rfl).trans ?_
        refine (am_gf (c := 10) (t := 2) rfl rfl rfl).trans ((am_g_t h101).trans ?_)
        refine (am_e0 rfl rfl).trans ?_
        refine (am_e0 rfl rfl).trans ?_
        refine (am_cal3 (z := 121) (k := 3) (c := (am_ob (am_rd r112.2 x0 2) 3)) rfl rfl rfl rfl rfl rfl rfl rfl).trans (am_g_congr fun h113 => ?_)
        refine am_bind_congr fun r114 => ?_
        show am_Ex d 185 31 [(2, x0), (0, x1), (0, x2), (0, x3)] [] r114.2 = _
        refine (am_e0 rfl rfl).trans ?_
        exact (am_e4i rfl rfl).trans rfl
    · refine (am_e5 rfl).trans ?_
      show am_Ex d 185 19 [am_N, am_N, am_N, am_N] [] r106.2 = _
      refine (am_e0 rfl rfl).trans ?_
      exact (am_e4i rfl rfl).trans rfl
-- 186: UnlearnedHand.tie(II)Z
set_option maxRecDepth 10000 in
theorem aq_186 (d : Nat) (x0 x1 x2 : Int) (M : am_M) : am_Call d 186 [(2, x0), (0, x1), (0, x2)] M = (if x2 = (-1) then (am_g (am_ob x0 10) <| am_g (am_ob (am_rd M x0 0) 2) <| (am_Call d 8 [(2, am_rd M x0 0), (0, x1)] M).bind fun r104 => if r104.1 = 0 then (some (0, r104.2)) else (am_g (am_ob (am_rd r104.2 x0 2) 3) <| (am_Call d 25 [(2, am_rd r104.2 x0 2), (0, x1)] r104.2).bind fun r107 => if r107.1 = 0 then (am_g (am_ob (am_rd r107.2 x0 2) 3) <| (am_Call d 24 [(2, am_rd r107.2 x0 2), (0, x1)] r107.2).bind fun r110 => if r110.1 = x2 then (some (0, r110.2)) else (am_g (am_ob (am_rd r110.2 x0 4) 9) <| (am_Call d 134 [(2, am_rd r110.2 x0 4), (2, am_rd r110.2 x0 2)] r110.2).bind fun r113 => am_g (am_ob (am_rd r113.2 x0 2) 3) <| (am_Call d 26 [(2, am_rd r113.2 x0 2), (0, x1), (0, x2)] r113.2).bind fun r115 => some (1, r115.2))) else (some (0, r107.2)))) else (am_g (am_ob x0 10) <| am_g (am_ob (am_rd M x0 0) 2) <| (am_Call d 107 [(2, am_rd M x0 0), (0, x1), (0, x2)] M).bind fun r118 => if r118.1 = 0 then (some (0, r118.2)) else (am_g (am_ob (am_rd r118.2 x0 2) 3) <| (am_Call d 25 [(2, am_rd r118.2 x0 2), (0, x1)] r118.2).bind fun r121 => if r121.1 = 0 then (am_g (am_ob (am_rd r121.2 x0 2) 3) <| (am_Call d 24 [(2, am_rd r121.2 x0 2), (0, x1)] r121.2).bind fun r124 => if r124.1 = x2 then (some (0, r124.2)) else (am_g (am_ob (am_rd r124.2 x0 4) 9) <| (am_Call d 134 [(2, am_rd r124.2 x0 4), (2, am_rd r124.2 x0 2)] r124.2).bind fun r127 => am_g (am_ob (am_rd r127.2 x0 2) 3) <| (am_Call d 26 [(2, am_rd r127.2 x0 2), (0, x1), (0, x2)] r127.2).bind fun r129 => some (1, r129.2))) else (some (0, r121.2))))) := by
  show am_Ex d 186 0 [(2, x0), (0, x1), (0, x2), am_N] [] M = _
  refine (am_e0 rfl rfl).trans ?_
  refine (am_e0 rfl rfl).trans ?_
  refine (am_i_ne rfl).trans (am_if_congr (fun c101 => ?_) (fun c101 => ?_))
  · refine (am_e0 rfl rfl).trans ?_
    refine (am_gf (c := 10) (t := 2) rfl rfl rfl).trans (am_g_congr fun h102 => ?_)
    refine (am_e0 rfl rfl).trans ?_
    refine (am_cal3 (z := 8) (k := 2) (c := (am_ob (am_rd M x0 0) 2)) rfl rfl rfl rfl rfl rfl rfl rfl).trans (am_g_congr fun h103 => ?_)
    refine am_bind_congr fun r104 => ?_
    show am_Ex d 186 7 [(2, x0), (0, x1), (0, x2), am_N] [(0, r104.1)] r104.2 = _
    refine (am_e1 rfl rfl).trans ?_
    refine (am_e0 rfl rfl).trans ?_
    refine (am_e0 rfl rfl).trans ?_
    refine (am_z_eq rfl).trans (am_if_congr (fun c105 => ?_) (fun c105 => ?_))
    · refine (am_e5 rfl).trans ?_
      show am_Ex d 186 28 [am_N, am_N, am_N, am_N] [] r104.2 = _
      refine (am_e0 rfl rfl).trans ?_
      exact (am_e4i rfl rfl).trans rfl
    · refine (am_e0 rfl rfl).trans ?_
      refine (am_gf (c := 10) (t := 2) rfl rfl rfl).trans ((am_g_t h102).trans ?_)
      refine (am_e0 rfl rfl).trans ?_
      refine (am_cal3 (z := 25) (k := 2) (c := (am_ob (am_rd r104.2 x0 2) 3)) rfl rfl rfl rfl rfl rfl rfl rfl).trans (am_g_congr fun h106 => ?_)
      refine am_bind_congr fun r107 => ?_
      show am_Ex d 186 20 [(2, x0), (0, x1), (0, x2), (0, r104.1)] [(0, r107.1)] r107.2 = _
      refine (am_z_ne rfl).trans (am_if_congr (fun c108 => ?_) (fun c108 => ?_))
      · refine (am_e0 rfl rfl).trans ?_
        refine (am_gf (c := 10) (t := 2) rfl rfl rfl).trans ((am_g_t h102).trans ?_)
        refine (am_e0 rfl rfl).trans ?_
        refine (am_cal3 (z := 24) (k := 2) (c := (am_ob (am_rd r107.2 x0 2) 3)) rfl rfl rfl rfl rfl rfl rfl rfl).trans (am_g_congr fun h109 => ?_)
        refine am_bind_congr fun r110 => ?_
        show am_Ex d 186 25 [(2, x0), (0, x1), (0, x2), (0, r104.1)] [(0, r110.1)] r110.2 = _
        refine (am_e0 rfl rfl).trans ?_
        refine (am_i_ne rfl).trans (am_if_congr (fun c111 => ?_) (fun c111 => ?_))
        · refine (am_e5 rfl).trans ?_
          show am_Ex d 186 28 [am_N, am_N, am_N, am_N] [] r110.2 = _
          refine (am_e0 rfl rfl).trans ?_
          exact (am_e4i rfl rfl).trans rfl
        · refine (am_e0 rfl rfl).trans ?_
          refine (am_gf (c := 10) (t := 2) rfl rfl rfl).trans ((am_g_t h102).trans ?_)
          refine (am_e0 rfl rfl).trans ?_
          refine (am_gf (c := 10) (t := 2) rfl rfl rfl).trans ((am_g_t h102).trans ?_)
          refine (am_cal3 (z := 134) (k := 2) (c := (am_ob (am_rd r110.2 x0 4) 9)) rfl rfl rfl rfl rfl rfl rfl rfl).trans (am_g_congr fun h112 => ?_)
          refine am_bind_congr fun r113 => ?_
          show am_Ex d 186 35 [(2, x0), (0, x1), (0, x2), (0, r104.1)] [] r113.2 = _
          refine (am_e0 rfl rfl).trans ?_
          refine (am_gf (c := 10) (t := 2) rfl rfl rfl).trans ((am_g_t h102).trans ?_)
          refine (am_e0 rfl rfl).trans ?_
          refine (am_e0 rfl rfl).trans ?_
          refine (am_cal3 (z := 26) (k := 3) (c := (am_ob (am_rd r113.2 x0 2) 3)) rfl rfl rfl rfl rfl rfl rfl rfl).trans (am_g_congr fun h114 => ?_)
          refine am_bind_congr fun r115 => ?_
          show am_Ex d 186 40 [(2, x0), (0, x1), (0, x2), (0, r104.1)] [] r115.2 = _
          refine (am_e0 rfl rfl).trans ?_
          exact (am_e4i rfl rfl).trans rfl
      · refine (am_e5 rfl).trans ?_
        show am_Ex d 186 28 [am_N, am_N, am_N, am_N] [] r107.2 = _
        refine (am_e0 rfl rfl).trans ?_
        exact (am_e4i rfl rfl).trans rfl
  · refine (am_e0 rfl rfl).trans ?_
    refine (am_gf (c := 10) (t := 2) rfl rfl rfl).trans (am_g_congr fun h116 => ?_)
    refine (am_e0 rfl rfl).trans ?_
    refine (am_e0 rfl rfl).trans ?_
    refine (am_cal3 (z := 107) (k := 3) (c := (am_ob (am_rd M x0 0) 2)) rfl rfl rfl rfl rfl rfl rfl rfl).trans (am_g_congr fun h117 => ?_)
    refine am_bind_congr fun r118 => ?_
    show am_Ex d 186 13 [(2, x0), (0, x1), (0, x2), am_N] [(0, r118.1)] r118.2 = _
    refine (am_e0 rfl rfl).trans ?_
    refine (am_e0 rfl rfl).trans ?_
    refine (am_z_eq rfl).trans (am_if_congr (fun c119 => ?_) (fun c119 => ?_))
    · refine (am_e5 rfl).trans ?_
      show am_Ex d 186 28 [am_N, am_N, am_N, am_N] [] r118.2 = _
      refine (am_e0 rfl rfl).trans ?_
      exact (am_e4i rfl rfl).trans rfl
    · refine (am_e0 rfl rfl).trans ?_
      refine (am_gf (c := 10) (t := 2) rfl rfl rfl).trans ((am_g_t h116).trans ?_)
      refine (am_e0 rfl rfl).trans ?_
      refine (am_cal3 (z := 25) (k := 2) (c := (am_ob (am_rd r118.2 x0 2) 3)) rfl rfl rfl rfl rfl rfl rfl rfl).trans (am_g_congr fun h120 => ?_)
      refine am_bind_congr fun r121 => ?_
      show am_Ex d 186 20 [(2, x0), (0, x1), (0, x2), (0, r118.1)] [(0, r121.1)] r121.2 = _
      refine (am_z_ne rfl).trans (am_if_congr (fun c122 => ?_) (fun c122 => ?_))
      · refine (am_e0 rfl rfl).trans ?_
        refine (am_gf (c := 10) (t := 2) rfl rfl rfl).trans ((am_g_t h116).trans ?_)
        refine (am_e0 rfl rfl).trans ?_
        refine (am_cal3 (z := 24) (k := 2) (c := (am_ob (am_rd r121.2 x0 2) 3)) rfl rfl rfl rfl rfl rfl rfl rfl).trans (am_g_congr fun h123 => ?_)
        refine am_bind_congr fun r124 => ?_
        show am_Ex d 186 25 [(2, x0), (0, x1), (0, x2), (0, r118.1)] [(0, r124.1)] r124.2 = _
        refine (am_e0 rfl rfl).trans ?_
        refine (am_i_ne rfl).trans (am_if_congr (fun c125 => ?_) (fun c125 => ?_))
        · refine (am_e5 rfl).trans ?_
          show am_Ex d 186 28 [am_N, am_N, am_N, am_N] [] r124.2 = _
          refine (am_e0 rfl rfl).trans ?_
          exact (am_e4i rfl rfl).trans rfl
        · refine (am_e0 rfl rfl).trans ?_
          refine (am_gf (c := 10) (t := 2) rfl rfl rfl).trans ((am_g_t h116).trans ?_)
          refine (am_e0 rfl rfl).trans ?_
          refine (am_gf (c := 10) (t := 2) rfl rfl rfl).trans ((am_g_t h116).trans ?_)
          refine (am_cal3 (z := 134) (k := 2) (c := (am_ob (am_rd r124.2 x0 4) 9)) rfl rfl rfl rfl rfl rfl rfl rfl).trans (am_g_congr fun h126 => ?_)
          refine am_bind_congr fun r127 => ?_
          show am_Ex d 186 35 [(2, x0), (0, x1), (0, x2), (0, r118.1)] [] r127.2 = _
          refine (am_e0 rfl rfl).trans ?_
          refine (am_gf (c := 10) (t := 2) rfl rfl rfl).trans ((am_g_t h116).trans ?_)
          refine (am_e0 rfl rfl).trans ?_
          refine (am_e0 rfl rfl).trans ?_
          refine (am_cal3 (z := 26) (k := 3) (c := (am_ob (am_rd r127.2 x0 2) 3)) rfl rfl rfl rfl rfl rfl rfl rfl).trans (am_g_congr fun h128 => ?_)
          refine am_bind_congr fun r129 => ?_
          show am_Ex d 186 40 [(2, x0), (0, x1), (0, x2), (0, r118.1)] [] r129.2 = _
          refine (am_e0 rfl rfl).trans ?_
          exact (am_e4i rfl rfl).trans rfl
      · refine (am_e5 rfl).trans ?_
        show am_Ex d 186 28 [am_N, am_N, am_N, am_N] [] r121.2 = _
        refine (am_e0 rfl rfl).trans ?_
        exact (am_e4i rfl rfl).trans rfl
-- 187: UnlearnedHand.undo()I
set_option maxRecDepth 10000 in
theorem aq_187 (d : Nat) (x0 : Int) (M : am_M) : am_Call d 187 [(2, x0)] M = (am_g (am_ob x0 10) <| am_g (am_ob (am_rd M x0 4) 9) <| (am_Call d 135 [(2, am_rd M x0 4), (2, am_rd M x0 2)] M).bind fun r103 => some (r103.1, r103.2)) := by
  show am_Ex d 187 0 [(2, x0)] [] M = _
  refine (am_e0 rfl rfl).trans ?_
  refine (am_gf (c := 10) (t := 2) rfl rfl rfl).trans (am_g_congr fun h101 => ?_)
  refine (am_e0 rfl rfl).trans ?_
  refine (am_gf (c := 10) (t := 2) rfl rfl rfl).trans ((am_g_t h101).trans ?_)
  refine (am_cal3 (z := 135) (k := 2) (c := (am_ob (am_rd M x0 4) 9)) rfl rfl rfl rfl rfl rfl rfl rfl).trans (am_g_congr fun h102 => ?_)
  refine am_bind_congr fun r103 => ?_
  show am_Ex d 187 5 [(2, x0)] [(0, r103.1)] r103.2 = _
  exact (am_e4i rfl rfl).trans rfl
-- 188: UnlearnedHand.ofTurn(II)I
set_option maxRecDepth 10000 in
theorem aq_188 (d : Nat) (x0 x1 x2 : Int) (M : am_M) : am_Call d 188 [(2, x0), (0, x1), (0, x2)] M = (am_g (am_ob x0 10) <| am_g (am_ob (am_rd M x0 0) 2) <| (am_Call d 7 [(2, am_rd M x0 0), (0, x1)] M).bind fun r103 => if r103.1 = 0 then (some ((-1), r103.2)) else (if x2 < 0 then (some ((-1), r103.2)) else (if x2 ≤ 1 then (if x2 = 0 then (am_g (am_ob (am_rd r103.2 x0 0) 2) <| (am_Call d 110 [(2, am_rd r103.2 x0 0), (0, x1)] r103.2).bind fun r109 => some (r109.1, r109.2)) else (am_g (am_ob (am_rd r103.2 x0 0) 2) <| (am_Call d 111 [(2, am_rd r103.2 x0 0), (0, x1)] r103.2).bind fun r111 => some (r111.1, r111.2))) else (some ((-1), r103.2))))) := by
  show am_Ex d 188 0 [(2, x0), (0, x1), (0, x2)] [] M = _
  refine (am_e0 rfl rfl).trans ?_
  refine (am_gf (c := 10) (t := 2) rfl rfl rfl).trans (am_g_congr fun h101 => ?_)
  refine (am_e0 rfl rfl).trans ?_
  refine (am_cal3 (z := 7) (k := 2) (c := (am_ob (am_rd M x0 0) 2)) rfl rfl rfl rfl rfl rfl rfl rfl).trans (am_g_congr fun h102 => ?_)
  refine am_bind_congr fun r103 => ?_
  show am_Ex d 188 4 [(2, x0), (0, x1), (0, x2)] [(0, r103.1)] r103.2 = _
  refine (am_z_eq rfl).trans (am_if_congr (fun c104 => ?_) (fun c104 => ?_))
  · refine (am_e5 rfl).trans ?_
    show am_Ex d 188 11 [am_N, am_N, am_N] [] r103.2 = _
    refine (am_e0 rfl rfl).trans ?_
    exact (am_e4i rfl rfl).trans rfl
  · refine (am_e0 rfl rfl).trans ?_
    refine (am_z_lt rfl).trans (am_if_congr (fun c105 => ?_) (fun c105 => ?_))
    · refine (am_e5 rfl).trans ?_
      show am_Ex d 188 11 [am_N, am_N, am_N] [] r103.2 = _
      refine (am_e0 rfl rfl).trans ?_
      exact (am_e4i rfl rfl).trans rfl
    · refine (am_e0 rfl rfl).trans ?_
      refine (am_e0 rfl rfl).trans ?_
      refine (am_i_le rfl).trans (am_if_congr (fun c106 => ?_) (fun c106 => ?_))
      · refine (am_e0 rfl rfl).trans ?_
        refine (am_z_ne rfl).trans (am_if_congr (fun c107 => ?_) (fun c107 => ?_))
        · refine (am_e0 rfl rfl).trans ?_
          refine (am_gf (c := 10) (t := 2) rfl rfl rfl).trans ((am_g_t h101).trans ?_)
          refine (am_e0 rfl rfl).trans ?_
          refine (am_cal3 (z := 110) (k := 2) (c := (am_ob (am_rd r103.2 x0 0) 2)) rfl rfl rfl rfl rfl rfl rfl rfl).trans (am_g_congr fun h108 => ?_)
          refine am_bind_congr fun r109 => ?_
          show am_Ex d 188 19 [(2, x0), (0, x1), (0, x2)] [(0, r109.1)] r109.2 = _
          refine (am_e1 rfl rfl).trans ?_
          exact (am_e4i rfl rfl).trans rfl
        · refine (am_e0 rfl rfl).trans ?_
          refine (am_gf (c := 10) (t := 2) rfl rfl rfl).trans ((am_g_t h101).trans ?_)
          refine (am_e0 rfl rfl).trans ?_
          refine (am_cal3 (z := 111) (k := 2) (c := (am_ob (am_rd r103.2 x0 0) 2)) rfl rfl rfl rfl rfl rfl rfl rfl).trans (am_g_congr fun h110 => ?_)
          refine am_bind_congr fun r111 => ?_
          show am_Ex d 188 24 [(2, x0), (0, x1), (0, x2)] [(0, r111.1)] r111.2 = _
          exact (am_e4i rfl rfl).trans rfl
      · refine (am_e5 rfl).trans ?_
        show am_Ex d 188 11 [am_N, am_N, am_N] [] r103.2 = _
        refine (am_e0 rfl rfl).trans ?_
        exact (am_e4i rfl rfl).trans rfl
-- 189: UnlearnedHand.fewSmells(I)I
set_option maxRecDepth 10000 in
theorem aq_189 (d : Nat) (x0 x1 : Int) (M : am_M) : am_Call d 189 [(2, x0), (0, x1)] M = (am_g (am_ob x0 10) <| am_g (am_ob (am_rd M x0 0) 2) <| (am_Call d 108 [(2, am_rd M x0 0), (0, x1)] M).bind fun r103 => if r103.1 = 0 then (some ((-1), r103.2)) else (am_g (am_ob (am_rd r103.2 x0 13) 7) <| (am_Call d 130 [(2, am_rd r103.2 x0 13), (0, x1)] r103.2).bind fun r106 => some (r106.1, r106.2))) := by
  show am_Ex d 189 0 [(2, x0), (0, x1)] [] M = _
  refine (am_e0 rfl rfl).trans ?_
  refine (am_gf (c := 10) (t := 2) rfl rfl rfl).trans (am_g_congr fun h101 => ?_)
  refine (am_e0 rfl rfl).trans ?_
  refine (am_cal3 (z := 108) (k := 2) (c := (am_ob (am_rd M x0 0) 2)) rfl rfl rfl rfl rfl rfl rfl rfl).trans (am_g_congr fun h102 => ?_)
  refine am_bind_congr fun r103 => ?_
  show am_Ex d 189 4 [(2, x0), (0, x1)] [(0, r103.1)] r103.2 = _
  refine (am_z_eq rfl).trans (am_if_congr (fun c104 => ?_) (fun c104 => ?_))
  · refine (am_e0 rfl rfl).trans ?_
    exact (am_e4i rfl rfl).trans rfl
  · refine (am_e0 rfl rfl).trans ?_
    refine (am_gf (c := 10) (t := 2) rfl rfl rfl).trans ((am_g_t h101).trans ?_)
    refine (am_e0 rfl rfl).trans ?_
    refine (am_cal3 (z := 130) (k := 2) (c := (am_ob (am_rd r103.2 x0 13) 7)) rfl rfl rfl rfl rfl rfl rfl rfl).trans (am_g_congr fun h105 => ?_)
    refine am_bind_congr fun r106 => ?_
    show am_Ex d 189 9 [(2, x0), (0, x1)] [(0, r106.1)] r106.2 = _
    refine (am_e1 rfl rfl).trans ?_
    exact (am_e4i rfl rfl).trans rfl
-- 190: UnlearnedHand.image()I
set_option maxRecDepth 10000 in
theorem aq_190 (d : Nat) (x0 : Int) (M : am_M) : am_Call d 190 [(2, x0)] M = (am_g (am_ob x0 10) <| am_g (am_ob (am_rd M x0 1) 2) <| (am_Call d 6 [(2, am_rd M x0 1), (2, am_rd M x0 0)] M).bind fun r103 => am_g (am_ob (am_rd r103.2 x0 3) 3) <| (am_Call d 22 [(2, am_rd r103.2 x0 3), (2, am_rd r103.2 x0 2)] r103.2).bind fun r105 => am_g (am_ob (am_rd r105.2 x0 5) 9) <| (am_Call d 133 [(2, am_rd r105.2 x0 5), (2, am_rd r105.2 x0 4)] r105.2).bind fun r107 => am_g (am_ob (am_rd r107.2 x0 2) 3) <| some (am_rd r107.2 (am_rd r107.2 x0 2) 6, r107.2)) := by
  show am_Ex d 190 0 [(2, x0)] [] M = _
  refine (am_e0 rfl rfl).trans ?_
  refine (am_gf (c := 10) (t := 2) rfl rfl rfl).trans (am_g_congr fun h101 => ?_)
  refine (am_e0 rfl rfl).trans ?_
  refine (am_gf (c := 10) (t := 2) rfl rfl rfl).trans ((am_g_t h101).trans ?_)
  refine (am_cal3 (z := 6) (k := 2) (c := (am_ob (am_rd M x0 1) 2)) rfl rfl rfl rfl rfl rfl rfl rfl).trans (am_g_congr fun h102 => ?_)
  refine am_bind_congr fun r103 => ?_
  show am_Ex d 190 5 [(2, x0)] [] r103.2 = _
  refine (am_e0 rfl rfl).trans ?_
  refine (am_gf (c := 10) (t := 2) rfl rfl rfl).trans ((am_g_t h101).trans ?_)
  refine (am_e0 rfl rfl).trans ?_
  refine (am_gf (c := 10) (t := 2) rfl rfl rfl).trans ((am_g_t h101).trans ?_)
  refine (am_cal3 (z := 22) (k := 2) (c := (am_ob (am_rd r103.2 x0 3) 3)) rfl rfl rfl rfl rfl rfl rfl rfl).trans (am_g_congr fun h104 => ?_)
  refine am_bind_congr fun r105 => ?_
  show am_Ex d 190 10 [(2, x0)] [] r105.2 = _
  refine (am_e0 rfl rfl).trans ?_
  refine (am_gf (c := 10) (t := 2) rfl rfl rfl).trans ((am_g_t h101).trans ?_)
  refine (am_e0 rfl rfl).trans ?_
  refine (am_gf (c := 10) (t := 2) rfl rfl rfl).trans ((am_g_t h101).trans ?_)
  refine (am_cal3 (z := 133) (k := 2) (c := (am_ob (am_rd r105.2 x0 5) 9)) rfl rfl rfl rfl rfl rfl rfl rfl).trans (am_g_congr fun h106 => ?_)
  refine am_bind_congr fun r107 => ?_
  show am_Ex d 190 15 [(2, x0)] [] r107.2 = _
  refine (am_e0 rfl rfl).trans ?_
  refine (am_gf (c := 10) (t := 2) rfl rfl rfl).trans ((am_g_t h101).trans ?_)
  refine (am_gf (c := 3) (t := 0) rfl rfl rfl).trans (am_g_congr fun h108 => ?_)
  exact (am_e4i rfl rfl).trans rfl
-- 191: UnlearnedHand.again()I
set_option maxRecDepth 10000 in
theorem aq_191 (d : Nat) (x0 : Int) (M : am_M) : am_Call d 191 [(2, x0)] M = (am_g (am_ob x0 10) <| am_g (am_ob (am_rd M x0 0) 2) <| (am_Call d 6 [(2, am_rd M x0 0), (2, am_rd M x0 1)] M).bind fun r103 => am_g (am_ob (am_rd r103.2 x0 2) 3) <| (am_Call d 22 [(2, am_rd r103.2 x0 2), (2, am_rd r103.2 x0 3)] r103.2).bind fun r105 => am_g (am_ob (am_rd r105.2 x0 4) 9) <| (am_Call d 133 [(2, am_rd r105.2 x0 4), (2, am_rd r105.2 x0 5)] r105.2).bind fun r107 => am_g (am_ob (am_rd r107.2 x0 2) 3) <| some (am_rd r107.2 (am_rd r107.2 x0 2) 6, r107.2)) := by
  show am_Ex d 191 0 [(2, x0)] [] M = _
  refine (am_e0 rfl rfl).trans ?_
  refine (am_gf (c := 10) (t := 2) rfl rfl rfl).trans (am_g_congr fun h101 => ?_)
  refine (am_e0 rfl rfl).trans ?_
  refine (am_gf (c := 10) (t := 2) rfl rfl rfl).trans ((am_g_t h101).trans ?_)
  refine (am_cal3 (z := 6) (k := 2) (c := (am_ob (am_rd M x0 0) 2)) rfl rfl rfl rfl rfl rfl rfl rfl).trans (am_g_congr fun h102 => ?_)
  refine am_bind_congr fun r103 => ?_
  show am_Ex d 191 5 [(2, x0)] [] r103.2 = _
  refine (am_e0 rfl rfl).trans ?_
  refine (am_gf (c := 10) (t := 2) rfl rfl rfl).trans ((am_g_t h101).trans ?_)
  refine (am_e0 rfl rfl).trans ?_
  refine (am_gf (c := 10) (t := 2) rfl rfl rfl).trans ((am_g_t h101).trans ?_)
  refine (am_cal3 (z := 22) (k := 2) (c := (am_ob (am_rd r103.2 x0 2) 3)) rfl rfl rfl rfl rfl rfl rfl rfl).trans (am_g_congr fun h104 => ?_)
  refine am_bind_congr fun r105 => ?_
  show am_Ex d 191 10 [(2, x0)] [] r105.2 = _
  refine (am_e0 rfl rfl).trans ?_
  refine (am_gf (c := 10) (t := 2) rfl rfl rfl).trans ((am_g_t h101).trans ?_)
  refine (am_e0 rfl rfl).trans ?_
  refine (am_gf (c := 10) (t := 2) rfl rfl rfl).trans ((am_g_t h101).trans ?_)
  refine (am_cal3 (z := 133) (k := 2) (c := (am_ob (am_rd r105.2 x0 4) 9)) rfl rfl rfl rfl rfl rfl rfl rfl).trans (am_g_congr fun h106 => ?_)
  refine am_bind_congr fun r107 => ?_
  show am_Ex d 191 15 [(2, x0)] [] r107.2 = _
  refine (am_e0 rfl rfl).trans ?_
  refine (am_gf (c := 10) (t := 2) rfl rfl rfl).trans ((am_g_t h101).trans ?_)
  refine (am_gf (c := 3) (t := 0) rfl rfl rfl).trans (am_g_congr fun h108 => ?_)
  exact (am_e4i rfl rfl).trans rfl
-- 192: UnlearnedHandModel.leads(II)Z
set_option maxRecDepth 10000 in
theorem aq_192 (d : Nat) (x0 x1 x2 : Int) (M : am_M) : am_Call d 192 [(2, x0), (0, x1), (0, x2)] M = (am_g (am_ob x0 11) <| (am_Call d 143 [(2, x0), (0, x1)] M).bind fun r102 => if r102.1 = 0 then (some (0, r102.2)) else ((am_Call d 143 [(2, x0), (0, x2)] r102.2).bind fun r104 => if r104.1 = 0 then (some (0, r104.2)) else (if x1 = x2 then (some (0, r104.2)) else (am_g (am_ar (am_rd r104.2 x0 0) 20 (am_w32 (18 + x1))) <| (am_Call d 65 [(0, am_rd r104.2 (am_rd r104.2 x0 0) (am_w32 (18 + x1))), (0, x2)] r104.2).bind fun r108 => if r108.1 = 0 then (am_g (am_ar (am_rd r108.2 x0 0) 20 (am_w32 (18 + x1))) <| am_let (am_wr r108.2 (am_rd r108.2 x0 0) (am_w32 (18 + x1)) (am_or (am_rd r108.2 (am_rd r108.2 x0 0) (am_w32 (18 + x1))) (am_shl 1 x2))) fun M111 => some (1, M111)) else (some (0, r108.2)))))) := by
  show am_Ex d 192 0 [(2, x0), (0, x1), (0, x2)] [] M = _
  refine (am_e0 rfl rfl).trans ?_
  refine (am_e0 rfl rfl).trans ?_
  refine (am_cal3 (z := 143) (k := 2) (c := (am_ob x0 11)) rfl rfl rfl rfl rfl rfl rfl rfl).trans (am_g_congr fun h101 => ?_)
  refine am_bind_congr fun r102 => ?_
  show am_Ex d 192 3 [(2, x0), (0, x1), (0, x2)] [(0, r102.1)] r102.2 = _
  refine (am_z_eq rfl).trans (am_if_congr (fun c103 => ?_) (fun c103 => ?_))
  · refine (am_e5 rfl).trans ?_
    show am_Ex d 192 21 [am_N, am_N, am_N] [] r102.2 = _
    refine (am_e0 rfl rfl).trans ?_
    exact (am_e4i rfl rfl).trans rfl
  · refine (am_e0 rfl rfl).trans ?_
    refine (am_e0 rfl rfl).trans ?_
    refine (am_cal3 (z := 143) (k := 2) (c := (am_ob x0 11)) rfl rfl rfl rfl rfl rfl rfl rfl).trans ((am_g_t h101).trans ?_)
    refine am_bind_congr fun r104 => ?_
    show am_Ex d 192 7 [(2, x0), (0, x1), (0, x2)] [(0, r104.1)] r104.2 = _
    refine (am_z_eq rfl).trans (am_if_congr (fun c105 => ?_) (fun c105 => ?_))
    · refine (am_e5 rfl).trans ?_
      show am_Ex d 192 21 [am_N, am_N, am_N] [] r104.2 = _
      refine (am_e0 rfl rfl).trans ?_
      exact (am_e4i rfl rfl).trans rfl
    · refine (am_e0 rfl rfl).trans ?_
      refine (am_e0 rfl rfl).trans ?_
      refine (am_i_eq rfl).trans (am_if_congr (fun c106 => ?_) (fun c106 => ?_))
      · refine (am_e5 rfl).trans ?_
        show am_Ex d 192 21 [am_N, am_N, am_N] [] r104.2 = _
        refine (am_e0 rfl rfl).trans ?_
        exact (am_e4i rfl rfl).trans rfl
      · refine (am_e0 rfl rfl).trans ?_
        refine (am_gf (c := 11) (t := 2) rfl rfl rfl).trans ((am_g_t h101).trans ?_)
        refine (am_e0 rfl rfl).trans ?_
        refine (am_e0 rfl rfl).trans ?_
        refine (am_e0 rfl rfl).trans ?_
        refine (am_ial rfl).trans (am_g_congr fun h107 => ?_)
        refine (am_e0 rfl rfl).trans ?_
        refine (am_cal3 (z := 65) (k := 2) (c := true) rfl rfl rfl rfl rfl rfl rfl rfl).trans ((am_g_t rfl).trans ?_)
        refine am_bind_congr fun r108 => ?_
        show am_Ex d 192 19 [(2, x0), (0, x1), (0, x2)] [(0, r108.1)] r108.2 = _
        refine (am_z_eq rfl).trans (am_if_congr (fun c109 => ?_) (fun c109 => ?_))
        · refine (am_e0 rfl rfl).trans ?_
          refine (am_gf (c := 11) (t := 2) rfl rfl rfl).trans ((am_g_t h101).trans ?_)
          refine (am_e0 rfl rfl).trans ?_
          refine (am_e0 rfl rfl).trans ?_
          refine (am_e0 rfl rfl).trans ?_
          refine (am_e0 rfl rfl).trans ?_
          refine (am_gf (c := 11) (t := 2) rfl rfl rfl).trans ((am_g_t h101).trans ?_)
          refine (am_e0 rfl rfl).trans ?_
          refine (am_e0 rfl rfl).trans ?_
          refine (am_e0 rfl rfl).trans ?_
          refine (am_ial rfl).trans (am_g_congr fun h110 => ?_)
          refine (am_e0 rfl rfl).trans ?_
          refine (am_e0 rfl rfl).trans ?_
          refine (am_e0 rfl rfl).trans ?_
          refine (am_e0 rfl rfl).trans ?_
          refine (am_ias rfl).trans ((am_g_t h110).trans ?_)
          refine am_letm (fun M111 => ?_)
          refine (am_e0 rfl rfl).trans ?_
          exact (am_e4i rfl rfl).trans rfl
        · refine (am_e5 rfl).trans ?_
          show am_Ex d 192 21 [am_N, am_N, am_N] [] r108.2 = _
          refine (am_e0 rfl rfl).trans ?_
          exact (am_e4i rfl rfl).trans rfl
-- 193: UnlearnedHandModel.smell(I)I
set_option maxRecDepth 10000 in
theorem aq_193 (d : Nat) (x0 x1 : Int) (M : am_M) : am_Call d 193 [(2, x0), (0, x1)] M = (am_g (am_ob x0 11) <| am_g (am_ar (am_rd M x0 0) 20 2) <| am_let (am_rd M (am_rd M x0 0) 2) fun v103 => (am_Call d 145 [(2, x0), (0, x1)] M).bind fun r104 => if r104.1 = 0 then (some ((-1), r104.2)) else (if x1 = 0 then (some ((-1), r104.2)) else (if v103 = 6 then (some ((-1), r104.2)) else (am_g (am_ar (am_rd r104.2 x0 0) 20 (am_w32 (32 + v103))) <| am_let (am_wr r104.2 (am_rd r104.2 x0 0) (am_w32 (32 + v103)) x1) fun M109 => am_g (am_ar (am_rd M109 x0 0) 20 2) <| am_let (am_wr M109 (am_rd M109 x0 0) 2 (am_w32 ((am_rd M109 (am_rd M109 x0 0) 2) + 1))) fun M111 => some (v103, M111))))) := by
  show am_Ex d 193 0 [(2, x0), (0, x1), am_N] [] M = _
  refine (am_e0 rfl rfl).trans ?_
  refine (am_gf (c := 11) (t := 2) rfl rfl rfl).trans (am_g_congr fun h101 => ?_)
  refine (am_e0 rfl rfl).trans ?_
  refine (am_ial rfl).trans (am_g_congr fun h102 => ?_)
  refine (am_e0 rfl rfl).trans ?_
  refine am_lets (L := fun v103 => [(2, x0), (0, x1), (0, v103)]) (fun v103 => ?_)
  refine (am_e0 rfl rfl).trans ?_
  refine (am_e0 rfl rfl).trans ?_
  refine (am_cal3 (z := 145) (k := 2) (c := (am_ob x0 11)) rfl rfl rfl rfl rfl rfl rfl rfl).trans ((am_g_t h101).trans ?_)
  refine am_bind_congr fun r104 => ?_
  show am_Ex d 193 8 [(2, x0), (0, x1), (0, v103)] [(0, r104.1)] r104.2 = _
  refine (am_z_eq rfl).trans (am_if_congr (fun c105 => ?_) (fun c105 => ?_))
  · refine (am_e5 rfl).trans ?_
    show am_Ex d 193 15 [am_N, am_N, am_N] [] r104.2 = _
    refine (am_e0 rfl rfl).trans ?_
    exact (am_e4i rfl rfl).trans rfl
  · refine (am_e0 rfl rfl).trans ?_
    refine (am_z_eq rfl).trans (am_if_congr (fun c106 => ?_) (fun c106 => ?_))
    · refine (am_e5 rfl).trans ?_
      show am_Ex d 193 15 [am_N, am_N, am_N] [] r104.2 = _
      refine (am_e0 rfl rfl).trans ?_
      exact (am_e4i rfl rfl).trans rfl
    · refine (am_e0 rfl rfl).trans ?_
      refine (am_e0 rfl rfl).trans ?_
      refine (am_i_ne rfl).trans (am_if_congr (fun c107 => ?_) (fun c107 => ?_))
      · refine (am_e5 rfl).trans ?_
        show am_Ex d 193 15 [am_N, am_N, am_N] [] r104.2 = _
        refine (am_e0 rfl rfl).trans ?_
        exact (am_e4i rfl rfl).trans rfl
      · refine (am_e0 rfl rfl).trans ?_
        refine (am_gf (c := 11) (t := 2) rfl rfl rfl).trans ((am_g_t h101).trans ?_)
        refine (am_e0 rfl rfl).trans ?_
        refine (am_e0 rfl rfl).trans ?_
        refine (am_e0 rfl rfl).trans ?_
        refine (am_e0 rfl rfl).trans ?_
        refine (am_ias rfl).trans (am_g_congr fun h108 => ?_)
        refine am_letm (fun M109 => ?_)
        refine (am_e0 rfl rfl).trans ?_
        refine (am_gf (c := 11) (t := 2) rfl rfl rfl).trans ((am_g_t h101).trans ?_)
        refine (am_e0 rfl rfl).trans ?_
        refine (am_e0 rfl rfl).trans ?_
        refine (am_ial rfl).trans (am_g_congr fun h110 => ?_)
        refine (am_e0 rfl rfl).trans ?_
        refine (am_e0 rfl rfl).trans ?_
        refine (am_ias rfl).trans ((am_g_t h110).trans ?_)
        refine am_letm (fun M111 => ?_)
        refine (am_e0 rfl rfl).trans ?_
        exact (am_e4i rfl rfl).trans rfl
-- 194: UnlearnedHandModel.next()V
set_option maxRecDepth 10000 in
theorem aq_194 (d : Nat) (x0 : Int) (M : am_M) : am_Call d 194 [(2, x0)] M = (am_Ex d 194 1 [(2, x0), am_N, am_N, am_N, am_N] [] M) := by
  show am_Ex d 194 0 [(2, x0), am_N, am_N, am_N, am_N] [] M = _
  exact (am_e5 rfl).trans rfl
set_option maxRecDepth 10000 in
theorem aq_194_1 (d : Nat) (x0 : Int) (M : am_M) : am_Ex d 194 1 [(2, x0), am_N, am_N, am_N, am_N] [] M = (am_g (am_ob x0 11) <| if am_rd M x0 15 < am_rd M x0 14 then (am_g (am_ar (am_rd M x0 2) 23 (am_rd M x0 15)) <| if am_rd M (am_rd M x0 2) (am_rd M x0 15) = 32 then (am_Ex d 194 21 [(2, x0), am_N, am_N, am_N, am_N] [] M) else (if am_rd M (am_rd M x0 2) (am_rd M x0 15) = 10 then (am_Ex d 194 21 [(2, x0), am_N, am_N, am_N, am_N] [] M) else (am_Ex d 194 29 [(2, x0), am_N, am_N, am_N, am_N] [] M))) else (am_Ex d 194 29 [(2, x0), am_N, am_N, am_N, am_N] [] M)) := by
  refine (am_e0 rfl rfl).trans ?_
  refine (am_gf (c := 11) (t := 0) rfl rfl rfl).trans (am_g_congr fun h101 => ?_)
  refine (am_e0 rfl rfl).trans ?_
  refine (am_gf (c := 11) (t := 0) rfl rfl rfl).trans ((am_g_t h101).trans ?_)
  refine (am_i_ge rfl).trans (am_if_congr (fun c102 => ?_) (fun c102 => ?_))
  · refine (am_e0 rfl rfl).trans ?_
    refine (am_gf (c := 11) (t := 2) rfl rfl rfl).trans ((am_g_t h101).trans ?_)
    refine (am_e0 rfl rfl).trans ?_
    refine (am_gf (c := 11) (t := 0) rfl rfl rfl).trans ((am_g_t h101).trans ?_)
    refine (am_bal rfl).trans (am_g_congr fun h103 => ?_)
    refine (am_e0 rfl rfl).trans ?_
    refine (am_i_eq rfl).trans (am_if_congr (fun c104 => ?_) (fun c104 => ?_))
    · exact (am_e5 rfl).trans rfl
    · refine (am_e0 rfl rfl).trans ?_
      refine (am_gf (c := 11) (t := 2) rfl rfl rfl).trans ((am_g_t h101).trans ?_)
      refine (am_e0 rfl rfl).trans ?_
      refine (am_gf (c := 11) (t := 0) rfl rfl rfl).trans ((am_g_t h101).trans ?_)
      refine (am_bal rfl).trans ((am_g_t h103).trans ?_)
      refine (am_e0 rfl rfl).trans ?_
      refine (am_i_ne rfl).trans (am_if_congr (fun c105 => ?_) (fun c105 => ?_))
      · exact (am_e5 rfl).trans rfl
      · exact (am_e5 rfl).trans rfl
  · exact (am_e5 rfl).trans rfl
set_option maxRecDepth 10000 in
theorem aq_194_21 (d : Nat) (x0 : Int) (M : am_M) : am_Ex d 194 21 [(2, x0), am_N, am_N, am_N, am_N] [] M = (am_g (am_ob x0 11) <| am_let (am_wr M x0 15 (am_w32 ((am_rd M x0 15) + 1))) fun M102 => am_Ex d 194 1 [(2, x0), am_N, am_N, am_N, am_N] [] M102) := by
  refine (am_e0 rfl rfl).trans ?_
  refine (am_e0 rfl rfl).trans ?_
  refine (am_gf (c := 11) (t := 0) rfl rfl rfl).trans (am_g_congr fun h101 => ?_)
  refine (am_e0 rfl rfl).trans ?_
  refine (am_e0 rfl rfl).trans ?_
  refine (am_pf (c := 11) rfl rfl rfl).trans ((am_g_t h101).trans ?_)
  refine am_letm (fun M102 => ?_)
  refine (am_e1 rfl rfl).trans ?_
  exact (am_e5 rfl).trans rfl
set_option maxRecDepth 10000 in
theorem aq_194_29 (d : Nat) (x0 : Int) (M : am_M) : am_Ex d 194 29 [(2, x0), am_N, am_N, am_N, am_N] [] M = (am_g (am_ob x0 11) <| am_let (am_wr M x0 16 (am_rd M x0 15)) fun M102 => if am_rd M102 x0 15 = am_rd M102 x0 14 then (am_let (am_wr M102 x0 17 0) fun M104 => some (0, M104)) else (am_g (am_ar (am_rd M102 x0 2) 23 (am_rd M102 x0 15)) <| am_let (am_rd M102 (am_rd M102 x0 2) (am_rd M102 x0 15)) fun v106 => (am_Call d 151 [(0, v106)] M102).bind fun r107 => if r107.1 = 0 then ((am_Call d 64 [(0, v106), (0, 48), (0, 57)] r107.2).bind fun r109 => if r109.1 = 0 then (am_let (am_wr r109.2 x0 15 (am_w32 ((am_rd r109.2 x0 15) + 1))) fun M111 => am_let (am_wr M111 x0 18 v106) fun M112 => (am_Call d 64 [(0, v106), (0, 59), (0, 62)] M112).bind fun r113 => if r113.1 = 0 then ((am_Call d 64 [(0, v106), (0, 40), (0, 45)] r113.2).bind fun r115 => if r115.1 = 0 then (if v106 = 47 then (am_let (am_wr r115.2 x0 17 3) fun M118 => if v106 = 60 then (am_Ex d 194 204 [(2, x0), (0, v106), am_N, am_N, am_N] [] M118) else (if v106 = 62 then (am_Ex d 194 204 [(2, x0), (0, v106), am_N, am_N, am_N] [] M118) else (some (0, M118)))) else (if v106 = 35 then (am_let (am_wr r115.2 x0 17 3) fun M122 => if v106 = 60 then (am_Ex d 194 204 [(2, x0), (0, v106), am_N, am_N, am_N] [] M122) else (if v106 = 62 then (am_Ex d 194 204 [(2, x0), (0, v106), am_N, am_N, am_N] [] M122) else (some (0, M122)))) else (am_let (am_wr r115.2 x0 17 4) fun M125 => if v106 = 60 then (am_Ex d 194 204 [(2, x0), (0, v106), am_N, am_N, am_N] [] M125) else (if v106 = 62 then (am_Ex d 194 204 [(2, x0), (0, v106), am_N, am_N, am_N] [] M125) else (some (0, M125)))))) else (am_let (am_wr r115.2 x0 17 3) fun M128 => if v106 = 60 then (am_Ex d 194 204 [(2, x0), (0, v106), am_N, am_N, am_N] [] M128) else (if v106 = 62 then (am_Ex d 194 204 [(2, x0), (0, v106), am_N, am_N, am_N] [] M128) else (some (0, M128))))) else (am_let (am_wr r113.2 x0 17 3) fun M131 => if v106 = 60 then (am_Ex d 194 204 [(2, x0), (0, v106), am_N, am_N, am_N] [] M131) else (if v106 = 62 then (am_Ex d 194 204 [(2, x0), (0, v106), am_N, am_N, am_N] [] M131) else (some (0, M131))))) else (am_let (am_wr r109.2 x0 17 2) fun M134 => am_let (am_wr M134 x0 18 0) fun M135 => am_Ex d 194 125 [(2, x0), am_N, am_N, am_N, am_N] [] M135)) else (am_Ex d 194 56 [(2, x0), am_N, (1, 0), am_N, (0, 0)] [] r107.2))) := by
  refine (am_e0 rfl rfl).trans ?_
  refine (am_e0 rfl rfl).trans ?_
  refine (am_gf (c := 11) (t := 0) rfl rfl rfl).trans (am_g_congr fun h101 => ?_)
  refine (am_pf (c := 11) rfl rfl rfl).trans ((am_g_t h101).trans ?_)
  refine am_letm (fun M102 => ?_)
  refine (am_e0 rfl rfl).trans ?_
  refine (am_gf (c := 11) (t := 0) rfl rfl rfl).trans ((am_g_t h101).trans ?_)
  refine (am_e0 rfl rfl).trans ?_
  refine (am_gf (c := 11) (t := 0) rfl rfl rfl).trans ((am_g_t h101).trans ?_)
  refine (am_i_ne rfl).trans (am_if_congr (fun c103 => ?_) (fun c103 => ?_))
  · refine (am_e0 rfl rfl).trans ?_
    refine (am_e0 rfl rfl).trans ?_
    refine (am_pf (c := 11) rfl rfl rfl).trans ((am_g_t h101).trans ?_)
    refine am_letm (fun M104 => ?_)
    exact (am_e4v rfl rfl).trans rfl
  · refine (am_e0 rfl rfl).trans ?_
    refine (am_gf (c := 11) (t := 2) rfl rfl rfl).trans ((am_g_t h101).trans ?_)
    refine (am_e0 rfl rfl).trans ?_
    refine (am_gf (c := 11) (t := 0) rfl rfl rfl).trans ((am_g_t h101).trans ?_)
    refine (am_bal rfl).trans (am_g_congr fun h105 => ?_)
    refine (am_e0 rfl rfl).trans ?_
    refine am_lets (L := fun v106 => [(2, x0), (0, v106), am_N, am_N, am_N]) (fun v106 => ?_)
    refine (am_e0 rfl rfl).trans ?_
    refine (am_cal3 (z := 151) (k := 1) (c := true) rfl rfl rfl rfl rfl rfl rfl rfl).trans ((am_g_t rfl).trans ?_)
    refine am_bind_congr fun r107 => ?_
    show am_Ex d 194 50 [(2, x0), (0, v106), am_N, am_N, am_N] [(0, r107.1)] r107.2 = _
    refine (am_z_eq rfl).trans (am_if_congr (fun c108 => ?_) (fun c108 => ?_))
    · refine (am_e0 rfl rfl).trans ?_
      refine (am_e0 rfl rfl).trans ?_
      refine (am_e0 rfl rfl).trans ?_
      refine (am_cal3 (z := 64) (k := 3) (c := true) rfl rfl rfl rfl rfl rfl rfl rfl).trans ((am_g_t rfl).trans ?_)
      refine am_bind_congr fun r109 => ?_
      show am_Ex d 194 117 [(2, x0), (0, v106), am_N, am_N, am_N] [(0, r109.1)] r109.2 = _
      refine (am_z_eq rfl).trans (am_if_congr (fun c110 => ?_) (fun c110 => ?_))
      · refine (am_e0 rfl rfl).trans ?_
        refine (am_e0 rfl rfl).trans ?_
        refine (am_gf (c := 11) (t := 0) rfl rfl rfl).trans ((am_g_t h101).trans ?_)
        refine (am_e0 rfl rfl).trans ?_
        refine (am_e0 rfl rfl).trans ?_
        refine (am_pf (c := 11) rfl rfl rfl).trans ((am_g_t h101).trans ?_)
        refine am_letm (fun M111 => ?_)
        refine (am_e0 rfl rfl).trans ?_
        refine (am_e0 rfl rfl).trans ?_
        refine (am_pf (c := 11) rfl rfl rfl).trans ((am_g_t h101).trans ?_)
        refine am_letm (fun M112 => ?_)
        refine (am_e0 rfl rfl).trans ?_
        refine (am_e0 rfl rfl).trans ?_
        refine (am_e0 rfl rfl).trans ?_
        refine (am_e0 rfl rfl).trans ?_
        refine (am_cal3 (z := 64) (k := 3) (c := true) rfl rfl rfl rfl rfl rfl rfl rfl).trans ((am_g_t rfl).trans ?_)
        refine am_bind_congr fun r113 => ?_
        show am_Ex d 194 181 [(2, x0), (0, v106), am_N, am_N, am_N] [(0, r113.1), (2, x0)] r113.2 = _
        refine (am_z_ne rfl).trans (am_if_congr (fun c114 => ?_) (fun c114 => ?_))
        · refine (am_e0 rfl rfl).trans ?_
          refine (am_e0 rfl rfl).trans ?_
          refine (am_e0 rfl rfl).trans ?_
          refine (am_cal3 (z := 64) (k := 3) (c := true) rfl rfl rfl rfl rfl rfl rfl rfl).trans ((am_g_t rfl).trans ?_)
          refine am_bind_congr fun r115 => ?_
          show am_Ex d 194 186 [(2, x0), (0, v106), am_N, am_N, am_N] [(0, r115.1), (2, x0)] r115.2 = _
          refine (am_z_ne rfl).trans (am_if_congr (fun c116 => ?_) (fun c116 => ?_))
          · refine (am_e0 rfl rfl).trans ?_
            refine (am_e0 rfl rfl).trans ?_
            refine (am_i_eq rfl).trans (am_if_congr (fun c117 => ?_) (fun c117 => ?_))
            · refine (am_e0 rfl rfl).trans ?_
              refine (am_e1 rfl rfl).trans ?_
              refine (am_pf (c := 11) rfl rfl rfl).trans ((am_g_t h101).trans ?_)
              refine am_letm (fun M118 => ?_)
              refine (am_e0 rfl rfl).trans ?_
              refine (am_e0 rfl rfl).trans ?_
              refine (am_i_eq rfl).trans (am_if_congr (fun c119 => ?_) (fun c119 => ?_))
              · exact (am_e5 rfl).trans rfl
              · refine (am_e0 rfl rfl).trans ?_
                refine (am_e0 rfl rfl).trans ?_
                refine (am_i_ne rfl).trans (am_if_congr (fun c120 => ?_) (fun c120 => ?_))
                · exact (am_e5 rfl).trans rfl
                · refine (am_e5 rfl).trans ?_
                  show am_Ex d 194 231 [am_N, am_N, am_N, am_N, am_N] [] M118 = _
                  exact (am_e4v rfl rfl).trans rfl
            · refine (am_e0 rfl rfl).trans ?_
              refine (am_e0 rfl rfl).trans ?_
              refine (am_i_ne rfl).trans (am_if_congr (fun c121 => ?_) (fun c121 => ?_))
              · refine (am_e0 rfl rfl).trans ?_
                refine (am_e1 rfl rfl).trans ?_
                refine (am_pf (c := 11) rfl rfl rfl).trans ((am_g_t h101).trans ?_)
                refine am_letm (fun M122 => ?_)
                refine (am_e0 rfl rfl).trans ?_
                refine (am_e0 rfl rfl).trans ?_
                refine (am_i_eq rfl).trans (am_if_congr (fun c123 => ?_) (fun c123 => ?_))
                · exact (am_e5 rfl).trans rfl
                · refine (am_e0 rfl rfl).trans ?_
                  refine (am_e0 rfl rfl).trans ?_
                  refine (am_i_ne rfl).trans (am_if_congr (fun c124 => ?_) (fun c124 => ?_))
                  · exact (am_e5 rfl).trans rfl
                  · refine (am_e5 rfl).trans ?_
                    show am_Ex d 194 231 [am_N, am_N, am_N, am_N, am_N] [] M122 = _
                    exact (am_e4v rfl rfl).trans rfl
              · refine (am_e0 rfl rfl).trans ?_
                refine (am_pf (c := 11) rfl rfl rfl).trans ((am_g_t h101).trans ?_)
                refine am_letm (fun M125 => ?_)
                refine (am_e0 rfl rfl).trans ?_
                refine (am_e0 rfl rfl).trans ?_
                refine (am_i_eq rfl).trans (am_if_congr (fun c126 => ?_) (fun c126 => ?_))
                · exact (am_e5 rfl).trans rfl
                · refine (am_e0 rfl rfl).trans ?_
                  refine (am_e0 rfl rfl).trans ?_
                  refine (am_i_ne rfl).trans (am_if_congr (fun c127 => ?_) (fun c127 => ?_))
                  · exact (am_e5 rfl).trans rfl
                  · refine (am_e5 rfl).trans ?_
                    show am_Ex d 194 231 [am_N, am_N, am_N, am_N, am_N] [] M125 = _
                    exact (am_e4v rfl rfl).trans rfl
          · refine (am_e0 rfl rfl).trans ?_
            refine (am_e1 rfl rfl).trans ?_
            refine (am_pf (c := 11) rfl rfl rfl).trans ((am_g_t h101).trans ?_)
            refine am_letm (fun M128 => ?_)
            refine (am_e0 rfl rfl).trans ?_
            refine (am_e0 rfl rfl).trans ?_
            refine (am_i_eq rfl).trans (am_if_congr (fun c129 => ?_) (fun c129 => ?_))
            · exact (am_e5 rfl).trans rfl
            · refine (am_e0 rfl rfl).trans ?_
              refine (am_e0 rfl rfl).trans ?_
              refine (am_i_ne rfl).trans (am_if_congr (fun c130 => ?_) (fun c130 => ?_))
              · exact (am_e5 rfl).trans rfl
              · refine (am_e5 rfl).trans ?_
                show am_Ex d 194 231 [am_N, am_N, am_N, am_N, am_N] [] M128 = _
                exact (am_e4v rfl rfl).trans rfl
        · refine (am_e0 rfl rfl).trans ?_
          refine (am_e1 rfl rfl).trans ?_
          refine (am_pf (c := 11) rfl rfl rfl).trans ((am_g_t h101).trans ?_)
          refine am_letm (fun M131 => ?_)
          refine (am_e0 rfl rfl).trans ?_
          refine (am_e0 rfl rfl).trans ?_
          refine (am_i_eq rfl).trans (am_if_congr (fun c132 => ?_) (fun c132 => ?_))
          · exact (am_e5 rfl).trans rfl
          · refine (am_e0 rfl rfl).trans ?_
            refine (am_e0 rfl rfl).trans ?_
            refine (am_i_ne rfl).trans (am_if_congr (fun c133 => ?_) (fun c133 => ?_))
            · exact (am_e5 rfl).trans rfl
            · refine (am_e5 rfl).trans ?_
              show am_Ex d 194 231 [am_N, am_N, am_N, am_N, am_N] [] M131 = _
              exact (am_e4v rfl rfl).trans rfl
      · refine (am_e0 rfl rfl).trans ?_
        refine (am_e0 rfl rfl).trans ?_
        refine (am_pf (c := 11) rfl rfl rfl).trans ((am_g_t h101).trans ?_)
        refine am_letm (fun M134 => ?_)
        refine (am_e0 rfl rfl).trans ?_
        refine (am_e0 rfl rfl).trans ?_
        refine (am_pf (c := 11) rfl rfl rfl).trans ((am_g_t h101).trans ?_)
        refine am_letm (fun M135 => ?_)
        exact (am_e5 rfl).trans rfl
    · refine (am_e0 rfl rfl).trans ?_
      refine (am_e0 rfl rfl).trans ?_
      refine (am_e0 rfl rfl).trans ?_
      refine (am_e0 rfl rfl).trans ?_
      exact (am_e5 rfl).trans rfl
set_option maxRecDepth 10000 in
theorem aq_194_204 (d : Nat) (x0 x1 : Int) (M : am_M) : am_Ex d 194 204 [(2, x0), (0, x1), am_N, am_N, am_N] [] M = (am_g (am_ob x0 11) <| if am_rd M x0 15 < am_rd M x0 14 then (am_g (am_ar (am_rd M x0 2) 23 (am_rd M x0 15)) <| if am_rd M (am_rd M x0 2) (am_rd M x0 15) = 61 then (if x1 = 60 then (am_let (am_wr M x0 18 300) fun M106 => am_let (am_wr M106 x0 15 (am_w32 ((am_rd M106 x0 15) + 1))) fun M107 => some (0, M107)) else (am_let (am_wr M x0 18 301) fun M108 => am_let (am_wr M108 x0 15 (am_w32 ((am_rd M108 x0 15) + 1))) fun M109 => some (0, M109))) else (some (0, M))) else (some (0, M))) := by
  refine (am_e0 rfl rfl).trans ?_
  refine (am_gf (c := 11) (t := 0) rfl rfl rfl).trans (am_g_congr fun h101 => ?_)
  refine (am_e0 rfl rfl).trans ?_
  refine (am_gf (c := 11) (t := 0) rfl rfl rfl).trans ((am_g_t h101).trans ?_)
  refine (am_i_ge rfl).trans (am_if_congr (fun c102 => ?_) (fun c102 => ?_))
  · refine (am_e0 rfl rfl).trans ?_
    refine (am_gf (c := 11) (t := 2) rfl rfl rfl).trans ((am_g_t h101).trans ?_)
    refine (am_e0 rfl rfl).trans ?_
    refine (am_gf (c := 11) (t := 0) rfl rfl rfl).trans ((am_g_t h101).trans ?_)
    refine (am_bal rfl).trans (am_g_congr fun h103 => ?_)
    refine (am_e0 rfl rfl).trans ?_
    refine (am_i_ne rfl).trans (am_if_congr (fun c104 => ?_) (fun c104 => ?_))
    · refine (am_e0 rfl rfl).trans ?_
      refine (am_e0 rfl rfl).trans ?_
      refine (am_e0 rfl rfl).trans ?_
      refine (am_i_ne rfl).trans (am_if_congr (fun c105 => ?_) (fun c105 => ?_))
      · refine (am_e0 rfl rfl).trans ?_
        refine (am_e1 rfl rfl).trans ?_
        refine (am_pf (c := 11) rfl rfl rfl).trans ((am_g_t h101).trans ?_)
        refine am_letm (fun M106 => ?_)
        refine (am_e0 rfl rfl).trans ?_
        refine (am_e0 rfl rfl).trans ?_
        refine (am_gf (c := 11) (t := 0) rfl rfl rfl).trans ((am_g_t h101).trans ?_)
        refine (am_e0 rfl rfl).trans ?_
        refine (am_e0 rfl rfl).trans ?_
        refine (am_pf (c := 11) rfl rfl rfl).trans ((am_g_t h101).trans ?_)
        refine am_letm (fun M107 => ?_)
        refine (am_e5 rfl).trans ?_
        show am_Ex d 194 231 [am_N, am_N, am_N, am_N, am_N] [] M107 = _
        exact (am_e4v rfl rfl).trans rfl
      · refine (am_e0 rfl rfl).trans ?_
        refine (am_pf (c := 11) rfl rfl rfl).trans ((am_g_t h101).trans ?_)
        refine am_letm (fun M108 => ?_)
        refine (am_e0 rfl rfl).trans ?_
        refine (am_e0 rfl rfl).trans ?_
        refine (am_gf (c := 11) (t := 0) rfl rfl rfl).trans ((am_g_t h101).trans ?_)
        refine (am_e0 rfl rfl).trans ?_
        refine (am_e0 rfl rfl).trans ?_
        refine (am_pf (c := 11) rfl rfl rfl).trans ((am_g_t h101).trans ?_)
        refine am_letm (fun M109 => ?_)
        refine (am_e5 rfl).trans ?_
        show am_Ex d 194 231 [am_N, am_N, am_N, am_N, am_N] [] M109 = _
        exact (am_e4v rfl rfl).trans rfl
    · refine (am_e5 rfl).trans ?_
      show am_Ex d 194 231 [am_N, am_N, am_N, am_N, am_N] [] M = _
      exact (am_e4v rfl rfl).trans rfl
  · refine (am_e5 rfl).trans ?_
    show am_Ex d 194 231 [am_N, am_N, am_N, am_N, am_N] [] M = _
    exact (am_e4v rfl rfl).trans rfl
set_option maxRecDepth 10000 in
theorem aq_194_125 (d : Nat) (x0 : Int) (M : am_M) : am_Ex d 194 125 [(2, x0), am_N, am_N, am_N, am_N] [] M = (am_g (am_ob x0 11) <| if am_rd M x0 15 < am_rd M x0 14 then (am_g (am_ar (am_rd M x0 2) 23 (am_rd M x0 15)) <| (am_Call d 64 [(0, am_rd M (am_rd M x0 2) (am_rd M x0 15)), (0, 48), (0, 57)] M).bind fun r104 => if r104.1 = 0 then (some (0, r104.2)) else (if am_rd r104.2 x0 18 ≤ 99999 then (am_g (am_ar (am_rd r104.2 x0 2) 23 (am_rd r104.2 x0 15)) <| am_let (am_wr r104.2 x0 18 (am_w32 ((am_w32 ((am_w32 (10 * (am_rd r104.2 x0 18))) + (am_rd r104.2 (am_rd r104.2 x0 2) (am_rd r104.2 x0 15)))) - 48))) fun M108 => am_let (am_wr M108 x0 15 (am_w32 ((am_rd M108 x0 15) + 1))) fun M109 => am_Ex d 194 125 [(2, x0), am_N, am_N, am_N, am_N] [] M109) else (am_let (am_wr r104.2 x0 18 (am_rd r104.2 x0 18)) fun M110 => am_let (am_wr M110 x0 15 (am_w32 ((am_rd M110 x0 15) + 1))) fun M111 => am_Ex d 194 125 [(2, x0), am_N, am_N, am_N, am_N] [] M111))) else (some (0, M))) := by
  refine (am_e0 rfl rfl).trans ?_
  refine (am_gf (c := 11) (t := 0) rfl rfl rfl).trans (am_g_congr fun h101 => ?_)
  refine (am_e0 rfl rfl).trans ?_
  refine (am_gf (c := 11) (t := 0) rfl rfl rfl).trans ((am_g_t h101).trans ?_)
  refine (am_i_ge rfl).trans (am_if_congr (fun c102 => ?_) (fun c102 => ?_))
  · refine (am_e0 rfl rfl).trans ?_
    refine (am_gf (c := 11) (t := 2) rfl rfl rfl).trans ((am_g_t h101).trans ?_)
    refine (am_e0 rfl rfl).trans ?_
    refine (am_gf (c := 11) (t := 0) rfl rfl rfl).trans ((am_g_t h101).trans ?_)
    refine (am_bal rfl).trans (am_g_congr fun h103 => ?_)
    refine (am_e0 rfl rfl).trans ?_
    refine (am_e0 rfl rfl).trans ?_
    refine (am_cal3 (z := 64) (k := 3) (c := true) rfl rfl rfl rfl rfl rfl rfl rfl).trans ((am_g_t rfl).trans ?_)
    refine am_bind_congr fun r104 => ?_
    show am_Ex d 194 138 [(2, x0), am_N, am_N, am_N, am_N] [(0, r104.1)] r104.2 = _
    refine (am_z_eq rfl).trans (am_if_congr (fun c105 => ?_) (fun c105 => ?_))
    · refine (am_e5 rfl).trans ?_
      show am_Ex d 194 231 [am_N, am_N, am_N, am_N, am_N] [] r104.2 = _
      exact (am_e4v rfl rfl).trans rfl
    · refine (am_e0 rfl rfl).trans ?_
      refine (am_e0 rfl rfl).trans ?_
      refine (am_gf (c := 11) (t := 0) rfl rfl rfl).trans ((am_g_t h101).trans ?_)
      refine (am_e0 rfl rfl).trans ?_
      refine (am_i_le rfl).trans (am_if_congr (fun c106 => ?_) (fun c106 => ?_))
      · refine (am_e0 rfl rfl).trans ?_
        refine (am_e0 rfl rfl).trans ?_
        refine (am_gf (c := 11) (t := 0) rfl rfl rfl).trans ((am_g_t h101).trans ?_)
        refine (am_e0 rfl rfl).trans ?_
        refine (am_e0 rfl rfl).trans ?_
        refine (am_gf (c := 11) (t := 2) rfl rfl rfl).trans ((am_g_t h101).trans ?_)
        refine (am_e0 rfl rfl).trans ?_
        refine (am_gf (c := 11) (t := 0) rfl rfl rfl).trans ((am_g_t h101).trans ?_)
        refine (am_bal rfl).trans (am_g_congr fun h107 => ?_)
        refine (am_e0 rfl rfl).trans ?_
        refine (am_e0 rfl rfl).trans ?_
        refine (am_e0 rfl rfl).trans ?_
        refine (am_pf (c := 11) rfl rfl rfl).trans ((am_g_t h101).trans ?_)
        refine am_letm (fun M108 => ?_)
        refine (am_e0 rfl rfl).trans ?_
        refine (am_e0 rfl rfl).trans ?_
        refine (am_gf (c := 11) (t := 0) rfl rfl rfl).trans ((am_g_t h101).trans ?_)
        refine (am_e0 rfl rfl).trans ?_
        refine (am_e0 rfl rfl).trans ?_
        refine (am_pf (c := 11) rfl rfl rfl).trans ((am_g_t h101).trans ?_)
        refine am_letm (fun M109 => ?_)
        refine (am_e1 rfl rfl).trans ?_
        exact (am_e5 rfl).trans rfl
      · refine (am_e0 rfl rfl).trans ?_
        refine (am_gf (c := 11) (t := 0) rfl rfl rfl).trans ((am_g_t h101).trans ?_)
        refine (am_e1 rfl rfl).trans ?_
        refine (am_pf (c := 11) rfl rfl rfl).trans ((am_g_t h101).trans ?_)
        refine am_letm (fun M110 => ?_)
        refine (am_e0 rfl rfl).trans ?_
        refine (am_e0 rfl rfl).trans ?_
        refine (am_gf (c := 11) (t := 0) rfl rfl rfl).trans ((am_g_t h101).trans ?_)
        refine (am_e0 rfl rfl).trans ?_
        refine (am_e0 rfl rfl).trans ?_
        refine (am_pf (c := 11) rfl rfl rfl).trans ((am_g_t h101).trans ?_)
        refine am_letm (fun M111 => ?_)
        refine (am_e1 rfl rfl).trans ?_
        exact (am_e5 rfl).trans rfl
  · refine (am_e5 rfl).trans ?_
    show am_Ex d 194 231 [am_N, am_N, am_N, am_N, am_N] [] M = _
    exact (am_e4v rfl rfl).trans rfl
set_option maxRecDepth 10000 in
theorem aq_194_56 (d : Nat) (x0 x2 x4 : Int) (M : am_M) : am_Ex d 194 56 [(2, x0), am_N, (1, x2), am_N, (0, x4)] [] M = (am_g (am_ob x0 11) <| if am_rd M x0 15 < am_rd M x0 14 then (am_g (am_ar (am_rd M x0 2) 23 (am_rd M x0 15)) <| (am_Call d 151 [(0, am_rd M (am_rd M x0 2) (am_rd M x0 15))] M).bind fun r104 => if r104.1 = 0 then (am_Ex d 194 95 [(2, x0), am_N, (1, x2), am_N, (0, x4)] [] r104.2) else (if x4 < 8 then (am_g (am_ar (am_rd r104.2 x0 2) 23 (am_rd r104.2 x0 15)) <| am_let (am_w64 ((am_w64 ((am_w64 (64 * x2)) + (am_rd r104.2 (am_rd r104.2 x0 2) (am_rd r104.2 x0 15)))) - 64)) fun v108 => am_let (am_w32 (x4 + 1)) fun v109 => am_let (am_wr r104.2 x0 15 (am_w32 ((am_rd r104.2 x0 15) + 1))) fun M110 => am_Ex d 194 56 [(2, x0), am_N, (1, v108), am_N, (0, v109)] [] M110) else (am_let (am_w32 (x4 + 1)) fun v111 => am_let (am_wr r104.2 x0 15 (am_w32 ((am_rd r104.2 x0 15) + 1))) fun M112 => am_Ex d 194 56 [(2, x0), am_N, (1, x2), am_N, (0, v111)] [] M112))) else (am_Ex d 194 95 [(2, x0), am_N, (1, x2), am_N, (0, x4)] [] M)) := by
  refine (am_e0 rfl rfl).trans ?_
  refine (am_gf (c := 11) (t := 0) rfl rfl rfl).trans (am_g_congr fun h101 => ?_)
  refine (am_e0 rfl rfl).trans ?_
  refine (am_gf (c := 11) (t := 0) rfl rfl rfl).trans ((am_g_t h101).trans ?_)
  refine (am_i_ge rfl).trans (am_if_congr (fun c102 => ?_) (fun c102 => ?_))
  · refine (am_e0 rfl rfl).trans ?_
    refine (am_gf (c := 11) (t := 2) rfl rfl rfl).trans ((am_g_t h101).trans ?_)
    refine (am_e0 rfl rfl).trans ?_
    refine (am_gf (c := 11) (t := 0) rfl rfl rfl).trans ((am_g_t h101).trans ?_)
    refine (am_bal rfl).trans (am_g_congr fun h103 => ?_)
    refine (am_cal3 (z := 151) (k := 1) (c := true) rfl rfl rfl rfl rfl rfl rfl rfl).trans ((am_g_t rfl).trans ?_)
    refine am_bind_congr fun r104 => ?_
    show am_Ex d 194 67 [(2, x0), am_N, (1, x2), am_N, (0, x4)] [(0, r104.1)] r104.2 = _
    refine (am_z_eq rfl).trans (am_if_congr (fun c105 => ?_) (fun c105 => ?_))
    · exact (am_e5 rfl).trans rfl
    · refine (am_e0 rfl rfl).trans ?_
      refine (am_e0 rfl rfl).trans ?_
      refine (am_i_ge rfl).trans (am_if_congr (fun c106 => ?_) (fun c106 => ?_))
      · refine (am_e0 rfl rfl).trans ?_
        refine (am_e0 rfl rfl).trans ?_
        refine (am_e0 rfl rfl).trans ?_
        refine (am_e0 rfl rfl).trans ?_
        refine (am_gf (c := 11) (t := 2) rfl rfl rfl).trans ((am_g_t h101).trans ?_)
        refine (am_e0 rfl rfl).trans ?_
        refine (am_gf (c := 11) (t := 0) rfl rfl rfl).trans ((am_g_t h101).trans ?_)
        refine (am_bal rfl).trans (am_g_congr fun h107 => ?_)
        refine (am_e0 rfl rfl).trans ?_
        refine (am_e0 rfl rfl).trans ?_
        refine (am_e0 rfl rfl).trans ?_
        refine (am_e0 rfl rfl).trans ?_
        refine (am_e1 rfl rfl).trans ?_
        refine (am_e0 rfl rfl).trans ?_
        refine am_lets (L := fun v108 => [(2, x0), am_N, (1, v108), am_N, (0, x4)]) (fun v108 => ?_)
        refine (am_e0 rfl rfl).trans ?_
        refine am_lets (L := fun v109 => [(2, x0), am_N, (1, v108), am_N, (0, v109)]) (fun v109 => ?_)
        refine (am_e0 rfl rfl).trans ?_
        refine (am_e0 rfl rfl).trans ?_
        refine (am_gf (c := 11) (t := 0) rfl rfl rfl).trans ((am_g_t h101).trans ?_)
        refine (am_e0 rfl rfl).trans ?_
        refine (am_e0 rfl rfl).trans ?_
        refine (am_pf (c := 11) rfl rfl rfl).trans ((am_g_t h101).trans ?_)
        refine am_letm (fun M110 => ?_)
        refine (am_e1 rfl rfl).trans ?_
        exact (am_e5 rfl).trans rfl
      · refine (am_e0 rfl rfl).trans ?_
        refine (am_e0 rfl rfl).trans ?_
        refine (am_e0 rfl rfl).trans ?_
        refine am_lets (L := fun v111 => [(2, x0), am_N, (1, x2), am_N, (0, v111)]) (fun v111 => ?_)
        refine (am_e0 rfl rfl).trans ?_
        refine (am_e0 rfl rfl).trans ?_
        refine (am_gf (c := 11) (t := 0) rfl rfl rfl).trans ((am_g_t h101).trans ?_)
        refine (am_e0 rfl rfl).trans ?_
        refine (am_e0 rfl rfl).trans ?_
        refine (am_pf (c := 11) rfl rfl rfl).trans ((am_g_t h101).trans ?_)
        refine am_letm (fun M112 => ?_)
        refine (am_e1 rfl rfl).trans ?_
        exact (am_e5 rfl).trans rfl
  · exact (am_e5 rfl).trans rfl
set_option maxRecDepth 10000 in
theorem aq_194_95 (d : Nat) (x0 x2 x4 : Int) (M : am_M) : am_Ex d 194 95 [(2, x0), am_N, (1, x2), am_N, (0, x4)] [] M = (if x4 ≤ 7 then ((am_Call d 71 [(1, x2)] M).bind fun r102 => am_g (am_ob x0 11) <| am_let (am_wr r102.2 x0 18 r102.1) fun M104 => if am_rd M104 x0 18 < 0 then (am_let (am_wr M104 x0 17 4) fun M106 => some (0, M106)) else (am_let (am_wr M104 x0 17 1) fun M107 => some (0, M107))) else (am_g (am_ob x0 11) <| am_let (am_wr M x0 18 (-1)) fun M109 => if am_rd M109 x0 18 < 0 then (am_let (am_wr M109 x0 17 4) fun M111 => some (0, M111)) else (am_let (am_wr M109 x0 17 1) fun M112 => some (0, M112)))) := by
  refine (am_e0 rfl rfl).trans ?_
  refine (am_e0 rfl rfl).trans ?_
  refine (am_e0 rfl rfl).trans ?_
  refine (am_i_le rfl).trans (am_if_congr (fun c101 => ?_) (fun c101 => ?_))
  · refine (am_e0 rfl rfl).trans ?_
    refine (am_cal3 (z := 71) (k := 1) (c := true) rfl rfl rfl rfl rfl rfl rfl rfl).trans ((am_g_t rfl).trans ?_)
    refine am_bind_congr fun r102 => ?_
    show am_Ex d 194 103 [(2, x0), am_N, (1, x2), am_N, (0, x4)] [(0, r102.1), (2, x0)] r102.2 = _
    refine (am_pf (c := 11) rfl rfl rfl).trans (am_g_congr fun h103 => ?_)
    refine am_letm (fun M104 => ?_)
    refine (am_e0 rfl rfl).trans ?_
    refine (am_e0 rfl rfl).trans ?_
    refine (am_gf (c := 11) (t := 0) rfl rfl rfl).trans ((am_g_t h103).trans ?_)
    refine (am_z_ge rfl).trans (am_if_congr (fun c105 => ?_) (fun c105 => ?_))
    · refine (am_e0 rfl rfl).trans ?_
      refine (am_e1 rfl rfl).trans ?_
      refine (am_pf (c := 11) rfl rfl rfl).trans ((am_g_t h103).trans ?_)
      refine am_letm (fun M106 => ?_)
      refine (am_e1 rfl rfl).trans ?_
      refine (am_e5 rfl).trans ?_
      show am_Ex d 194 231 [am_N, am_N, am_N, am_N, am_N] [] M106 = _
      exact (am_e4v rfl rfl).trans rfl
    · refine (am_e0 rfl rfl).trans ?_
      refine (am_pf (c := 11) rfl rfl rfl).trans ((am_g_t h103).trans ?_)
      refine am_letm (fun M107 => ?_)
      refine (am_e1 rfl rfl).trans ?_
      refine (am_e5 rfl).trans ?_
      show am_Ex d 194 231 [am_N, am_N, am_N, am_N, am_N] [] M107 = _
      exact (am_e4v rfl rfl).trans rfl
  · refine (am_e0 rfl rfl).trans ?_
    refine (am_e1 rfl rfl).trans ?_
    refine (am_pf (c := 11) rfl rfl rfl).trans (am_g_congr fun h108 => ?_)
    refine am_letm (fun M109 => ?_)
    refine (am_e0 rfl rfl).trans ?_
    refine (am_e0 rfl rfl).trans ?_
    refine (am_gf (c := 11) (t := 0) rfl rfl rfl).trans ((am_g_t h108).trans ?_)
    refine (am_z_ge rfl).trans (am_if_congr (fun c110 => ?_) (fun c110 => ?_))
    · refine (am_e0 rfl rfl).trans ?_
      refine (am_e1 rfl rfl).trans ?_
      refine (am_pf (c := 11) rfl rfl rfl).trans ((am_g_t h108).trans ?_)
      refine am_letm (fun M111 => ?_)
      refine (am_e1 rfl rfl).trans ?_
      refine (am_e5 rfl).trans ?_
      show am_Ex d 194 231 [am_N, am_N, am_N, am_N, am_N] [] M111 = _
      exact (am_e4v rfl rfl).trans rfl
    · refine (am_e0 rfl rfl).trans ?_
      refine (am_pf (c := 11) rfl rfl rfl).trans ((am_g_t h108).trans ?_)
      refine am_letm (fun M112 => ?_)
      refine (am_e1 rfl rfl).trans ?_
      refine (am_e5 rfl).trans ?_
      show am_Ex d 194 231 [am_N, am_N, am_N, am_N, am_N] [] M112 = _
      exact (am_e4v rfl rfl).trans rfl
