/-! equations of the methods 244 .. 263 -/
-- 244: UnlearnedHand.halves(III)I
set_option maxRecDepth 10000 in
theorem aq_244 (d : Nat) (x0 x1 x2 x3 : Int) (M : am_M) : am_Call d 244 [(2, x0), (0, x1), (0, x2), (0, x3)] M = (am_g (am_ob x0 10) <| am_g (am_ob (am_rd M x0 0) 2) <| (am_Call d 8 [(2, am_rd M x0 0), (0, x1)] M).bind fun r103 => if r103.1 = 0 then (some ((-1), r103.2)) else (am_g (am_ob (am_rd r103.2 x0 0) 2) <| (am_Call d 8 [(2, am_rd r103.2 x0 0), (0, x2)] r103.2).bind fun r106 => if r106.1 = 0 then (some ((-1), r106.2)) else (if x1 = x2 then (some ((-1), r106.2)) else (am_g (am_ob (am_rd r106.2 x0 10) 4) <| (am_Call d 209 [(2, am_rd r106.2 x0 10), (2, am_rd r106.2 x0 2), (0, x1)] r106.2).bind fun r110 => am_g (am_ob (am_rd r110.2 x0 10) 4) <| (am_Call d 209 [(2, am_rd r110.2 x0 10), (2, am_rd r110.2 x0 2), (0, x2)] r110.2).bind fun r112 => if x3 = 0 then (some (am_and r110.1 (am_xor r112.1 (-1)), r112.2)) else if x3 = 1 then (some (am_and r112.1 (am_xor r110.1 (-1)), r112.2)) else if x3 = 2 then (some (am_and r110.1 r112.1, r112.2)) else if x3 = 3 then (am_g (am_ob (am_rd r112.2 x0 0) 2) <| (am_Call d 11 [(2, am_rd r112.2 x0 0)] r112.2).bind fun r118 => some (am_and r118.1 (am_xor (am_or r110.1 r112.1) (-1)), r118.2)) else (some ((-1), r112.2)))))) := by
  show am_Ex d 244 0 [(2, x0), (0, x1), (0, x2), (0, x3), am_N, am_N] [] M = _
  refine (am_e0 rfl rfl).trans ?_
  refine (am_gf (c := 10) (t := 2) rfl rfl rfl).trans (am_g_congr fun h101 => ?_)
  refine (am_e0 rfl rfl).trans ?_
  refine (am_cal3 (z := 8) (k := 2) (c := (am_ob (am_rd M x0 0) 2)) rfl rfl rfl rfl rfl rfl rfl rfl).trans (am_g_congr fun h102 => ?_)
  refine am_bind_congr fun r103 => ?_
  show am_Ex d 244 4 [(2, x0), (0, x1), (0, x2), (0, x3), am_N, am_N] [(0, r103.1)] r103.2 = _
  refine (am_z_eq rfl).trans (am_if_congr (fun c104 => ?_) (fun c104 => ?_))
  · refine (am_e5 rfl).trans ?_
    show am_Ex d 244 14 [am_N, am_N, am_N, am_N, am_N, am_N] [] r103.2 = _
    refine (am_e0 rfl rfl).trans ?_
    exact (am_e4i rfl rfl).trans rfl
  · refine (am_e0 rfl rfl).trans ?_
    refine (am_gf (c := 10) (t := 2) rfl rfl rfl).trans ((am_g_t h101).trans ?_)
    refine (am_e0 rfl rfl).trans ?_
    refine (am_cal3 (z := 8) (k := 2) (c := (am_ob (am_rd r103.2 x0 0) 2)) rfl rfl rfl rfl rfl rfl rfl rfl).trans (am_g_congr fun h105 => ?_)
    refine am_bind_congr fun r106 => ?_
    show am_Ex d 244 9 [(2, x0), (0, x1), (0, x2), (0, x3), am_N, am_N] [(0, r106.1)] r106.2 = _
    refine (am_z_eq rfl).trans (am_if_congr (fun c107 => ?_) (fun c107 => ?_))
    · refine (am_e5 rfl).trans ?_
      show am_Ex d 244 14 [am_N, am_N, am_N, am_N, am_N, am_N] [] r106.2 = _
      refine (am_e0 rfl rfl).trans ?_
      exact (am_e4i rfl rfl).trans rfl
    · refine (am_e0 rfl rfl).trans ?_
      refine (am_e0 rfl rfl).trans ?_
      refine (am_i_ne rfl).trans (am_if_congr (fun c108 => ?_) (fun c108 => ?_))
      · refine (am_e5 rfl).trans ?_
        show am_Ex d 244 14 [am_N, am_N, am_N, am_N, am_N, am_N] [] r106.2 = _
        refine (am_e0 rfl rfl).trans ?_
        exact (am_e4i rfl rfl).trans rfl
      · refine (am_e0 rfl rfl).trans ?_
        refine (am_gf (c := 10) (t := 2) rfl rfl rfl).trans ((am_g_t h101).trans ?_)
        refine (am_e0 rfl rfl).trans ?_
        refine (am_gf (c := 10) (t := 2) rfl rfl rfl).trans ((am_g_t h101).trans ?_)
        refine (am_e0 rfl rfl).trans ?_
        refine (am_cal3 (z := 209) (k := 3) (c := (am_ob (am_rd r106.2 x0 10) 4)) rfl rfl rfl rfl rfl rfl rfl rfl).trans (am_g_congr fun h109 => ?_)
        refine am_bind_congr fun r110 => ?_
        show am_Ex d 244 22 [(2, x0), (0, x1), (0, x2), (0, x3), am_N, am_N] [(0, r110.1)] r110.2 = _
        refine (am_e0 rfl rfl).trans ?_
        refine (am_e0 rfl rfl).trans ?_
        refine (am_gf (c := 10) (t := 2) rfl rfl rfl).trans ((am_g_t h101).trans ?_)
        refine (am_e0 rfl rfl).trans ?_
        refine (am_gf (c := 10) (t := 2) rfl rfl rfl).trans ((am_g_t h101).trans ?_)
        refine (am_e0 rfl rfl).trans ?_
        refine (am_cal3 (z := 209) (k := 3) (c := (am_ob (am_rd r110.2 x0 10) 4)) rfl rfl rfl rfl rfl rfl rfl rfl).trans (am_g_congr fun h111 => ?_)
        refine am_bind_congr fun r112 => ?_
        show am_Ex d 244 29 [(2, x0), (0, x1), (0, x2), (0, x3), (0, r110.1), am_N] [(0, r112.1)] r112.2 = _
        refine (am_e0 rfl rfl).trans ?_
        refine (am_e0 rfl rfl).trans ?_
        refine (am_tsw rfl).trans ?_
        refine (am_sw_c).trans (am_if_congr (fun c113 => ?_) (fun c113 => ?_))
        · refine (am_e0 rfl rfl).trans ?_
          refine (am_e0 rfl rfl).trans ?_
          refine (am_e0 rfl rfl).trans ?_
          refine (am_e0 rfl rfl).trans ?_
          refine (am_e0 rfl rfl).trans ?_
          exact (am_e4i rfl rfl).trans rfl
        refine (am_sw_c).trans (am_if_congr (fun c114 => ?_) (fun c114 => ?_))
        · refine (am_e0 rfl rfl).trans ?_
          refine (am_e0 rfl rfl).trans ?_
          refine (am_e0 rfl rfl).trans ?_
          refine (am_e0 rfl rfl).trans ?_
          refine (am_e0 rfl rfl).trans ?_
          exact (am_e4i rfl rfl).trans rfl
        refine (am_sw_c).trans (am_if_congr (fun c115 => ?_) (fun c115 => ?_))
        · refine (am_e0 rfl rfl).trans ?_
          refine (am_e0 rfl rfl).trans ?_
          refine (am_e0 rfl rfl).trans ?_
          exact (am_e4i rfl rfl).trans rfl
        refine (am_sw_c).trans (am_if_congr (fun c116 => ?_) (fun c116 => ?_))
        · refine (am_e0 rfl rfl).trans ?_
          refine (am_gf (c := 10) (t := 2) rfl rfl rfl).trans ((am_g_t h101).trans ?_)
          refine (am_cal3 (z := 11) (k := 1) (c := (am_ob (am_rd r112.2 x0 0) 2)) rfl rfl rfl rfl rfl rfl rfl rfl).trans (am_g_congr fun h117 => ?_)
          refine am_bind_congr fun r118 => ?_
          show am_Ex d 244 51 [(2, x0), (0, x1), (0, x2), (0, x3), (0, r110.1), (0, r112.1)] [(0, r118.1)] r118.2 = _
          refine (am_e0 rfl rfl).trans ?_
          refine (am_e0 rfl rfl).trans ?_
          refine (am_e0 rfl rfl).trans ?_
          refine (am_e0 rfl rfl).trans ?_
          refine (am_e0 rfl rfl).trans ?_
          refine (am_e0 rfl rfl).trans ?_
          exact (am_e4i rfl rfl).trans rfl
        refine (am_sw_n).trans ?_
        refine (am_e0 rfl rfl).trans ?_
        exact (am_e4i rfl rfl).trans rfl
-- 245: UnlearnedHand.trial(III)J
set_option maxRecDepth 10000 in
theorem aq_245 (d : Nat) (x0 x1 x2 x3 : Int) (M : am_M) : am_Call d 245 [(2, x0), (0, x1), (0, x2), (0, x3)] M = ((am_Call d 99 [(0, x2)] M).bind fun r101 => am_g (am_ob x0 10) <| am_g (am_ob (am_rd r101.2 x0 0) 2) <| (am_Call d 8 [(2, am_rd r101.2 x0 0), (0, x1)] r101.2).bind fun r104 => if r104.1 = 0 then (some ((-100), r104.2)) else (am_g (am_ob (am_rd r104.2 x0 0) 2) <| (am_Call d 108 [(2, am_rd r104.2 x0 0), (0, x2)] r104.2).bind fun r107 => if r107.1 = 0 then (some ((-100), r107.2)) else (if r101.1 < 1 then (some ((-100), r107.2)) else (if r101.1 ≤ 5 then (if x3 < (-2) then (some ((-100), r107.2)) else (if x3 < r101.1 then (am_g (am_ob (am_rd r107.2 x0 14) 5) <| (am_Call d 210 [(2, am_rd r107.2 x0 14), (0, x1), (0, x2), (0, x3)] r107.2).bind fun r114 => some (r114.1, r114.2)) else (some ((-100), r107.2)))) else (some ((-100), r107.2)))))) := by
  show am_Ex d 245 0 [(2, x0), (0, x1), (0, x2), (0, x3), am_N] [] M = _
  refine (am_e0 rfl rfl).trans ?_
  refine (am_cal3 (z := 99) (k := 1) (c := true) rfl rfl rfl rfl rfl rfl rfl rfl).trans ((am_g_t rfl).trans ?_)
  refine am_bind_congr fun r101 => ?_
  show am_Ex d 245 2 [(2, x0), (0, x1), (0, x2), (0, x3), am_N] [(0, r101.1)] r101.2 = _
  refine (am_e0 rfl rfl).trans ?_
  refine (am_e0 rfl rfl).trans ?_
  refine (am_gf (c := 10) (t := 2) rfl rfl rfl).trans (am_g_congr fun h102 => ?_)
  refine (am_e0 rfl rfl).trans ?_
  refine (am_cal3 (z := 8) (k := 2) (c := (am_ob (am_rd r101.2 x0 0) 2)) rfl rfl rfl rfl rfl rfl rfl rfl).trans (am_g_congr fun h103 => ?_)
  refine am_bind_congr fun r104 => ?_
  show am_Ex d 245 7 [(2, x0), (0, x1), (0, x2), (0, x3), (0, r101.1)] [(0, r104.1)] r104.2 = _
  refine (am_z_eq rfl).trans (am_if_congr (fun c105 => ?_) (fun c105 => ?_))
  · refine (am_e5 rfl).trans ?_
    show am_Ex d 245 26 [am_N, am_N, am_N, am_N, am_N] [] r104.2 = _
    refine (am_e0 rfl rfl).trans ?_
    exact (am_e4l rfl rfl).trans rfl
  · refine (am_e0 rfl rfl).trans ?_
    refine (am_gf (c := 10) (t := 2) rfl rfl rfl).trans ((am_g_t h102).trans ?_)
    refine (am_e0 rfl rfl).trans ?_
    refine (am_cal3 (z := 108) (k := 2) (c := (am_ob (am_rd r104.2 x0 0) 2)) rfl rfl rfl rfl rfl rfl rfl rfl).trans (am_g_congr fun h106 => ?_)
    refine am_bind_congr fun r107 => ?_
    show am_Ex d 245 12 [(2, x0), (0, x1), (0, x2), (0, x3), (0, r101.1)] [(0, r107.1)] r107.2 = _
    refine (am_z_eq rfl).trans (am_if_congr (fun c108 => ?_) (fun c108 => ?_))
    · refine (am_e5 rfl).trans ?_
      show am_Ex d 245 26 [am_N, am_N, am_N, am_N, am_N] [] r107.2 = _
      refine (am_e0 rfl rfl).trans ?_
      exact (am_e4l rfl rfl).trans rfl
    · refine (am_e0 rfl rfl).trans ?_
      refine (am_e0 rfl rfl).trans ?_
      refine (am_i_lt rfl).trans (am_if_congr (fun c109 => ?_) (fun c109 => ?_))
      · refine (am_e5 rfl).trans ?_
        show am_Ex d 245 26 [am_N, am_N, am_N, am_N, am_N] [] r107.2 = _
        refine (am_e0 rfl rfl).trans ?_
        exact (am_e4l rfl rfl).trans rfl
      · refine (am_e0 rfl rfl).trans ?_
        refine (am_e0 rfl rfl).trans ?_
        refine (am_i_gt rfl).trans (am_if_congr (fun c110 => ?_) (fun c110 => ?_))
        · refine (am_e0 rfl rfl).trans ?_
          refine (am_e0 rfl rfl).trans ?_
          refine (am_i_lt rfl).trans (am_if_congr (fun c111 => ?_) (fun c111 => ?_))
          · refine (am_e5 rfl).trans ?_
            show am_Ex d 245 26 [am_N, am_N, am_N, am_N, am_N] [] r107.2 = _
            refine (am_e0 rfl rfl).trans ?_
            exact (am_e4l rfl rfl).trans rfl
          · refine (am_e0 rfl rfl).trans ?_
            refine (am_e0 rfl rfl).trans ?_
            refine (am_i_lt rfl).trans (am_if_congr (fun c112 => ?_) (fun c112 => ?_))
            · refine (am_e0 rfl rfl).trans ?_
              refine (am_gf (c := 10) (t := 2) rfl rfl rfl).trans ((am_g_t h102).trans ?_)
              refine (am_e0 rfl rfl).trans ?_
              refine (am_e0 rfl rfl).trans ?_
              refine (am_e0 rfl rfl).trans ?_
              refine (am_cal3 (z := 210) (k := 4) (c := (am_ob (am_rd r107.2 x0 14) 5)) rfl rfl rfl rfl rfl rfl rfl rfl).trans (am_g_congr fun h113 => ?_)
              refine am_bind_congr fun r114 => ?_
              show am_Ex d 245 34 [(2, x0), (0, x1), (0, x2), (0, x3), (0, r101.1)] [(1, r114.1)] r114.2 = _
              exact (am_e4l rfl rfl).trans rfl
            · refine (am_e5 rfl).trans ?_
              show am_Ex d 245 26 [am_N, am_N, am_N, am_N, am_N] [] r107.2 = _
              refine (am_e0 rfl rfl).trans ?_
              exact (am_e4l rfl rfl).trans rfl
        · refine (am_e5 rfl).trans ?_
          show am_Ex d 245 26 [am_N, am_N, am_N, am_N, am_N] [] r107.2 = _
          refine (am_e0 rfl rfl).trans ?_
          exact (am_e4l rfl rfl).trans rfl
-- 246: UnlearnedHandModel.asks()V
set_option maxRecDepth 10000 in
theorem aq_246 (d : Nat) (x0 : Int) (M : am_M) : am_Call d 246 [(2, x0)] M = (am_g (am_ob x0 11) <| (am_Call d 73 [(2, x0), (0, 18)] M).bind fun r102 => if r102.1 = 0 then ((am_Call d 76 [(2, x0), (0, 4)] r102.2).bind fun r104 => am_let (am_wr r104.2 x0 28 1) fun M105 => some (0, M105)) else ((am_Call d 217 [(2, x0), (0, 3)] r102.2).bind fun r106 => some (0, r106.2))) := by
  show am_Ex d 246 0 [(2, x0), am_N] [] M = _
  refine (am_e0 rfl rfl).trans ?_
  refine (am_e0 rfl rfl).trans ?_
  refine (am_cal3 (z := 73) (k := 2) (c := (am_ob x0 11)) rfl rfl rfl rfl rfl rfl rfl rfl).trans (am_g_congr fun h101 => ?_)
  refine am_bind_congr fun r102 => ?_
  show am_Ex d 246 3 [(2, x0), am_N] [(0, r102.1)] r102.2 = _
  refine (am_z_eq rfl).trans (am_if_congr (fun c103 => ?_) (fun c103 => ?_))
  · refine (am_e0 rfl rfl).trans ?_
    refine (am_e0 rfl rfl).trans ?_
    refine (am_cal3 (z := 76) (k := 2) (c := (am_ob x0 11)) rfl rfl rfl rfl rfl rfl rfl rfl).trans ((am_g_t h101).trans ?_)
    refine am_bind_congr fun r104 => ?_
    show am_Ex d 246 12 [(2, x0), am_N] [] r104.2 = _
    refine (am_e0 rfl rfl).trans ?_
    refine (am_e0 rfl rfl).trans ?_
    refine (am_pf (c := 11) rfl rfl rfl).trans ((am_g_t h101).trans ?_)
    refine am_letm (fun M105 => ?_)
    refine (am_e5 rfl).trans ?_
    show am_Ex d 246 16 [am_N, am_N] [] M105 = _
    exact (am_e4v rfl rfl).trans rfl
  · refine (am_e0 rfl rfl).trans ?_
    refine (am_e0 rfl rfl).trans ?_
    refine (am_cal3 (z := 217) (k := 2) (c := (am_ob x0 11)) rfl rfl rfl rfl rfl rfl rfl rfl).trans ((am_g_t h101).trans ?_)
    refine am_bind_congr fun r106 => ?_
    show am_Ex d 246 7 [(2, x0), am_N] [(0, r106.1)] r106.2 = _
    refine (am_e0 rfl rfl).trans ?_
    refine (am_e1 rfl rfl).trans ?_
    refine (am_e5 rfl).trans ?_
    show am_Ex d 246 16 [am_N, am_N] [] r106.2 = _
    exact (am_e4v rfl rfl).trans rfl
-- 247: UnlearnedHandModel.begins()V
set_option maxRecDepth 10000 in
theorem aq_247 (d : Nat) (x0 : Int) (M : am_M) : am_Call d 247 [(2, x0)] M = (am_g (am_ob x0 11) <| (am_Call d 80 [(2, x0)] M).bind fun r102 => if am_rd r102.2 x0 17 = 2 then (if am_rd r102.2 x0 18 ≤ 9999 then ((am_Call d 75 [(2, x0), (0, 400), (0, am_rd r102.2 x0 18)] r102.2).bind fun r105 => (am_Call d 194 [(2, x0)] r105.2).bind fun r106 => (am_Call d 153 [(2, x0)] r106.2).bind fun r107 => some (0, r107.2)) else ((am_Call d 74 [(2, x0), (0, 2)] r102.2).bind fun r108 => some (0, r108.2))) else (if r102.1 = (-1) then ((am_Call d 72 [(2, x0), (0, 40)] r102.2).bind fun r110 => if r110.1 = 0 then ((am_Call d 72 [(2, x0), (0, 45)] r110.2).bind fun r112 => if r112.1 = 0 then ((am_Call d 73 [(2, x0), (0, 19)] r112.2).bind fun r114 => if r114.1 = 0 then ((am_Call d 74 [(2, x0), (0, 1)] r114.2).bind fun r116 => some (0, r116.2)) else (am_Ex d 247 64 [(2, x0), am_N, am_N] [] r114.2)) else (am_Ex d 247 64 [(2, x0), am_N, am_N] [] r112.2)) else ((am_Call d 217 [(2, x0), (0, 6)] r110.2).bind fun r117 => some (0, r117.2))) else ((am_Call d 79 [(0, r102.1), (0, am_rd r102.2 x0 30)] r102.2).bind fun r118 => if r118.1 = 0 then ((am_Call d 74 [(2, x0), (0, 5)] r118.2).bind fun r120 => some (0, r120.2)) else ((am_Call d 75 [(2, x0), (0, 401), (0, r102.1)] r118.2).bind fun r121 => (am_Call d 194 [(2, x0)] r121.2).bind fun r122 => (am_Call d 153 [(2, x0)] r122.2).bind fun r123 => some (0, r123.2))))) := by
  show am_Ex d 247 0 [(2, x0), am_N, am_N] [] M = _
  refine (am_e0 rfl rfl).trans ?_
  refine (am_cal3 (z := 80) (k := 1) (c := (am_ob x0 11)) rfl rfl rfl rfl rfl rfl rfl rfl).trans (am_g_congr fun h101 => ?_)
  refine am_bind_congr fun r102 => ?_
  show am_Ex d 247 2 [(2, x0), am_N, am_N] [(0, r102.1)] r102.2 = _
  refine (am_e0 rfl rfl).trans ?_
  refine (am_e0 rfl rfl).trans ?_
  refine (am_gf (c := 11) (t := 0) rfl rfl rfl).trans ((am_g_t h101).trans ?_)
  refine (am_e0 rfl rfl).trans ?_
  refine (am_i_ne rfl).trans (am_if_congr (fun c103 => ?_) (fun c103 => ?_))
  · refine (am_e0 rfl rfl).trans ?_
    refine (am_gf (c := 11) (t := 0) rfl rfl rfl).trans ((am_g_t h101).trans ?_)
    refine (am_e0 rfl rfl).trans ?_
    refine (am_i_le rfl).trans (am_if_congr (fun c104 => ?_) (fun c104 => ?_))
    · refine (am_e0 rfl rfl).trans ?_
      refine (am_e0 rfl rfl).trans ?_
      refine (am_e0 rfl rfl).trans ?_
      refine (am_gf (c := 11) (t := 0) rfl rfl rfl).trans ((am_g_t h101).trans ?_)
      refine (am_cal3 (z := 75) (k := 3) (c := (am_ob x0 11)) rfl rfl rfl rfl rfl rfl rfl rfl).trans ((am_g_t h101).trans ?_)
      refine am_bind_congr fun r105 => ?_
      show am_Ex d 247 20 [(2, x0), (0, r102.1), am_N] [] r105.2 = _
      refine (am_e0 rfl rfl).trans ?_
      refine (am_cal3 (z := 194) (k := 1) (c := (am_ob x0 11)) rfl rfl rfl rfl rfl rfl rfl rfl).trans ((am_g_t h101).trans ?_)
      refine am_bind_congr fun r106 => ?_
      show am_Ex d 247 22 [(2, x0), (0, r102.1), am_N] [] r106.2 = _
      refine (am_e0 rfl rfl).trans ?_
      refine (am_cal3 (z := 153) (k := 1) (c := (am_ob x0 11)) rfl rfl rfl rfl rfl rfl rfl rfl).trans ((am_g_t h101).trans ?_)
      refine am_bind_congr fun r107 => ?_
      show am_Ex d 247 24 [(2, x0), (0, r102.1), am_N] [] r107.2 = _
      refine (am_e1 rfl rfl).trans ?_
      refine (am_e5 rfl).trans ?_
      show am_Ex d 247 79 [am_N, am_N, am_N] [] r107.2 = _
      exact (am_e4v rfl rfl).trans rfl
    · refine (am_e0 rfl rfl).trans ?_
      refine (am_e0 rfl rfl).trans ?_
      refine (am_cal3 (z := 74) (k := 2) (c := (am_ob x0 11)) rfl rfl rfl rfl rfl rfl rfl rfl).trans ((am_g_t h101).trans ?_)
      refine am_bind_congr fun r108 => ?_
      show am_Ex d 247 14 [(2, x0), (0, r102.1), am_N] [] r108.2 = _
      exact (am_e4v rfl rfl).trans rfl
  · refine (am_e0 rfl rfl).trans ?_
    refine (am_e0 rfl rfl).trans ?_
    refine (am_i_eq rfl).trans (am_if_congr (fun c109 => ?_) (fun c109 => ?_))
    · refine (am_e0 rfl rfl).trans ?_
      refine (am_e0 rfl rfl).trans ?_
      refine (am_cal3 (z := 72) (k := 2) (c := (am_ob x0 11)) rfl rfl rfl rfl rfl rfl rfl rfl).trans ((am_g_t h101).trans ?_)
      refine am_bind_congr fun r110 => ?_
      show am_Ex d 247 49 [(2, x0), (0, r102.1), am_N] [(0, r110.1)] r110.2 = _
      refine (am_z_eq rfl).trans (am_if_congr (fun c111 => ?_) (fun c111 => ?_))
      · refine (am_e0 rfl rfl).trans ?_
        refine (am_e0 rfl rfl).trans ?_
        refine (am_cal3 (z := 72) (k := 2) (c := (am_ob x0 11)) rfl rfl rfl rfl rfl rfl rfl rfl).trans ((am_g_t h101).trans ?_)
        refine am_bind_congr fun r112 => ?_
        show am_Ex d 247 58 [(2, x0), (0, r102.1), am_N] [(0, r112.1)] r112.2 = _
        refine (am_z_ne rfl).trans (am_if_congr (fun c113 => ?_) (fun c113 => ?_))
        · refine (am_e0 rfl rfl).trans ?_
          refine (am_e0 rfl rfl).trans ?_
          refine (am_cal3 (z := 73) (k := 2) (c := (am_ob x0 11)) rfl rfl rfl rfl rfl rfl rfl rfl).trans ((am_g_t h101).trans ?_)
          refine am_bind_congr fun r114 => ?_
          show am_Ex d 247 62 [(2, x0), (0, r102.1), am_N] [(0, r114.1)] r114.2 = _
          refine (am_z_eq rfl).trans (am_if_congr (fun c115 => ?_) (fun c115 => ?_))
          · refine (am_e0 rfl rfl).trans ?_
            refine (am_e0 rfl rfl).trans ?_
            refine (am_cal3 (z := 74) (k := 2) (c := (am_ob x0 11)) rfl rfl rfl rfl rfl rfl rfl rfl).trans ((am_g_t h101).trans ?_)
            refine am_bind_congr fun r116 => ?_
            show am_Ex d 247 78 [(2, x0), (0, r102.1), am_N] [] r116.2 = _
            refine (am_e5 rfl).trans ?_
            show am_Ex d 247 79 [am_N, am_N, am_N] [] r116.2 = _
            exact (am_e4v rfl rfl).trans rfl
          · exact (am_e5 rfl).trans rfl
        · exact (am_e5 rfl).trans rfl
      · refine (am_e0 rfl rfl).trans ?_
        refine (am_e0 rfl rfl).trans ?_
        refine (am_cal3 (z := 217) (k := 2) (c := (am_ob x0 11)) rfl rfl rfl rfl rfl rfl rfl rfl).trans ((am_g_t h101).trans ?_)
        refine am_bind_congr fun r117 => ?_
        show am_Ex d 247 53 [(2, x0), (0, r102.1), am_N] [(0, r117.1)] r117.2 = _
        refine (am_e0 rfl rfl).trans ?_
        refine (am_e1 rfl rfl).trans ?_
        refine (am_e5 rfl).trans ?_
        show am_Ex d 247 79 [am_N, am_N, am_N] [] r117.2 = _
        exact (am_e4v rfl rfl).trans rfl
    · refine (am_e0 rfl rfl).trans ?_
      refine (am_e0 rfl rfl).trans ?_
      refine (am_gf (c := 11) (t := 0) rfl rfl rfl).trans ((am_g_t h101).trans ?_)
      refine (am_cal3 (z := 79) (k := 2) (c := true) rfl rfl rfl rfl rfl rfl rfl rfl).trans ((am_g_t rfl).trans ?_)
      refine am_bind_congr fun r118 => ?_
      show am_Ex d 247 32 [(2, x0), (0, r102.1), am_N] [(0, r118.1)] r118.2 = _
      refine (am_z_ne rfl).trans (am_if_congr (fun c119 => ?_) (fun c119 => ?_))
      · refine (am_e0 rfl rfl).trans ?_
        refine (am_e0 rfl rfl).trans ?_
        refine (am_cal3 (z := 74) (k := 2) (c := (am_ob x0 11)) rfl rfl rfl rfl rfl rfl rfl rfl).trans ((am_g_t h101).trans ?_)
        refine am_bind_congr fun r120 => ?_
        show am_Ex d 247 36 [(2, x0), (0, r102.1), am_N] [] r120.2 = _
        exact (am_e4v rfl rfl).trans rfl
      · refine (am_e0 rfl rfl).trans ?_
        refine (am_e0 rfl rfl).trans ?_
        refine (am_e0 rfl rfl).trans ?_
        refine (am_cal3 (z := 75) (k := 3) (c := (am_ob x0 11)) rfl rfl rfl rfl rfl rfl rfl rfl).trans ((am_g_t h101).trans ?_)
        refine am_bind_congr fun r121 => ?_
        show am_Ex d 247 41 [(2, x0), (0, r102.1), am_N] [] r121.2 = _
        refine (am_e0 rfl rfl).trans ?_
        refine (am_cal3 (z := 194) (k := 1) (c := (am_ob x0 11)) rfl rfl rfl rfl rfl rfl rfl rfl).trans ((am_g_t h101).trans ?_)
        refine am_bind_congr fun r122 => ?_
        show am_Ex d 247 43 [(2, x0), (0, r102.1), am_N] [] r122.2 = _
        refine (am_e0 rfl rfl).trans ?_
        refine (am_cal3 (z := 153) (k := 1) (c := (am_ob x0 11)) rfl rfl rfl rfl rfl rfl rfl rfl).trans ((am_g_t h101).trans ?_)
        refine am_bind_congr fun r123 => ?_
        show am_Ex d 247 45 [(2, x0), (0, r102.1), am_N] [] r123.2 = _
        refine (am_e1 rfl rfl).trans ?_
        refine (am_e5 rfl).trans ?_
        show am_Ex d 247 79 [am_N, am_N, am_N] [] r123.2 = _
        exact (am_e4v rfl rfl).trans rfl
set_option maxRecDepth 10000 in
theorem aq_247_64 (d : Nat) (x0 : Int) (M : am_M) : am_Ex d 247 64 [(2, x0), am_N, am_N] [] M = (am_g (am_ob x0 11) <| (am_Call d 72 [(2, x0), (0, 45)] M).bind fun r102 => if r102.1 = 0 then ((am_Call d 217 [(2, x0), (0, 8)] r102.2).bind fun r104 => some (0, r104.2)) else ((am_Call d 217 [(2, x0), (0, 7)] r102.2).bind fun r105 => some (0, r105.2))) := by
  refine (am_e0 rfl rfl).trans ?_
  refine (am_e0 rfl rfl).trans ?_
  refine (am_e0 rfl rfl).trans ?_
  refine (am_cal3 (z := 72) (k := 2) (c := (am_ob x0 11)) rfl rfl rfl rfl rfl rfl rfl rfl).trans (am_g_congr fun h101 => ?_)
  refine am_bind_congr fun r102 => ?_
  show am_Ex d 247 68 [(2, x0), am_N, am_N] [(0, r102.1), (2, x0)] r102.2 = _
  refine (am_z_eq rfl).trans (am_if_congr (fun c103 => ?_) (fun c103 => ?_))
  · refine (am_e0 rfl rfl).trans ?_
    refine (am_cal3 (z := 217) (k := 2) (c := (am_ob x0 11)) rfl rfl rfl rfl rfl rfl rfl rfl).trans ((am_g_t h101).trans ?_)
    refine am_bind_congr fun r104 => ?_
    show am_Ex d 247 73 [(2, x0), am_N, am_N] [(0, r104.1)] r104.2 = _
    refine (am_e0 rfl rfl).trans ?_
    refine (am_e1 rfl rfl).trans ?_
    refine (am_e5 rfl).trans ?_
    show am_Ex d 247 79 [am_N, am_N, am_N] [] r104.2 = _
    exact (am_e4v rfl rfl).trans rfl
  · refine (am_e0 rfl rfl).trans ?_
    refine (am_e1 rfl rfl).trans ?_
    refine (am_cal3 (z := 217) (k := 2) (c := (am_ob x0 11)) rfl rfl rfl rfl rfl rfl rfl rfl).trans ((am_g_t h101).trans ?_)
    refine am_bind_congr fun r105 => ?_
    show am_Ex d 247 73 [(2, x0), am_N, am_N] [(0, r105.1)] r105.2 = _
    refine (am_e0 rfl rfl).trans ?_
    refine (am_e1 rfl rfl).trans ?_
    refine (am_e5 rfl).trans ?_
    show am_Ex d 247 79 [am_N, am_N, am_N] [] r105.2 = _
    exact (am_e4v rfl rfl).trans rfl
-- 248: UnlearnedHandModel.goesOn()V
set_option maxRecDepth 10000 in
theorem aq_248 (d : Nat) (x0 : Int) (M : am_M) : am_Call d 248 [(2, x0)] M = (am_g (am_ob x0 11) <| (am_Call d 77 [(2, x0)] M).bind fun r102 => if am_rd r102.2 x0 17 = 3 then (if am_rd r102.2 x0 18 = 43 then (am_Ex d 248 24 [(2, x0), am_N, am_N] [] r102.2) else (if am_rd r102.2 x0 18 = 45 then (am_Ex d 248 24 [(2, x0), am_N, am_N] [] r102.2) else (if am_rd r102.2 x0 18 = 42 then (am_Ex d 248 24 [(2, x0), am_N, am_N] [] r102.2) else (if am_rd r102.2 x0 18 = 47 then (am_Ex d 248 24 [(2, x0), am_N, am_N] [] r102.2) else (am_Ex d 248 33 [(2, x0), (0, r102.1), am_N] [] r102.2))))) else (am_Ex d 248 33 [(2, x0), (0, r102.1), am_N] [] r102.2)) := by
  show am_Ex d 248 0 [(2, x0), am_N, am_N] [] M = _
  refine (am_e0 rfl rfl).trans ?_
  refine (am_cal3 (z := 77) (k := 1) (c := (am_ob x0 11)) rfl rfl rfl rfl rfl rfl rfl rfl).trans (am_g_congr fun h101 => ?_)
  refine am_bind_congr fun r102 => ?_
  show am_Ex d 248 2 [(2, x0), am_N, am_N] [(0, r102.1)] r102.2 = _
  refine (am_e0 rfl rfl).trans ?_
  refine (am_e0 rfl rfl).trans ?_
  refine (am_gf (c := 11) (t := 0) rfl rfl rfl).trans ((am_g_t h101).trans ?_)
  refine (am_e0 rfl rfl).trans ?_
  refine (am_i_ne rfl).trans (am_if_congr (fun c103 => ?_) (fun c103 => ?_))
  · refine (am_e0 rfl rfl).trans ?_
    refine (am_gf (c := 11) (t := 0) rfl rfl rfl).trans ((am_g_t h101).trans ?_)
    refine (am_e0 rfl rfl).trans ?_
    refine (am_i_eq rfl).trans (am_if_congr (fun c104 => ?_) (fun c104 => ?_))
    · exact (am_e5 rfl).trans rfl
    · refine (am_e0 rfl rfl).trans ?_
      refine (am_gf (c := 11) (t := 0) rfl rfl rfl).trans ((am_g_t h101).trans ?_)
      refine (am_e0 rfl rfl).trans ?_
      refine (am_i_eq rfl).trans (am_if_congr (fun c105 => ?_) (fun c105 => ?_))
      · exact (am_e5 rfl).trans rfl
      · refine (am_e0 rfl rfl).trans ?_
        refine (am_gf (c := 11) (t := 0) rfl rfl rfl).trans ((am_g_t h101).trans ?_)
        refine (am_e0 rfl rfl).trans ?_
        refine (am_i_eq rfl).trans (am_if_congr (fun c106 => ?_) (fun c106 => ?_))
        · exact (am_e5 rfl).trans rfl
        · refine (am_e0 rfl rfl).trans ?_
          refine (am_gf (c := 11) (t := 0) rfl rfl rfl).trans ((am_g_t h101).trans ?_)
          refine (am_e0 rfl rfl).trans ?_
          refine (am_i_ne rfl).trans (am_if_congr (fun c107 => ?_) (fun c107 => ?_))
          · exact (am_e5 rfl).trans rfl
          · exact (am_e5 rfl).trans rfl
  · exact (am_e5 rfl).trans rfl
set_option maxRecDepth 10000 in
theorem aq_248_24 (d : Nat) (x0 : Int) (M : am_M) : am_Ex d 248 24 [(2, x0), am_N, am_N] [] M = (am_g (am_ob x0 11) <| (am_Call d 218 [(2, x0), (0, am_rd M x0 18)] M).bind fun r102 => am_let (am_wr r102.2 x0 28 1) fun M103 => some (0, M103)) := by
  refine (am_e0 rfl rfl).trans ?_
  refine (am_e0 rfl rfl).trans ?_
  refine (am_gf (c := 11) (t := 0) rfl rfl rfl).trans (am_g_congr fun h101 => ?_)
  refine (am_cal3 (z := 218) (k := 2) (c := (am_ob x0 11)) rfl rfl rfl rfl rfl rfl rfl rfl).trans ((am_g_t h101).trans ?_)
  refine am_bind_congr fun r102 => ?_
  show am_Ex d 248 28 [(2, x0), am_N, am_N] [] r102.2 = _
  refine (am_e0 rfl rfl).trans ?_
  refine (am_e0 rfl rfl).trans ?_
  refine (am_pf (c := 11) rfl rfl rfl).trans ((am_g_t h101).trans ?_)
  refine am_letm (fun M103 => ?_)
  refine (am_e1 rfl rfl).trans ?_
  refine (am_e5 rfl).trans ?_
  show am_Ex d 248 137 [am_N, am_N, am_N] [] M103 = _
  exact (am_e4v rfl rfl).trans rfl
set_option maxRecDepth 10000 in
theorem aq_248_33 (d : Nat) (x0 x1 : Int) (M : am_M) : am_Ex d 248 33 [(2, x0), (0, x1), am_N] [] M = (if x1 = 6 then (am_g (am_ob x0 11) <| (am_Call d 72 [(2, x0), (0, 41)] M).bind fun r103 => if r103.1 = 0 then (am_Ex d 248 61 [(2, x0), (0, x1), am_N] [] r103.2) else ((am_Call d 152 [(2, x0), (0, 3)] r103.2).bind fun r105 => am_let (am_wr r105.2 x0 22 (am_w32 ((am_rd r105.2 x0 22) - 1))) fun M106 => am_let (am_wr M106 x0 21 (am_w32 ((am_rd M106 x0 21) - 1))) fun M107 => (am_Call d 194 [(2, x0)] M107).bind fun r108 => (am_Call d 153 [(2, x0)] r108.2).bind fun r109 => some (0, r109.2))) else (am_Ex d 248 61 [(2, x0), (0, x1), am_N] [] M)) := by
  refine (am_e0 rfl rfl).trans ?_
  refine (am_e0 rfl rfl).trans ?_
  refine (am_i_ne rfl).trans (am_if_congr (fun c101 => ?_) (fun c101 => ?_))
  · refine (am_e0 rfl rfl).trans ?_
    refine (am_e0 rfl rfl).trans ?_
    refine (am_cal3 (z := 72) (k := 2) (c := (am_ob x0 11)) rfl rfl rfl rfl rfl rfl rfl rfl).trans (am_g_congr fun h102 => ?_)
    refine am_bind_congr fun r103 => ?_
    show am_Ex d 248 39 [(2, x0), (0, x1), am_N] [(0, r103.1)] r103.2 = _
    refine (am_z_eq rfl).trans (am_if_congr (fun c104 => ?_) (fun c104 => ?_))
    · exact (am_e5 rfl).trans rfl
    · refine (am_e0 rfl rfl).trans ?_
      refine (am_e0 rfl rfl).trans ?_
      refine (am_cal3 (z := 152) (k := 2) (c := (am_ob x0 11)) rfl rfl rfl rfl rfl rfl rfl rfl).trans ((am_g_t h102).trans ?_)
      refine am_bind_congr fun r105 => ?_
      show am_Ex d 248 43 [(2, x0), (0, x1), am_N] [] r105.2 = _
      refine (am_e0 rfl rfl).trans ?_
      refine (am_e0 rfl rfl).trans ?_
      refine (am_gf (c := 11) (t := 0) rfl rfl rfl).trans ((am_g_t h102).trans ?_)
      refine (am_e0 rfl rfl).trans ?_
      refine (am_e0 rfl rfl).trans ?_
      refine (am_pf (c := 11) rfl rfl rfl).trans ((am_g_t h102).trans ?_)
      refine am_letm (fun M106 => ?_)
      refine (am_e0 rfl rfl).trans ?_
      refine (am_e0 rfl rfl).trans ?_
      refine (am_gf (c := 11) (t := 0) rfl rfl rfl).trans ((am_g_t h102).trans ?_)
      refine (am_e0 rfl rfl).trans ?_
      refine (am_e0 rfl rfl).trans ?_
      refine (am_pf (c := 11) rfl rfl rfl).trans ((am_g_t h102).trans ?_)
      refine am_letm (fun M107 => ?_)
      refine (am_e0 rfl rfl).trans ?_
      refine (am_cal3 (z := 194) (k := 1) (c := (am_ob x0 11)) rfl rfl rfl rfl rfl rfl rfl rfl).trans ((am_g_t h102).trans ?_)
      refine am_bind_congr fun r108 => ?_
      show am_Ex d 248 57 [(2, x0), (0, x1), am_N] [] r108.2 = _
      refine (am_e0 rfl rfl).trans ?_
      refine (am_cal3 (z := 153) (k := 1) (c := (am_ob x0 11)) rfl rfl rfl rfl rfl rfl rfl rfl).trans ((am_g_t h102).trans ?_)
      refine am_bind_congr fun r109 => ?_
      show am_Ex d 248 59 [(2, x0), (0, x1), am_N] [] r109.2 = _
      refine (am_e1 rfl rfl).trans ?_
      refine (am_e5 rfl).trans ?_
      show am_Ex d 248 137 [am_N, am_N, am_N] [] r109.2 = _
      exact (am_e4v rfl rfl).trans rfl
  · exact (am_e5 rfl).trans rfl
set_option maxRecDepth 10000 in
theorem aq_248_61 (d : Nat) (x0 x1 : Int) (M : am_M) : am_Ex d 248 61 [(2, x0), (0, x1), am_N] [] M = (if x1 = 4 then (am_g (am_ob x0 11) <| if am_rd M x0 17 = 3 then ((am_Call d 81 [(0, am_rd M x0 18)] M).bind fun r104 => if r104.1 = 0 then (am_Ex d 248 97 [(2, x0), (0, x1), am_N] [] r104.2) else ((am_Call d 152 [(2, x0), (0, 3)] r104.2).bind fun r106 => am_g (am_ar (am_rd r106.2 x0 24) 20 (am_rd r106.2 x0 22)) <| am_let (am_wr r106.2 (am_rd r106.2 x0 24) (am_rd r106.2 x0 22) (am_rd r106.2 x0 18)) fun M108 => am_g (am_ar (am_rd M108 x0 23) 20 (am_w32 ((am_rd M108 x0 22) - 1))) <| am_let (am_wr M108 (am_rd M108 x0 23) (am_w32 ((am_rd M108 x0 22) - 1)) 5) fun M110 => (am_Call d 194 [(2, x0)] M110).bind fun r111 => am_let (am_wr r111.2 x0 28 1) fun M112 => some (0, M112))) else (am_Ex d 248 97 [(2, x0), (0, x1), am_N] [] M)) else (am_Ex d 248 97 [(2, x0), (0, x1), am_N] [] M)) := by
  refine (am_e0 rfl rfl).trans ?_
  refine (am_e0 rfl rfl).trans ?_
  refine (am_i_ne rfl).trans (am_if_congr (fun c101 => ?_) (fun c101 => ?_))
  · refine (am_e0 rfl rfl).trans ?_
    refine (am_gf (c := 11) (t := 0) rfl rfl rfl).trans (am_g_congr fun h102 => ?_)
    refine (am_e0 rfl rfl).trans ?_
    refine (am_i_ne rfl).trans (am_if_congr (fun c103 => ?_) (fun c103 => ?_))
    · refine (am_e0 rfl rfl).trans ?_
      refine (am_gf (c := 11) (t := 0) rfl rfl rfl).trans ((am_g_t h102).trans ?_)
      refine (am_cal3 (z := 81) (k := 1) (c := true) rfl rfl rfl rfl rfl rfl rfl rfl).trans ((am_g_t rfl).trans ?_)
      refine am_bind_congr fun r104 => ?_
      show am_Ex d 248 71 [(2, x0), (0, x1), am_N] [(0, r104.1)] r104.2 = _
      refine (am_z_eq rfl).trans (am_if_congr (fun c105 => ?_) (fun c105 => ?_))
      · exact (am_e5 rfl).trans rfl
      · refine (am_e0 rfl rfl).trans ?_
        refine (am_e0 rfl rfl).trans ?_
        refine (am_cal3 (z := 152) (k := 2) (c := (am_ob x0 11)) rfl rfl rfl rfl rfl rfl rfl rfl).trans ((am_g_t h102).trans ?_)
        refine am_bind_congr fun r106 => ?_
        show am_Ex d 248 75 [(2, x0), (0, x1), am_N] [] r106.2 = _
        refine (am_e0 rfl rfl).trans ?_
        refine (am_gf (c := 11) (t := 2) rfl rfl rfl).trans ((am_g_t h102).trans ?_)
        refine (am_e0 rfl rfl).trans ?_
        refine (am_gf (c := 11) (t := 0) rfl rfl rfl).trans ((am_g_t h102).trans ?_)
        refine (am_e0 rfl rfl).trans ?_
        refine (am_gf (c := 11) (t := 0) rfl rfl rfl).trans ((am_g_t h102).trans ?_)
        refine (am_ias rfl).trans (am_g_congr fun h107 => ?_)
        refine am_letm (fun M108 => ?_)
        refine (am_e0 rfl rfl).trans ?_
        refine (am_gf (c := 11) (t := 2) rfl rfl rfl).trans ((am_g_t h102).trans ?_)
        refine (am_e0 rfl rfl).trans ?_
        refine (am_gf (c := 11) (t := 0) rfl rfl rfl).trans ((am_g_t h102).trans ?_)
        refine (am_e0 rfl rfl).trans ?_
        refine (am_e0 rfl rfl).trans ?_
        refine (am_e0 rfl rfl).trans ?_
        refine (am_ias rfl).trans (am_g_congr fun h109 => ?_)
        refine am_letm (fun M110 => ?_)
        refine (am_e0 rfl rfl).trans ?_
        refine (am_cal3 (z := 194) (k := 1) (c := (am_ob x0 11)) rfl rfl rfl rfl rfl rfl rfl rfl).trans ((am_g_t h102).trans ?_)
        refine am_bind_congr fun r111 => ?_
        show am_Ex d 248 92 [(2, x0), (0, x1), am_N] [] r111.2 = _
        refine (am_e0 rfl rfl).trans ?_
        refine (am_e0 rfl rfl).trans ?_
        refine (am_pf (c := 11) rfl rfl rfl).trans ((am_g_t h102).trans ?_)
        refine am_letm (fun M112 => ?_)
        refine (am_e1 rfl rfl).trans ?_
        refine (am_e5 rfl).trans ?_
        show am_Ex d 248 137 [am_N, am_N, am_N] [] M112 = _
        exact (am_e4v rfl rfl).trans rfl
    · exact (am_e5 rfl).trans rfl
  · exact (am_e5 rfl).trans rfl
set_option maxRecDepth 10000 in
theorem aq_248_97 (d : Nat) (x0 x1 : Int) (M : am_M) : am_Ex d 248 97 [(2, x0), (0, x1), am_N] [] M = (if x1 = 5 then (am_g (am_ob x0 11) <| (am_Call d 152 [(2, x0), (0, 3)] M).bind fun r103 => am_g (am_ar (am_rd r103.2 x0 24) 20 (am_rd r103.2 x0 22)) <| am_let (am_rd r103.2 (am_rd r103.2 x0 24) (am_rd r103.2 x0 22)) fun v105 => am_let (am_wr r103.2 x0 22 (am_w32 ((am_rd r103.2 x0 22) - 1))) fun M106 => (am_Call d 75 [(2, x0), (0, v105), (0, 0)] M106).bind fun r107 => (am_Call d 154 [(2, x0)] r107.2).bind fun r108 => some (0, r108.2)) else (if x1 = 1 then (am_g (am_ob x0 11) <| (am_Call d 72 [(2, x0), (0, 59)] M).bind fun r111 => if r111.1 = 0 then (am_Ex d 248 133 [(2, x0), am_N, am_N] [] r111.2) else ((am_Call d 219 [(2, x0)] r111.2).bind fun r113 => some (0, r113.2))) else (am_Ex d 248 133 [(2, x0), am_N, am_N] [] M))) := by
  refine (am_e0 rfl rfl).trans ?_
  refine (am_e0 rfl rfl).trans ?_
  refine (am_i_ne rfl).trans (am_if_congr (fun c101 => ?_) (fun c101 => ?_))
  · refine (am_e0 rfl rfl).trans ?_
    refine (am_e0 rfl rfl).trans ?_
    refine (am_cal3 (z := 152) (k := 2) (c := (am_ob x0 11)) rfl rfl rfl rfl rfl rfl rfl rfl).trans (am_g_congr fun h102 => ?_)
    refine am_bind_congr fun r103 => ?_
    show am_Ex d 248 103 [(2, x0), (0, x1), am_N] [] r103.2 = _
    refine (am_e0 rfl rfl).trans ?_
    refine (am_gf (c := 11) (t := 2) rfl rfl rfl).trans ((am_g_t h102).trans ?_)
    refine (am_e0 rfl rfl).trans ?_
    refine (am_gf (c := 11) (t := 0) rfl rfl rfl).trans ((am_g_t h102).trans ?_)
    refine (am_ial rfl).trans (am_g_congr fun h104 => ?_)
    refine (am_e0 rfl rfl).trans ?_
    refine am_lets (L := fun v105 => [(2, x0), (0, x1), (0, v105)]) (fun v105 => ?_)
    refine (am_e0 rfl rfl).trans ?_
    refine (am_e0 rfl rfl).trans ?_
    refine (am_gf (c := 11) (t := 0) rfl rfl rfl).trans ((am_g_t h102).trans ?_)
    refine (am_e0 rfl rfl).trans ?_
    refine (am_e0 rfl rfl).trans ?_
    refine (am_pf (c := 11) rfl rfl rfl).trans ((am_g_t h102).trans ?_)
    refine am_letm (fun M106 => ?_)
    refine (am_e0 rfl rfl).trans ?_
    refine (am_e0 rfl rfl).trans ?_
    refine (am_e0 rfl rfl).trans ?_
    refine (am_cal3 (z := 75) (k := 3) (c := (am_ob x0 11)) rfl rfl rfl rfl rfl rfl rfl rfl).trans ((am_g_t h102).trans ?_)
    refine am_bind_congr fun r107 => ?_
    show am_Ex d 248 119 [(2, x0), (0, x1), (0, v105)] [] r107.2 = _
    refine (am_e0 rfl rfl).trans ?_
    refine (am_cal3 (z := 154) (k := 1) (c := (am_ob x0 11)) rfl rfl rfl rfl rfl rfl rfl rfl).trans ((am_g_t h102).trans ?_)
    refine am_bind_congr fun r108 => ?_
    show am_Ex d 248 121 [(2, x0), (0, x1), (0, v105)] [] r108.2 = _
    refine (am_e1 rfl rfl).trans ?_
    refine (am_e5 rfl).trans ?_
    show am_Ex d 248 137 [am_N, am_N, am_N] [] r108.2 = _
    exact (am_e4v rfl rfl).trans rfl
  · refine (am_e0 rfl rfl).trans ?_
    refine (am_e0 rfl rfl).trans ?_
    refine (am_i_ne rfl).trans (am_if_congr (fun c109 => ?_) (fun c109 => ?_))
    · refine (am_e0 rfl rfl).trans ?_
      refine (am_e0 rfl rfl).trans ?_
      refine (am_cal3 (z := 72) (k := 2) (c := (am_ob x0 11)) rfl rfl rfl rfl rfl rfl rfl rfl).trans (am_g_congr fun h110 => ?_)
      refine am_bind_congr fun r111 => ?_
      show am_Ex d 248 128 [(2, x0), (0, x1), am_N] [(0, r111.1)] r111.2 = _
      refine (am_z_eq rfl).trans (am_if_congr (fun c112 => ?_) (fun c112 => ?_))
      · exact (am_e5 rfl).trans rfl
      · refine (am_e0 rfl rfl).trans ?_
        refine (am_cal3 (z := 219) (k := 1) (c := (am_ob x0 11)) rfl rfl rfl rfl rfl rfl rfl rfl).trans ((am_g_t h110).trans ?_)
        refine am_bind_congr fun r113 => ?_
        show am_Ex d 248 131 [(2, x0), (0, x1), am_N] [] r113.2 = _
        refine (am_e1 rfl rfl).trans ?_
        refine (am_e5 rfl).trans ?_
        show am_Ex d 248 137 [am_N, am_N, am_N] [] r113.2 = _
        exact (am_e4v rfl rfl).trans rfl
    · exact (am_e5 rfl).trans rfl
set_option maxRecDepth 10000 in
theorem aq_248_133 (d : Nat) (x0 : Int) (M : am_M) : am_Ex d 248 133 [(2, x0), am_N, am_N] [] M = (am_g (am_ob x0 11) <| (am_Call d 74 [(2, x0), (0, 1)] M).bind fun r102 => some (0, r102.2)) := by
  refine (am_e0 rfl rfl).trans ?_
  refine (am_e0 rfl rfl).trans ?_
  refine (am_cal3 (z := 74) (k := 2) (c := (am_ob x0 11)) rfl rfl rfl rfl rfl rfl rfl rfl).trans (am_g_congr fun h101 => ?_)
  refine am_bind_congr fun r102 => ?_
  show am_Ex d 248 136 [(2, x0), am_N, am_N] [] r102.2 = _
  refine (am_e5 rfl).trans ?_
  show am_Ex d 248 137 [am_N, am_N, am_N] [] r102.2 = _
  exact (am_e4v rfl rfl).trans rfl
-- 249: UnlearnedHandModel.asksOn()V
set_option maxRecDepth 10000 in
theorem aq_249 (d : Nat) (x0 : Int) (M : am_M) : am_Call d 249 [(2, x0)] M = (am_g (am_ob x0 11) <| (am_Call d 73 [(2, x0), (0, 16)] M).bind fun r102 => if r102.1 = 0 then ((am_Call d 73 [(2, x0), (0, 17)] r102.2).bind fun r104 => if r104.1 = 0 then ((am_Call d 77 [(2, x0)] r104.2).bind fun r106 => if r106.1 = 2 then ((am_Call d 72 [(2, x0), (0, 59)] r106.2).bind fun r108 => if r108.1 = 0 then (am_Ex d 249 34 [(2, x0)] [] r108.2) else ((am_Call d 219 [(2, x0)] r108.2).bind fun r110 => some (0, r110.2))) else (am_Ex d 249 34 [(2, x0)] [] r106.2)) else (am_Ex d 249 9 [(2, x0)] [] r104.2)) else (am_Ex d 249 9 [(2, x0)] [] r102.2)) := by
  show am_Ex d 249 0 [(2, x0)] [] M = _
  refine (am_e0 rfl rfl).trans ?_
  refine (am_e0 rfl rfl).trans ?_
  refine (am_cal3 (z := 73) (k := 2) (c := (am_ob x0 11)) rfl rfl rfl rfl rfl rfl rfl rfl).trans (am_g_congr fun h101 => ?_)
  refine am_bind_congr fun r102 => ?_
  show am_Ex d 249 3 [(2, x0)] [(0, r102.1)] r102.2 = _
  refine (am_z_ne rfl).trans (am_if_congr (fun c103 => ?_) (fun c103 => ?_))
  · refine (am_e0 rfl rfl).trans ?_
    refine (am_e0 rfl rfl).trans ?_
    refine (am_cal3 (z := 73) (k := 2) (c := (am_ob x0 11)) rfl rfl rfl rfl rfl rfl rfl rfl).trans ((am_g_t h101).trans ?_)
    refine am_bind_congr fun r104 => ?_
    show am_Ex d 249 7 [(2, x0)] [(0, r104.1)] r104.2 = _
    refine (am_z_eq rfl).trans (am_if_congr (fun c105 => ?_) (fun c105 => ?_))
    · refine (am_e0 rfl rfl).trans ?_
      refine (am_cal3 (z := 77) (k := 1) (c := (am_ob x0 11)) rfl rfl rfl rfl rfl rfl rfl rfl).trans ((am_g_t h101).trans ?_)
      refine am_bind_congr fun r106 => ?_
      show am_Ex d 249 24 [(2, x0)] [(0, r106.1)] r106.2 = _
      refine (am_e0 rfl rfl).trans ?_
      refine (am_i_ne rfl).trans (am_if_congr (fun c107 => ?_) (fun c107 => ?_))
      · refine (am_e0 rfl rfl).trans ?_
        refine (am_e0 rfl rfl).trans ?_
        refine (am_cal3 (z := 72) (k := 2) (c := (am_ob x0 11)) rfl rfl rfl rfl rfl rfl rfl rfl).trans ((am_g_t h101).trans ?_)
        refine am_bind_congr fun r108 => ?_
        show am_Ex d 249 29 [(2, x0)] [(0, r108.1)] r108.2 = _
        refine (am_z_eq rfl).trans (am_if_congr (fun c109 => ?_) (fun c109 => ?_))
        · exact (am_e5 rfl).trans rfl
        · refine (am_e0 rfl rfl).trans ?_
          refine (am_cal3 (z := 219) (k := 1) (c := (am_ob x0 11)) rfl rfl rfl rfl rfl rfl rfl rfl).trans ((am_g_t h101).trans ?_)
          refine am_bind_congr fun r110 => ?_
          show am_Ex d 249 32 [(2, x0)] [] r110.2 = _
          refine (am_e1 rfl rfl).trans ?_
          refine (am_e5 rfl).trans ?_
          show am_Ex d 249 38 [am_N] [] r110.2 = _
          exact (am_e4v rfl rfl).trans rfl
      · exact (am_e5 rfl).trans rfl
    · exact (am_e5 rfl).trans rfl
  · exact (am_e5 rfl).trans rfl
set_option maxRecDepth 10000 in
theorem aq_249_34 (d : Nat) (x0 : Int) (M : am_M) : am_Ex d 249 34 [(2, x0)] [] M = (am_g (am_ob x0 11) <| (am_Call d 74 [(2, x0), (0, 1)] M).bind fun r102 => some (0, r102.2)) := by
  refine (am_e0 rfl rfl).trans ?_
  refine (am_e0 rfl rfl).trans ?_
  refine (am_cal3 (z := 74) (k := 2) (c := (am_ob x0 11)) rfl rfl rfl rfl rfl rfl rfl rfl).trans (am_g_congr fun h101 => ?_)
  refine am_bind_congr fun r102 => ?_
  show am_Ex d 249 37 [(2, x0)] [] r102.2 = _
  refine (am_e5 rfl).trans ?_
  show am_Ex d 249 38 [am_N] [] r102.2 = _
  exact (am_e4v rfl rfl).trans rfl
set_option maxRecDepth 10000 in
theorem aq_249_9 (d : Nat) (x0 : Int) (M : am_M) : am_Ex d 249 9 [(2, x0)] [] M = (am_g (am_ob x0 11) <| (am_Call d 73 [(2, x0), (0, 16)] M).bind fun r102 => if r102.1 = 0 then ((am_Call d 218 [(2, x0), (0, 406)] r102.2).bind fun r104 => am_let (am_wr r104.2 x0 28 0) fun M105 => some (0, M105)) else ((am_Call d 218 [(2, x0), (0, 407)] r102.2).bind fun r106 => am_let (am_wr r106.2 x0 28 0) fun M107 => some (0, M107))) := by
  refine (am_e0 rfl rfl).trans ?_
  refine (am_e0 rfl rfl).trans ?_
  refine (am_e0 rfl rfl).trans ?_
  refine (am_cal3 (z := 73) (k := 2) (c := (am_ob x0 11)) rfl rfl rfl rfl rfl rfl rfl rfl).trans (am_g_congr fun h101 => ?_)
  refine am_bind_congr fun r102 => ?_
  show am_Ex d 249 13 [(2, x0)] [(0, r102.1), (2, x0)] r102.2 = _
  refine (am_z_eq rfl).trans (am_if_congr (fun c103 => ?_) (fun c103 => ?_))
  · refine (am_e0 rfl rfl).trans ?_
    refine (am_cal3 (z := 218) (k := 2) (c := (am_ob x0 11)) rfl rfl rfl rfl rfl rfl rfl rfl).trans ((am_g_t h101).trans ?_)
    refine am_bind_congr fun r104 => ?_
    show am_Ex d 249 18 [(2, x0)] [] r104.2 = _
    refine (am_e0 rfl rfl).trans ?_
    refine (am_e0 rfl rfl).trans ?_
    refine (am_pf (c := 11) rfl rfl rfl).trans ((am_g_t h101).trans ?_)
    refine am_letm (fun M105 => ?_)
    refine (am_e1 rfl rfl).trans ?_
    refine (am_e5 rfl).trans ?_
    show am_Ex d 249 38 [am_N] [] M105 = _
    exact (am_e4v rfl rfl).trans rfl
  · refine (am_e0 rfl rfl).trans ?_
    refine (am_e1 rfl rfl).trans ?_
    refine (am_cal3 (z := 218) (k := 2) (c := (am_ob x0 11)) rfl rfl rfl rfl rfl rfl rfl rfl).trans ((am_g_t h101).trans ?_)
    refine am_bind_congr fun r106 => ?_
    show am_Ex d 249 18 [(2, x0)] [] r106.2 = _
    refine (am_e0 rfl rfl).trans ?_
    refine (am_e0 rfl rfl).trans ?_
    refine (am_pf (c := 11) rfl rfl rfl).trans ((am_g_t h101).trans ?_)
    refine am_letm (fun M107 => ?_)
    refine (am_e1 rfl rfl).trans ?_
    refine (am_e5 rfl).trans ?_
    show am_Ex d 249 38 [am_N] [] M107 = _
    exact (am_e4v rfl rfl).trans rfl
-- 250: UnlearnedHandModel.numberBehind(III)I
set_option maxRecDepth 10000 in
theorem aq_250 (d : Nat) (x0 x1 x2 x3 : Int) (M : am_M) : am_Call d 250 [(2, x0), (0, x1), (0, x2), (0, x3)] M = (am_g (am_ob x0 11) <| if am_rd M x0 19 = 0 then ((am_Call d 73 [(2, x0), (0, x1)] M).bind fun r103 => if r103.1 = 0 then ((am_Call d 74 [(2, x0), (0, 1)] r103.2).bind fun r105 => am_Ex d 250 11 [(2, x0), am_N, (0, x2), (0, x3)] [] r105.2) else (am_Ex d 250 11 [(2, x0), am_N, (0, x2), (0, x3)] [] r103.2)) else (am_Ex d 250 11 [(2, x0), am_N, (0, x2), (0, x3)] [] M)) := by
  show am_Ex d 250 0 [(2, x0), (0, x1), (0, x2), (0, x3)] [] M = _
  refine (am_e0 rfl rfl).trans ?_
  refine (am_gf (c := 11) (t := 0) rfl rfl rfl).trans (am_g_congr fun h101 => ?_)
  refine (am_z_ne rfl).trans (am_if_congr (fun c102 => ?_) (fun c102 => ?_))
  · refine (am_e0 rfl rfl).trans ?_
    refine (am_e0 rfl rfl).trans ?_
    refine (am_cal3 (z := 73) (k := 2) (c := (am_ob x0 11)) rfl rfl rfl rfl rfl rfl rfl rfl).trans ((am_g_t h101).trans ?_)
    refine am_bind_congr fun r103 => ?_
    show am_Ex d 250 6 [(2, x0), (0, x1), (0, x2), (0, x3)] [(0, r103.1)] r103.2 = _
    refine (am_z_ne rfl).trans (am_if_congr (fun c104 => ?_) (fun c104 => ?_))
    · refine (am_e0 rfl rfl).trans ?_
      refine (am_e0 rfl rfl).trans ?_
      refine (am_cal3 (z := 74) (k := 2) (c := (am_ob x0 11)) rfl rfl rfl rfl rfl rfl rfl rfl).trans ((am_g_t h101).trans ?_)
      refine am_bind_congr fun r105 => ?_
      show am_Ex d 250 10 [(2, x0), (0, x1), (0, x2), (0, x3)] [] r105.2 = _
      exact (am_e5 rfl).trans rfl
    · exact (am_e5 rfl).trans rfl
  · exact (am_e5 rfl).trans rfl
set_option maxRecDepth 10000 in
theorem aq_250_11 (d : Nat) (x0 x2 x3 : Int) (M : am_M) : am_Ex d 250 11 [(2, x0), am_N, (0, x2), (0, x3)] [] M = (am_g (am_ob x0 11) <| if am_rd M x0 19 = 0 then ((am_Call d 194 [(2, x0)] M).bind fun r103 => am_Ex d 250 17 [(2, x0), am_N, (0, x2), (0, x3)] [] r103.2) else (am_Ex d 250 17 [(2, x0), am_N, (0, x2), (0, x3)] [] M)) := by
  refine (am_e0 rfl rfl).trans ?_
  refine (am_gf (c := 11) (t := 0) rfl rfl rfl).trans (am_g_congr fun h101 => ?_)
  refine (am_z_ne rfl).trans (am_if_congr (fun c102 => ?_) (fun c102 => ?_))
  · refine (am_e0 rfl rfl).trans ?_
    refine (am_cal3 (z := 194) (k := 1) (c := (am_ob x0 11)) rfl rfl rfl rfl rfl rfl rfl rfl).trans ((am_g_t h101).trans ?_)
    refine am_bind_congr fun r103 => ?_
    show am_Ex d 250 16 [(2, x0), am_N, (0, x2), (0, x3)] [] r103.2 = _
    exact (am_e5 rfl).trans rfl
  · exact (am_e5 rfl).trans rfl
set_option maxRecDepth 10000 in
theorem aq_250_17 (d : Nat) (x0 x2 x3 : Int) (M : am_M) : am_Ex d 250 17 [(2, x0), am_N, (0, x2), (0, x3)] [] M = (am_g (am_ob x0 11) <| (am_Call d 220 [(2, x0), (0, x2), (0, x3)] M).bind fun r102 => some (r102.1, r102.2)) := by
  refine (am_e0 rfl rfl).trans ?_
  refine (am_e0 rfl rfl).trans ?_
  refine (am_e0 rfl rfl).trans ?_
  refine (am_cal3 (z := 220) (k := 3) (c := (am_ob x0 11)) rfl rfl rfl rfl rfl rfl rfl rfl).trans (am_g_congr fun h101 => ?_)
  refine am_bind_congr fun r102 => ?_
  show am_Ex d 250 21 [(2, x0), am_N, (0, x2), (0, x3)] [(0, r102.1)] r102.2 = _
  exact (am_e4i rfl rfl).trans rfl
-- 251: UnlearnedHandModel.hadBy(I)I
set_option maxRecDepth 10000 in
theorem aq_251 (d : Nat) (x0 x1 : Int) (M : am_M) : am_Call d 251 [(2, x0), (0, x1)] M = (am_Ex d 251 5 [(2, x0), (0, x1), (0, 0), (0, 0)] [] M) := by
  show am_Ex d 251 0 [(2, x0), (0, x1), am_N, am_N] [] M = _
  refine (am_e0 rfl rfl).trans ?_
  refine (am_e0 rfl rfl).trans ?_
  refine (am_e0 rfl rfl).trans ?_
  refine (am_e0 rfl rfl).trans ?_
  exact (am_e5 rfl).trans rfl
set_option maxRecDepth 10000 in
theorem aq_251_5 (d : Nat) (x0 x1 x2 x3 : Int) (M : am_M) : am_Ex d 251 5 [(2, x0), (0, x1), (0, x2), (0, x3)] [] M = (am_g (am_ob x0 11) <| am_g (am_ar (am_rd M x0 0) 20 0) <| if x3 < am_rd M (am_rd M x0 0) 0 then ((am_Call d 221 [(2, x0), (0, x1), (0, x3)] M).bind fun r104 => if r104.1 = 0 then (am_let (am_or x2 0) fun v106 => am_let (am_w32 (x3 + 1)) fun v107 => am_Ex d 251 5 [(2, x0), (0, x1), (0, v106), (0, v107)] [] r104.2) else (am_let (am_or x2 (am_shl 1 x3)) fun v108 => am_let (am_w32 (x3 + 1)) fun v109 => am_Ex d 251 5 [(2, x0), (0, x1), (0, v108), (0, v109)] [] r104.2)) else (some (x2, M))) := by
  refine (am_e0 rfl rfl).trans ?_
  refine (am_e0 rfl rfl).trans ?_
  refine (am_gf (c := 11) (t := 2) rfl rfl rfl).trans (am_g_congr fun h101 => ?_)
  refine (am_e0 rfl rfl).trans ?_
  refine (am_ial rfl).trans (am_g_congr fun h102 => ?_)
  refine (am_i_ge rfl).trans (am_if_congr (fun c103 => ?_) (fun c103 => ?_))
  · refine (am_e0 rfl rfl).trans ?_
    refine (am_e0 rfl rfl).trans ?_
    refine (am_e0 rfl rfl).trans ?_
    refine (am_e0 rfl rfl).trans ?_
    refine (am_cal3 (z := 221) (k := 3) (c := (am_ob x0 11)) rfl rfl rfl rfl rfl rfl rfl rfl).trans ((am_g_t h101).trans ?_)
    refine am_bind_congr fun r104 => ?_
    show am_Ex d 251 16 [(2, x0), (0, x1), (0, x2), (0, x3)] [(0, r104.1), (0, x2)] r104.2 = _
    refine (am_z_eq rfl).trans (am_if_congr (fun c105 => ?_) (fun c105 => ?_))
    · refine (am_e0 rfl rfl).trans ?_
      refine (am_e0 rfl rfl).trans ?_
      refine (am_e0 rfl rfl).trans ?_
      refine am_lets (L := fun v106 => [(2, x0), (0, x1), (0, v106), (0, x3)]) (fun v106 => ?_)
      refine (am_e0 rfl rfl).trans ?_
      refine am_lets (L := fun v107 => [(2, x0), (0, x1), (0, v106), (0, v107)]) (fun v107 => ?_)
      refine (am_e1 rfl rfl).trans ?_
      exact (am_e5 rfl).trans rfl
    · refine (am_e0 rfl rfl).trans ?_
      refine (am_e0 rfl rfl).trans ?_
      refine (am_e0 rfl rfl).trans ?_
      refine (am_e1 rfl rfl).trans ?_
      refine (am_e0 rfl rfl).trans ?_
      refine (am_e0 rfl rfl).trans ?_
      refine am_lets (L := fun v108 => [(2, x0), (0, x1), (0, v108), (0, x3)]) (fun v108 => ?_)
      refine (am_e0 rfl rfl).trans ?_
      refine am_lets (L := fun v109 => [(2, x0), (0, x1), (0, v108), (0, v109)]) (fun v109 => ?_)
      refine (am_e1 rfl rfl).trans ?_
      exact (am_e5 rfl).trans rfl
  · refine (am_e0 rfl rfl).trans ?_
    exact (am_e4i rfl rfl).trans rfl
-- 252: UnlearnedHandModel.nightOf(I)V
set_option maxRecDepth 10000 in
theorem aq_252 (d : Nat) (x0 x1 : Int) (M : am_M) : am_Call d 252 [(2, x0), (0, x1)] M = (am_Ex d 252 3 [(2, x0), (0, x1), (0, 0), am_N, am_N] [] M) := by
  show am_Ex d 252 0 [(2, x0), (0, x1), am_N, am_N, am_N] [] M = _
  refine (am_e0 rfl rfl).trans ?_
  refine (am_e0 rfl rfl).trans ?_
  exact (am_e5 rfl).trans rfl
set_option maxRecDepth 10000 in
theorem aq_252_3 (d : Nat) (x0 x1 x2 : Int) (M : am_M) : am_Ex d 252 3 [(2, x0), (0, x1), (0, x2), am_N, am_N] [] M = (am_g (am_ob x0 11) <| am_g (am_ar (am_rd M x0 0) 20 0) <| if x2 < am_rd M (am_rd M x0 0) 0 then ((am_Call d 222 [(2, x0), (0, x1), (0, x2)] M).bind fun r104 => (am_Call d 223 [(2, x0), (0, x1), (0, x2)] r104.2).bind fun r105 => am_g (am_ar (am_rd r105.2 x0 44) 20 x1) <| (am_Call d 65 [(0, am_rd r105.2 (am_rd r105.2 x0 44) x1), (0, x2)] r105.2).bind fun r107 => if r107.1 = 0 then (am_g (am_ar (am_rd r107.2 x0 41) 20 (am_w32 ((am_w32 (8 * x1)) + x2))) <| (am_Call d 157 [(2, x0), (0, x1), (0, x2), (0, am_w32 ((am_rd r107.2 (am_rd r107.2 x0 41) (am_w32 ((am_w32 (8 * x1)) + x2))) - r104.1))] r107.2).bind fun r110 => am_Ex d 252 41 [(2, x0), (0, x1), (0, x2), am_N, (0, r105.1)] [] r110.2) else (am_Ex d 252 41 [(2, x0), (0, x1), (0, x2), am_N, (0, r105.1)] [] r107.2)) else (some (0, M))) := by
  refine (am_e0 rfl rfl).trans ?_
  refine (am_e0 rfl rfl).trans ?_
  refine (am_gf (c := 11) (t := 2) rfl rfl rfl).trans (am_g_congr fun h101 => ?_)
  refine (am_e0 rfl rfl).trans ?_
  refine (am_ial rfl).trans (am_g_congr fun h102 => ?_)
  refine (am_i_ge rfl).trans (am_if_congr (fun c103 => ?_) (fun c103 => ?_))
  · refine (am_e0 rfl rfl).trans ?_
    refine (am_e0 rfl rfl).trans ?_
    refine (am_e0 rfl rfl).trans ?_
    refine (am_cal3 (z := 222) (k := 3) (c := (am_ob x0 11)) rfl rfl rfl rfl rfl rfl rfl rfl).trans ((am_g_t h101).trans ?_)
    refine am_bind_congr fun r104 => ?_
    show am_Ex d 252 13 [(2, x0), (0, x1), (0, x2), am_N, am_N] [(0, r104.1)] r104.2 = _
    refine (am_e0 rfl rfl).trans ?_
    refine (am_e0 rfl rfl).trans ?_
    refine (am_e0 rfl rfl).trans ?_
    refine (am_e0 rfl rfl).trans ?_
    refine (am_cal3 (z := 223) (k := 3) (c := (am_ob x0 11)) rfl rfl rfl rfl rfl rfl rfl rfl).trans ((am_g_t h101).trans ?_)
    refine am_bind_congr fun r105 => ?_
    show am_Ex d 252 18 [(2, x0), (0, x1), (0, x2), (0, r104.1), am_N] [(0, r105.1)] r105.2 = _
    refine (am_e0 rfl rfl).trans ?_
    refine (am_e0 rfl rfl).trans ?_
    refine (am_gf (c := 11) (t := 2) rfl rfl rfl).trans ((am_g_t h101).trans ?_)
    refine (am_e0 rfl rfl).trans ?_
    refine (am_ial rfl).trans (am_g_congr fun h106 => ?_)
    refine (am_e0 rfl rfl).trans ?_
    refine (am_cal3 (z := 65) (k := 2) (c := true) rfl rfl rfl rfl rfl rfl rfl rfl).trans ((am_g_t rfl).trans ?_)
    refine am_bind_congr fun r107 => ?_
    show am_Ex d 252 25 [(2, x0), (0, x1), (0, x2), (0, r104.1), (0, r105.1)] [(0, r107.1)] r107.2 = _
    refine (am_z_ne rfl).trans (am_if_congr (fun c108 => ?_) (fun c108 => ?_))
    · refine (am_e0 rfl rfl).trans ?_
      refine (am_e0 rfl rfl).trans ?_
      refine (am_e0 rfl rfl).trans ?_
      refine (am_e0 rfl rfl).trans ?_
      refine (am_gf (c := 11) (t := 2) rfl rfl rfl).trans ((am_g_t h101).trans ?_)
      refine (am_e0 rfl rfl).trans ?_
      refine (am_e0 rfl rfl).trans ?_
      refine (am_e0 rfl rfl).trans ?_
      refine (am_e0 rfl rfl).trans ?_
      refine (am_e0 rfl rfl).trans ?_
      refine (am_ial rfl).trans (am_g_congr fun h109 => ?_)
      refine (am_e0 rfl rfl).trans ?_
      refine (am_e0 rfl rfl).trans ?_
      refine (am_cal3 (z := 157) (k := 4) (c := (am_ob x0 11)) rfl rfl rfl rfl rfl rfl rfl rfl).trans ((am_g_t h101).trans ?_)
      refine am_bind_congr fun r110 => ?_
      show am_Ex d 252 40 [(2, x0), (0, x1), (0, x2), (0, r104.1), (0, r105.1)] [] r110.2 = _
      exact (am_e5 rfl).trans rfl
    · exact (am_e5 rfl).trans rfl
  · exact (am_e4v rfl rfl).trans rfl
set_option maxRecDepth 10000 in
theorem aq_252_41 (d : Nat) (x0 x1 x2 x4 : Int) (M : am_M) : am_Ex d 252 41 [(2, x0), (0, x1), (0, x2), am_N, (0, x4)] [] M = (am_g (am_ob x0 11) <| am_g (am_ar (am_rd M x0 42) 20 (am_w32 ((am_w32 (8 * x1)) + x2))) <| (am_Call d 87 [(1, am_w32 ((am_rd M (am_rd M x0 42) (am_w32 ((am_w32 (8 * x1)) + x2))) - x4)), (0, 0), (0, 99)] M).bind fun r103 => am_let (am_wr r103.2 (am_rd M x0 42) (am_w32 ((am_w32 (8 * x1)) + x2)) r103.1) fun M104 => am_let (am_w32 (x2 + 1)) fun v105 => am_Ex d 252 3 [(2, x0), (0, x1), (0, v105), am_N, am_N] [] M104) := by
  refine (am_e0 rfl rfl).trans ?_
  refine (am_gf (c := 11) (t := 2) rfl rfl rfl).trans (am_g_congr fun h101 => ?_)
  refine (am_e0 rfl rfl).trans ?_
  refine (am_e0 rfl rfl).trans ?_
  refine (am_e0 rfl rfl).trans ?_
  refine (am_e0 rfl rfl).trans ?_
  refine (am_e0 rfl rfl).trans ?_
  refine (am_e0 rfl rfl).trans ?_
  refine (am_gf (c := 11) (t := 2) rfl rfl rfl).trans ((am_g_t h101).trans ?_)
  refine (am_e0 rfl rfl).trans ?_
  refine (am_e0 rfl rfl).trans ?_
  refine (am_e0 rfl rfl).trans ?_
  refine (am_e0 rfl rfl).trans ?_
  refine (am_e0 rfl rfl).trans ?_
  refine (am_ial rfl).trans (am_g_congr fun h102 => ?_)
  refine (am_e0 rfl rfl).trans ?_
  refine (am_e0 rfl rfl).trans ?_
  refine (am_e0 rfl rfl).trans ?_
  refine (am_e0 rfl rfl).trans ?_
  refine (am_e0 rfl rfl).trans ?_
  refine (am_cal3 (z := 87) (k := 3) (c := true) rfl rfl rfl rfl rfl rfl rfl rfl).trans ((am_g_t rfl).trans ?_)
  refine am_bind_congr fun r103 => ?_
  show am_Ex d 252 62 [(2, x0), (0, x1), (0, x2), am_N, (0, x4)] [(0, r103.1), (0, am_w32 ((am_w32 (8 * x1)) + x2)), (2, am_rd M x0 42)] r103.2 = _
  refine (am_ias rfl).trans ((am_g_t h102).trans ?_)
  refine am_letm (fun M104 => ?_)
  refine (am_e0 rfl rfl).trans ?_
  refine am_lets (L := fun v105 => [(2, x0), (0, x1), (0, v105), am_N, (0, x4)]) (fun v105 => ?_)
  refine (am_e1 rfl rfl).trans ?_
  exact (am_e5 rfl).trans rfl
-- 253: UnlearnedHandModel.teach(III)I
set_option maxRecDepth 10000 in
theorem aq_253 (d : Nat) (x0 x1 x2 x3 : Int) (M : am_M) : am_Call d 253 [(2, x0), (0, x1), (0, x2), (0, x3)] M = (am_g (am_ob x0 11) <| (am_Call d 225 [(2, x0), (0, x1), (0, x2)] M).bind fun r102 => if r102.1 = 0 then (some ((-1), r102.2)) else ((am_Call d 64 [(0, x3), (0, 1), (0, 99)] r102.2).bind fun r104 => if r104.1 = 0 then (some ((-1), r104.2)) else ((am_Call d 68 [(2, x0)] r104.2).bind fun r106 => (am_Call d 197 [(2, x0), (0, x1), (0, x2), (0, x3)] r106.2).bind fun r107 => am_g (am_ar (am_rd r107.2 x0 0) 20 (am_w32 ((am_w32 (60 + (am_w32 (8 * x1)))) + x2))) <| some (am_rd r107.2 (am_rd r107.2 x0 0) (am_w32 ((am_w32 (60 + (am_w32 (8 * x1)))) + x2)), r107.2)))) := by
  show am_Ex d 253 0 [(2, x0), (0, x1), (0, x2), (0, x3)] [] M = _
  refine (am_e0 rfl rfl).trans ?_
  refine (am_e0 rfl rfl).trans ?_
  refine (am_e0 rfl rfl).trans ?_
  refine (am_cal3 (z := 225) (k := 3) (c := (am_ob x0 11)) rfl rfl rfl rfl rfl rfl rfl rfl).trans (am_g_congr fun h101 => ?_)
  refine am_bind_congr fun r102 => ?_
  show am_Ex d 253 4 [(2, x0), (0, x1), (0, x2), (0, x3)] [(0, r102.1)] r102.2 = _
  refine (am_z_eq rfl).trans (am_if_congr (fun c103 => ?_) (fun c103 => ?_))
  · refine (am_e5 rfl).trans ?_
    show am_Ex d 253 11 [am_N, am_N, am_N, am_N] [] r102.2 = _
    refine (am_e0 rfl rfl).trans ?_
    exact (am_e4i rfl rfl).trans rfl
  · refine (am_e0 rfl rfl).trans ?_
    refine (am_e0 rfl rfl).trans ?_
    refine (am_e0 rfl rfl).trans ?_
    refine (am_cal3 (z := 64) (k := 3) (c := true) rfl rfl rfl rfl rfl rfl rfl rfl).trans ((am_g_t rfl).trans ?_)
    refine am_bind_congr fun r104 => ?_
    show am_Ex d 253 9 [(2, x0), (0, x1), (0, x2), (0, x3)] [(0, r104.1)] r104.2 = _
    refine (am_z_ne rfl).trans (am_if_congr (fun c105 => ?_) (fun c105 => ?_))
    · refine (am_e5 rfl).trans ?_
      show am_Ex d 253 11 [am_N, am_N, am_N, am_N] [] r104.2 = _
      refine (am_e0 rfl rfl).trans ?_
      exact (am_e4i rfl rfl).trans rfl
    · refine (am_e0 rfl rfl).trans ?_
      refine (am_cal3 (z := 68) (k := 1) (c := (am_ob x0 11)) rfl rfl rfl rfl rfl rfl rfl rfl).trans ((am_g_t h101).trans ?_)
      refine am_bind_congr fun r106 => ?_
      show am_Ex d 253 15 [(2, x0), (0, x1), (0, x2), (0, x3)] [] r106.2 = _
      refine (am_e0 rfl rfl).trans ?_
      refine (am_e0 rfl rfl).trans ?_
      refine (am_e0 rfl rfl).trans ?_
      refine (am_e0 rfl rfl).trans ?_
      refine (am_cal3 (z := 197) (k := 4) (c := (am_ob x0 11)) rfl rfl rfl rfl rfl rfl rfl rfl).trans ((am_g_t h101).trans ?_)
      refine am_bind_congr fun r107 => ?_
      show am_Ex d 253 20 [(2, x0), (0, x1), (0, x2), (0, x3)] [] r107.2 = _
      refine (am_e0 rfl rfl).trans ?_
      refine (am_gf (c := 11) (t := 2) rfl rfl rfl).trans ((am_g_t h101).trans ?_)
      refine (am_e0 rfl rfl).trans ?_
      refine (am_e0 rfl rfl).trans ?_
      refine (am_e0 rfl rfl).trans ?_
      refine (am_e0 rfl rfl).trans ?_
      refine (am_e0 rfl rfl).trans ?_
      refine (am_e0 rfl rfl).trans ?_
      refine (am_e0 rfl rfl).trans ?_
      refine (am_ial rfl).trans (am_g_congr fun h108 => ?_)
      exact (am_e4i rfl rfl).trans rfl
-- 254: UnlearnedHandModel.misleadsNow(III)V
set_option maxRecDepth 10000 in
theorem aq_254 (d : Nat) (x0 x1 x2 x3 : Int) (M : am_M) : am_Call d 254 [(2, x0), (0, x1), (0, x2), (0, x3)] M = (am_g (am_ob x0 11) <| am_g (am_ar (am_rd M x0 42) 20 (am_w32 ((am_w32 (8 * x1)) + x2))) <| (am_Call d 87 [(1, am_w32 ((am_rd M (am_rd M x0 42) (am_w32 ((am_w32 (8 * x1)) + x2))) + x3)), (0, 0), (0, 99)] M).bind fun r103 => am_let (am_wr r103.2 (am_rd M x0 42) (am_w32 ((am_w32 (8 * x1)) + x2)) r103.1) fun M104 => am_g (am_ar (am_rd M104 x0 44) 20 x1) <| (am_Call d 65 [(0, am_rd M104 (am_rd M104 x0 44) x1), (0, x2)] M104).bind fun r106 => if r106.1 = 0 then (am_g (am_ar (am_rd r106.2 x0 41) 20 (am_w32 ((am_w32 (8 * x1)) + x2))) <| (am_Call d 224 [(2, x0), (0, x1), (0, x2), (0, x3)] r106.2).bind fun r109 => (am_Call d 157 [(2, x0), (0, x1), (0, x2), (0, am_w32 ((am_rd r106.2 (am_rd r106.2 x0 41) (am_w32 ((am_w32 (8 * x1)) + x2))) - r109.1))] r109.2).bind fun r110 => some (0, r110.2)) else (some (0, r106.2))) := by
  show am_Ex d 254 0 [(2, x0), (0, x1), (0, x2), (0, x3)] [] M = _
  refine (am_e0 rfl rfl).trans ?_
  refine (am_gf (c := 11) (t := 2) rfl rfl rfl).trans (am_g_congr fun h101 => ?_)
  refine (am_e0 rfl rfl).trans ?_
  refine (am_e0 rfl rfl).trans ?_
  refine (am_e0 rfl rfl).trans ?_
  refine (am_e0 rfl rfl).trans ?_
  refine (am_e0 rfl rfl).trans ?_
  refine (am_e0 rfl rfl).trans ?_
  refine (am_gf (c := 11) (t := 2) rfl rfl rfl).trans ((am_g_t h101).trans ?_)
  refine (am_e0 rfl rfl).trans ?_
  refine (am_e0 rfl rfl).trans ?_
  refine (am_e0 rfl rfl).trans ?_
  refine (am_e0 rfl rfl).trans ?_
  refine (am_e0 rfl rfl).trans ?_
  refine (am_ial rfl).trans (am_g_congr fun h102 => ?_)
  refine (am_e0 rfl rfl).trans ?_
  refine (am_e0 rfl rfl).trans ?_
  refine (am_e0 rfl rfl).trans ?_
  refine (am_e0 rfl rfl).trans ?_
  refine (am_e0 rfl rfl).trans ?_
  refine (am_cal3 (z := 87) (k := 3) (c := true) rfl rfl rfl rfl rfl rfl rfl rfl).trans ((am_g_t rfl).trans ?_)
  refine am_bind_congr fun r103 => ?_
  show am_Ex d 254 21 [(2, x0), (0, x1), (0, x2), (0, x3)] [(0, r103.1), (0, am_w32 ((am_w32 (8 * x1)) + x2)), (2, am_rd M x0 42)] r103.2 = _
  refine (am_ias rfl).trans ((am_g_t h102).trans ?_)
  refine am_letm (fun M104 => ?_)
  refine (am_e0 rfl rfl).trans ?_
  refine (am_gf (c := 11) (t := 2) rfl rfl rfl).trans ((am_g_t h101).trans ?_)
  refine (am_e0 rfl rfl).trans ?_
  refine (am_ial rfl).trans (am_g_congr fun h105 => ?_)
  refine (am_e0 rfl rfl).trans ?_
  refine (am_cal3 (z := 65) (k := 2) (c := true) rfl rfl rfl rfl rfl rfl rfl rfl).trans ((am_g_t rfl).trans ?_)
  refine am_bind_congr fun r106 => ?_
  show am_Ex d 254 28 [(2, x0), (0, x1), (0, x2), (0, x3)] [(0, r106.1)] r106.2 = _
  refine (am_z_ne rfl).trans (am_if_congr (fun c107 => ?_) (fun c107 => ?_))
  · refine (am_e0 rfl rfl).trans ?_
    refine (am_e0 rfl rfl).trans ?_
    refine (am_e0 rfl rfl).trans ?_
    refine (am_e0 rfl rfl).trans ?_
    refine (am_gf (c := 11) (t := 2) rfl rfl rfl).trans ((am_g_t h101).trans ?_)
    refine (am_e0 rfl rfl).trans ?_
    refine (am_e0 rfl rfl).trans ?_
    refine (am_e0 rfl rfl).trans ?_
    refine (am_e0 rfl rfl).trans ?_
    refine (am_e0 rfl rfl).trans ?_
    refine (am_ial rfl).trans (am_g_congr fun h108 => ?_)
    refine (am_e0 rfl rfl).trans ?_
    refine (am_e0 rfl rfl).trans ?_
    refine (am_e0 rfl rfl).trans ?_
    refine (am_e0 rfl rfl).trans ?_
    refine (am_cal3 (z := 224) (k := 4) (c := (am_ob x0 11)) rfl rfl rfl rfl rfl rfl rfl rfl).trans ((am_g_t h101).trans ?_)
    refine am_bind_congr fun r109 => ?_
    show am_Ex d 254 45 [(2, x0), (0, x1), (0, x2), (0, x3)] [(0, r109.1), (0, am_rd r106.2 (am_rd r106.2 x0 41) (am_w32 ((am_w32 (8 * x1)) + x2))), (0, x2), (0, x1), (2, x0)] r109.2 = _
    refine (am_e0 rfl rfl).trans ?_
    refine (am_cal3 (z := 157) (k := 4) (c := (am_ob x0 11)) rfl rfl rfl rfl rfl rfl rfl rfl).trans ((am_g_t h101).trans ?_)
    refine am_bind_congr fun r110 => ?_
    show am_Ex d 254 47 [(2, x0), (0, x1), (0, x2), (0, x3)] [] r110.2 = _
    refine (am_e5 rfl).trans ?_
    show am_Ex d 254 48 [am_N, am_N, am_N, am_N] [] r110.2 = _
    exact (am_e4v rfl rfl).trans rfl
  · refine (am_e5 rfl).trans ?_
    show am_Ex d 254 48 [am_N, am_N, am_N, am_N] [] r106.2 = _
    exact (am_e4v rfl rfl).trans rfl
-- 255: UnlearnedHandModel.hand(III)I
set_option maxRecDepth 10000 in
theorem aq_255 (d : Nat) (x0 x1 x2 x3 : Int) (M : am_M) : am_Call d 255 [(2, x0), (0, x1), (0, x2), (0, x3)] M = (am_g (am_ob x0 11) <| (am_Call d 144 [(2, x0), (0, x1)] M).bind fun r102 => if r102.1 = 0 then (some ((-100), r102.2)) else ((am_Call d 143 [(2, x0), (0, x2)] r102.2).bind fun r104 => if r104.1 = 0 then (some ((-100), r104.2)) else ((am_Call d 88 [(2, x0)] r104.2).bind fun r106 => am_let (am_w32 ((am_w32 (8 * x1)) + x2)) fun v107 => if x3 = 0 then (am_g (am_ar (am_rd r106.2 x0 41) 20 v107) <| some (am_rd r106.2 (am_rd r106.2 x0 41) v107, r106.2)) else if x3 = 1 then (am_g (am_ar (am_rd r106.2 x0 42) 20 v107) <| some (am_rd r106.2 (am_rd r106.2 x0 42) v107, r106.2)) else if x3 = 2 then (am_g (am_ar (am_rd r106.2 x0 43) 20 v107) <| some (am_rd r106.2 (am_rd r106.2 x0 43) v107, r106.2)) else if x3 = 3 then ((am_Call d 222 [(2, x0), (0, x1), (0, x2)] r106.2).bind fun r115 => some (r115.1, r115.2)) else if x3 = 4 then ((am_Call d 223 [(2, x0), (0, x1), (0, x2)] r106.2).bind fun r117 => some (r117.1, r117.2)) else (some ((-100), r106.2))))) := by
  show am_Ex d 255 0 [(2, x0), (0, x1), (0, x2), (0, x3), am_N] [] M = _
  refine (am_e0 rfl rfl).trans ?_
  refine (am_e0 rfl rfl).trans ?_
  refine (am_cal3 (z := 144) (k := 2) (c := (am_ob x0 11)) rfl rfl rfl rfl rfl rfl rfl rfl).trans (am_g_congr fun h101 => ?_)
  refine am_bind_congr fun r102 => ?_
  show am_Ex d 255 3 [(2, x0), (0, x1), (0, x2), (0, x3), am_N] [(0, r102.1)] r102.2 = _
  refine (am_z_eq rfl).trans (am_if_congr (fun c103 => ?_) (fun c103 => ?_))
  · refine (am_e5 rfl).trans ?_
    show am_Ex d 255 9 [am_N, am_N, am_N, am_N, am_N] [] r102.2 = _
    refine (am_e0 rfl rfl).trans ?_
    exact (am_e4i rfl rfl).trans rfl
  · refine (am_e0 rfl rfl).trans ?_
    refine (am_e0 rfl rfl).trans ?_
    refine (am_cal3 (z := 143) (k := 2) (c := (am_ob x0 11)) rfl rfl rfl rfl rfl rfl rfl rfl).trans ((am_g_t h101).trans ?_)
    refine am_bind_congr fun r104 => ?_
    show am_Ex d 255 7 [(2, x0), (0, x1), (0, x2), (0, x3), am_N] [(0, r104.1)] r104.2 = _
    refine (am_z_ne rfl).trans (am_if_congr (fun c105 => ?_) (fun c105 => ?_))
    · refine (am_e5 rfl).trans ?_
      show am_Ex d 255 9 [am_N, am_N, am_N, am_N, am_N] [] r104.2 = _
      refine (am_e0 rfl rfl).trans ?_
      exact (am_e4i rfl rfl).trans rfl
    · refine (am_e0 rfl rfl).trans ?_
      refine (am_cal3 (z := 88) (k := 1) (c := (am_ob x0 11)) rfl rfl rfl rfl rfl rfl rfl rfl).trans ((am_g_t h101).trans ?_)
      refine am_bind_congr fun r106 => ?_
      show am_Ex d 255 13 [(2, x0), (0, x1), (0, x2), (0, x3), am_N] [] r106.2 = _
      refine (am_e0 rfl rfl).trans ?_
      refine (am_e0 rfl rfl).trans ?_
      refine (am_e0 rfl rfl).trans ?_
      refine (am_e0 rfl rfl).trans ?_
      refine (am_e0 rfl rfl).trans ?_
      refine (am_e0 rfl rfl).trans ?_
      refine am_lets (L := fun v107 => [(2, x0), (0, x1), (0, x2), (0, x3), (0, v107)]) (fun v107 => ?_)
      refine (am_e0 rfl rfl).trans ?_
      refine (am_tsw rfl).trans ?_
      refine (am_sw_c).trans (am_if_congr (fun c108 => ?_) (fun c108 => ?_))
      · refine (am_e0 rfl rfl).trans ?_
        refine (am_gf (c := 11) (t := 2) rfl rfl rfl).trans ((am_g_t h101).trans ?_)
        refine (am_e0 rfl rfl).trans ?_
        refine (am_ial rfl).trans (am_g_congr fun h109 => ?_)
        exact (am_e4i rfl rfl).trans rfl
      refine (am_sw_c).trans (am_if_congr (fun c110 => ?_) (fun c110 => ?_))
      · refine (am_e0 rfl rfl).trans ?_
        refine (am_gf (c := 11) (t := 2) rfl rfl rfl).trans ((am_g_t h101).trans ?_)
        refine (am_e0 rfl rfl).trans ?_
        refine (am_ial rfl).trans (am_g_congr fun h111 => ?_)
        exact (am_e4i rfl rfl).trans rfl
      refine (am_sw_c).trans (am_if_congr (fun c112 => ?_) (fun c112 => ?_))
      · refine (am_e0 rfl rfl).trans ?_
        refine (am_gf (c := 11) (t := 2) rfl rfl rfl).trans ((am_g_t h101).trans ?_)
        refine (am_e0 rfl rfl).trans ?_
        refine (am_ial rfl).trans (am_g_congr fun h113 => ?_)
        exact (am_e4i rfl rfl).trans rfl
      refine (am_sw_c).trans (am_if_congr (fun c114 => ?_) (fun c114 => ?_))
      · refine (am_e0 rfl rfl).trans ?_
        refine (am_e0 rfl rfl).trans ?_
        refine (am_e0 rfl rfl).trans ?_
        refine (am_cal3 (z := 222) (k := 3) (c := (am_ob x0 11)) rfl rfl rfl rfl rfl rfl rfl rfl).trans ((am_g_t h101).trans ?_)
        refine am_bind_congr fun r115 => ?_
        show am_Ex d 255 40 [(2, x0), (0, x1), (0, x2), (0, x3), (0, v107)] [(0, r115.1)] r115.2 = _
        exact (am_e4i rfl rfl).trans rfl
      refine (am_sw_c).trans (am_if_congr (fun c116 => ?_) (fun c116 => ?_))
      · refine (am_e0 rfl rfl).trans ?_
        refine (am_e0 rfl rfl).trans ?_
        refine (am_e0 rfl rfl).trans ?_
        refine (am_cal3 (z := 223) (k := 3) (c := (am_ob x0 11)) rfl rfl rfl rfl rfl rfl rfl rfl).trans ((am_g_t h101).trans ?_)
        refine am_bind_congr fun r117 => ?_
        show am_Ex d 255 45 [(2, x0), (0, x1), (0, x2), (0, x3), (0, v107)] [(0, r117.1)] r117.2 = _
        exact (am_e4i rfl rfl).trans rfl
      refine (am_sw_n).trans ?_
      refine (am_e0 rfl rfl).trans ?_
      exact (am_e4i rfl rfl).trans rfl
-- 256: UnlearnedHand$Deeds.passNight(LUnlearnedHand$Hands;II)V
set_option maxRecDepth 10000 in
theorem aq_256 (d : Nat) (x0 x1 x2 x3 : Int) (M : am_M) : am_Call d 256 [(2, x0), (2, x1), (0, x2), (0, x3)] M = (am_Ex d 256 3 [(2, x0), (2, x1), (0, x2), (0, x3), (0, x2), am_N] [] M) := by
  show am_Ex d 256 0 [(2, x0), (2, x1), (0, x2), (0, x3), am_N, am_N] [] M = _
  refine (am_e0 rfl rfl).trans ?_
  refine (am_e0 rfl rfl).trans ?_
  exact (am_e5 rfl).trans rfl
set_option maxRecDepth 10000 in
theorem aq_256_3 (d : Nat) (x0 x1 x2 x3 x4 : Int) (M : am_M) : am_Ex d 256 3 [(2, x0), (2, x1), (0, x2), (0, x3), (0, x4), am_N] [] M = (if x4 < x3 then (am_Ex d 256 9 [(2, x0), (2, x1), (0, x2), (0, x3), (0, x4), (0, 0)] [] M) else (am_g (am_ob x1 3) <| am_let (am_wr M x1 6 (am_w32 ((am_rd M x1 6) + 1))) fun M103 => if (30 : Int) = 0 then none else if am_rem (am_rd M103 x1 6) 30 = 0 then (am_Ex d 256 43 [(2, x0), (2, x1), am_N, (0, x3), (0, x2), am_N] [] M103) else (some (0, M103)))) := by
  refine (am_e0 rfl rfl).trans ?_
  refine (am_e0 rfl rfl).trans ?_
  refine (am_i_ge rfl).trans (am_if_congr (fun c101 => ?_) (fun c101 => ?_))
  · refine (am_e0 rfl rfl).trans ?_
    refine (am_e0 rfl rfl).trans ?_
    exact (am_e5 rfl).trans rfl
  · refine (am_e0 rfl rfl).trans ?_
    refine (am_e0 rfl rfl).trans ?_
    refine (am_gf (c := 3) (t := 0) rfl rfl rfl).trans (am_g_congr fun h102 => ?_)
    refine (am_e0 rfl rfl).trans ?_
    refine (am_e0 rfl rfl).trans ?_
    refine (am_pf (c := 3) rfl rfl rfl).trans ((am_g_t h102).trans ?_)
    refine am_letm (fun M103 => ?_)
    refine (am_e0 rfl rfl).trans ?_
    refine (am_gf (c := 3) (t := 0) rfl rfl rfl).trans ((am_g_t h102).trans ?_)
    refine (am_e0 rfl rfl).trans ?_
    refine (am_rmi rfl).trans (am_if_congr (fun _ => rfl) (fun c104 => ?_))
    refine (am_z_eq rfl).trans (am_if_congr (fun c105 => ?_) (fun c105 => ?_))
    · refine (am_e0 rfl rfl).trans ?_
      refine (am_e0 rfl rfl).trans ?_
      exact (am_e5 rfl).trans rfl
    · exact (am_e4v rfl rfl).trans rfl
set_option maxRecDepth 10000 in
theorem aq_256_9 (d : Nat) (x0 x1 x2 x3 x4 x5 : Int) (M : am_M) : am_Ex d 256 9 [(2, x0), (2, x1), (0, x2), (0, x3), (0, x4), (0, x5)] [] M = (am_g (am_ob x0 0) <| am_g (am_ob (am_rd M x0 0) 2) <| if x5 < am_rd M (am_rd M x0 0) 5 then (am_g (am_ob x1 3) <| (am_Call d 25 [(2, x1), (0, x4)] M).bind fun r105 => if r105.1 = 0 then ((am_Call d 208 [(2, x0), (2, x1), (0, x4), (0, x5)] r105.2).bind fun r107 => am_let (am_w32 (x5 + 1)) fun v108 => am_Ex d 256 9 [(2, x0), (2, x1), (0, x2), (0, x3), (0, x4), (0, v108)] [] r107.2) else (am_Ex d 256 26 [(2, x0), (2, x1), (0, x2), (0, x3), (0, x4), am_N] [] r105.2)) else (am_Ex d 256 26 [(2, x0), (2, x1), (0, x2), (0, x3), (0, x4), am_N] [] M)) := by
  refine (am_e0 rfl rfl).trans ?_
  refine (am_e0 rfl rfl).trans ?_
  refine (am_gf (c := 0) (t := 2) rfl rfl rfl).trans (am_g_congr fun h101 => ?_)
  refine (am_gf (c := 2) (t := 0) rfl rfl rfl).trans (am_g_congr fun h102 => ?_)
  refine (am_i_ge rfl).trans (am_if_congr (fun c103 => ?_) (fun c103 => ?_))
  · refine (am_e0 rfl rfl).trans ?_
    refine (am_e0 rfl rfl).trans ?_
    refine (am_cal3 (z := 25) (k := 2) (c := (am_ob x1 3)) rfl rfl rfl rfl rfl rfl rfl rfl).trans (am_g_congr fun h104 => ?_)
    refine am_bind_congr fun r105 => ?_
    show am_Ex d 256 17 [(2, x0), (2, x1), (0, x2), (0, x3), (0, x4), (0, x5)] [(0, r105.1)] r105.2 = _
    refine (am_z_ne rfl).trans (am_if_congr (fun c106 => ?_) (fun c106 => ?_))
    · refine (am_e0 rfl rfl).trans ?_
      refine (am_e0 rfl rfl).trans ?_
      refine (am_e0 rfl rfl).trans ?_
      refine (am_e0 rfl rfl).trans ?_
      refine (am_cal3 (z := 208) (k := 4) (c := (am_ob x0 0)) rfl rfl rfl rfl rfl rfl rfl rfl).trans ((am_g_t h101).trans ?_)
      refine am_bind_congr fun r107 => ?_
      show am_Ex d 256 23 [(2, x0), (2, x1), (0, x2), (0, x3), (0, x4), (0, x5)] [] r107.2 = _
      refine (am_e0 rfl rfl).trans ?_
      refine am_lets (L := fun v108 => [(2, x0), (2, x1), (0, x2), (0, x3), (0, x4), (0, v108)]) (fun v108 => ?_)
      refine (am_e1 rfl rfl).trans ?_
      exact (am_e5 rfl).trans rfl
    · exact (am_e5 rfl).trans rfl
  · exact (am_e5 rfl).trans rfl
set_option maxRecDepth 10000 in
theorem aq_256_43 (d : Nat) (x0 x1 x3 x4 : Int) (M : am_M) : am_Ex d 256 43 [(2, x0), (2, x1), am_N, (0, x3), (0, x4), am_N] [] M = (if x4 < x3 then (am_g (am_ob x1 3) <| (am_Call d 25 [(2, x1), (0, x4)] M).bind fun r103 => if r103.1 = 0 then (am_g (am_ob x0 0) <| (am_Call d 235 [(2, x0), (2, x1), (0, x4)] r103.2).bind fun r106 => am_Ex d 256 56 [(2, x0), (2, x1), am_N, (0, x3), (0, x4), am_N] [] r106.2) else (am_Ex d 256 56 [(2, x0), (2, x1), am_N, (0, x3), (0, x4), am_N] [] r103.2)) else (some (0, M))) := by
  refine (am_e0 rfl rfl).trans ?_
  refine (am_e0 rfl rfl).trans ?_
  refine (am_i_ge rfl).trans (am_if_congr (fun c101 => ?_) (fun c101 => ?_))
  · refine (am_e0 rfl rfl).trans ?_
    refine (am_e0 rfl rfl).trans ?_
    refine (am_cal3 (z := 25) (k := 2) (c := (am_ob x1 3)) rfl rfl rfl rfl rfl rfl rfl rfl).trans (am_g_congr fun h102 => ?_)
    refine am_bind_congr fun r103 => ?_
    show am_Ex d 256 49 [(2, x0), (2, x1), am_N, (0, x3), (0, x4), am_N] [(0, r103.1)] r103.2 = _
    refine (am_z_ne rfl).trans (am_if_congr (fun c104 => ?_) (fun c104 => ?_))
    · refine (am_e0 rfl rfl).trans ?_
      refine (am_e0 rfl rfl).trans ?_
      refine (am_e0 rfl rfl).trans ?_
      refine (am_cal3 (z := 235) (k := 3) (c := (am_ob x0 0)) rfl rfl rfl rfl rfl rfl rfl rfl).trans (am_g_congr fun h105 => ?_)
      refine am_bind_congr fun r106 => ?_
      show am_Ex d 256 54 [(2, x0), (2, x1), am_N, (0, x3), (0, x4), am_N] [(0, r106.1)] r106.2 = _
      refine (am_e0 rfl rfl).trans ?_
      exact (am_e5 rfl).trans rfl
    · exact (am_e5 rfl).trans rfl
  · exact (am_e4v rfl rfl).trans rfl
set_option maxRecDepth 10000 in
theorem aq_256_26 (d : Nat) (x0 x1 x2 x3 x4 : Int) (M : am_M) : am_Ex d 256 26 [(2, x0), (2, x1), (0, x2), (0, x3), (0, x4), am_N] [] M = (am_let (am_w32 (x4 + 1)) fun v101 => am_Ex d 256 3 [(2, x0), (2, x1), (0, x2), (0, x3), (0, v101), am_N] [] M) := by
  refine (am_e0 rfl rfl).trans ?_
  refine am_lets (L := fun v101 => [(2, x0), (2, x1), (0, x2), (0, x3), (0, v101), am_N]) (fun v101 => ?_)
  refine (am_e1 rfl rfl).trans ?_
  exact (am_e5 rfl).trans rfl
set_option maxRecDepth 10000 in
theorem aq_256_56 (d : Nat) (x0 x1 x3 x4 : Int) (M : am_M) : am_Ex d 256 56 [(2, x0), (2, x1), am_N, (0, x3), (0, x4), am_N] [] M = (am_let (am_w32 (x4 + 1)) fun v101 => am_Ex d 256 43 [(2, x0), (2, x1), am_N, (0, x3), (0, v101), am_N] [] M) := by
  refine (am_e0 rfl rfl).trans ?_
  refine am_lets (L := fun v101 => [(2, x0), (2, x1), am_N, (0, x3), (0, v101), am_N]) (fun v101 => ?_)
  refine (am_e1 rfl rfl).trans ?_
  exact (am_e5 rfl).trans rfl
-- 257: UnlearnedHand$Reader.wordToken([CII)I
set_option maxRecDepth 10000 in
theorem aq_257 (d : Nat) (x0 x1 x2 : Int) (M : am_M) : am_Call d 257 [(2, x0), (0, x1), (0, x2)] M = (am_Ex d 257 7 [(2, x0), (0, x1), (0, x2), (0, 0), (0, 0), (0, 0)] [] M) := by
  show am_Ex d 257 0 [(2, x0), (0, x1), (0, x2), am_N, am_N, am_N] [] M = _
  refine (am_e0 rfl rfl).trans ?_
  refine (am_e0 rfl rfl).trans ?_
  refine (am_e0 rfl rfl).trans ?_
  refine (am_e0 rfl rfl).trans ?_
  refine (am_e0 rfl rfl).trans ?_
  refine (am_e0 rfl rfl).trans ?_
  exact (am_e5 rfl).trans rfl
set_option maxRecDepth 10000 in
theorem aq_257_7 (d : Nat) (x0 x1 x2 x3 x4 x5 : Int) (M : am_M) : am_Ex d 257 7 [(2, x0), (0, x1), (0, x2), (0, x3), (0, x4), (0, x5)] [] M = ((am_Call d 169 [(2, (-2 - 1))] M).bind fun r101 => if x5 ≤ r101.1 then ((am_Call d 169 [(2, (-2 - 1))] r101.2).bind fun r103 => if x5 = r103.1 then (am_Ex d 257 21 [(2, x0), (0, x1), (0, x2), (0, x3), (0, x4), (0, x5)] [] r103.2) else ((am_Call d 233 [(2, (-2 - 1)), (0, x5)] r103.2).bind fun r105 => if r105.1 = 32 then (am_Ex d 257 21 [(2, x0), (0, x1), (0, x2), (0, x3), (0, x4), (0, x5)] [] r105.2) else (am_Ex d 257 43 [(2, x0), (0, x1), (0, x2), (0, x3), (0, x4), (0, x5)] [] r105.2))) else (some (43, r101.2))) := by
  refine (am_e0 rfl rfl).trans ?_
  refine (am_e7 rfl).trans ?_
  refine (am_cal3 (z := 169) (k := 1) (c := true) rfl rfl rfl rfl rfl rfl rfl rfl).trans ((am_g_t rfl).trans ?_)
  refine am_bind_congr fun r101 => ?_
  show am_Ex d 257 10 [(2, x0), (0, x1), (0, x2), (0, x3), (0, x4), (0, x5)] [(0, r101.1), (0, x5)] r101.2 = _
  refine (am_i_gt rfl).trans (am_if_congr (fun c102 => ?_) (fun c102 => ?_))
  · refine (am_e0 rfl rfl).trans ?_
    refine (am_e7 rfl).trans ?_
    refine (am_cal3 (z := 169) (k := 1) (c := true) rfl rfl rfl rfl rfl rfl rfl rfl).trans ((am_g_t rfl).trans ?_)
    refine am_bind_congr fun r103 => ?_
    show am_Ex d 257 14 [(2, x0), (0, x1), (0, x2), (0, x3), (0, x4), (0, x5)] [(0, r103.1), (0, x5)] r103.2 = _
    refine (am_i_eq rfl).trans (am_if_congr (fun c104 => ?_) (fun c104 => ?_))
    · exact (am_e5 rfl).trans rfl
    · refine (am_e7 rfl).trans ?_
      refine (am_e0 rfl rfl).trans ?_
      refine (am_cal3 (z := 233) (k := 2) (c := true) rfl rfl rfl rfl rfl rfl rfl rfl).trans ((am_g_t rfl).trans ?_)
      refine am_bind_congr fun r105 => ?_
      show am_Ex d 257 18 [(2, x0), (0, x1), (0, x2), (0, x3), (0, x4), (0, x5)] [(0, r105.1)] r105.2 = _
      refine (am_e0 rfl rfl).trans ?_
      refine (am_i_ne rfl).trans (am_if_congr (fun c106 => ?_) (fun c106 => ?_))
      · exact (am_e5 rfl).trans rfl
      · exact (am_e5 rfl).trans rfl
  · refine (am_e0 rfl rfl).trans ?_
    exact (am_e4i rfl rfl).trans rfl
set_option maxRecDepth 10000 in
theorem aq_257_21 (d : Nat) (x0 x1 x2 x3 x4 x5 : Int) (M : am_M) : am_Ex d 257 21 [(2, x0), (0, x1), (0, x2), (0, x3), (0, x4), (0, x5)] [] M = (if am_w32 (x5 - x4) = am_w32 (x2 - x1) then ((am_Call d 238 [(0, x4), (2, x0), (0, x1), (0, x2)] M).bind fun r102 => if r102.1 = 0 then (am_Ex d 257 37 [(2, x0), (0, x1), (0, x2), (0, x3), am_N, (0, x5)] [] r102.2) else (some (x3, r102.2))) else (am_Ex d 257 37 [(2, x0), (0, x1), (0, x2), (0, x3), am_N, (0, x5)] [] M)) := by
  refine (am_e0 rfl rfl).trans ?_
  refine (am_e0 rfl rfl).trans ?_
  refine (am_e0 rfl rfl).trans ?_
  refine (am_e0 rfl rfl).trans ?_
  refine (am_e0 rfl rfl).trans ?_
  refine (am_e0 rfl rfl).trans ?_
  refine (am_i_ne rfl).trans (am_if_congr (fun c101 => ?_) (fun c101 => ?_))
  · refine (am_e0 rfl rfl).trans ?_
    refine (am_e0 rfl rfl).trans ?_
    refine (am_e0 rfl rfl).trans ?_
    refine (am_e0 rfl rfl).trans ?_
    refine (am_cal3 (z := 238) (k := 4) (c := true) rfl rfl rfl rfl rfl rfl rfl rfl).trans ((am_g_t rfl).trans ?_)
    refine am_bind_congr fun r102 => ?_
    show am_Ex d 257 33 [(2, x0), (0, x1), (0, x2), (0, x3), (0, x4), (0, x5)] [(0, r102.1)] r102.2 = _
    refine (am_z_eq rfl).trans (am_if_congr (fun c103 => ?_) (fun c103 => ?_))
    · exact (am_e5 rfl).trans rfl
    · refine (am_e0 rfl rfl).trans ?_
      exact (am_e4i rfl rfl).trans rfl
  · exact (am_e5 rfl).trans rfl
set_option maxRecDepth 10000 in
theorem aq_257_43 (d : Nat) (x0 x1 x2 x3 x4 x5 : Int) (M : am_M) : am_Ex d 257 43 [(2, x0), (0, x1), (0, x2), (0, x3), (0, x4), (0, x5)] [] M = (am_let (am_w32 (x5 + 1)) fun v101 => am_Ex d 257 7 [(2, x0), (0, x1), (0, x2), (0, x3), (0, x4), (0, v101)] [] M) := by
  refine (am_e0 rfl rfl).trans ?_
  refine am_lets (L := fun v101 => [(2, x0), (0, x1), (0, x2), (0, x3), (0, x4), (0, v101)]) (fun v101 => ?_)
  refine (am_e1 rfl rfl).trans ?_
  exact (am_e5 rfl).trans rfl
set_option maxRecDepth 10000 in
theorem aq_257_37 (d : Nat) (x0 x1 x2 x3 x5 : Int) (M : am_M) : am_Ex d 257 37 [(2, x0), (0, x1), (0, x2), (0, x3), am_N, (0, x5)] [] M = (am_let (am_w32 (x3 + 1)) fun v101 => am_let (am_w32 (x5 + 1)) fun v102 => am_Ex d 257 43 [(2, x0), (0, x1), (0, x2), (0, v101), (0, v102), (0, x5)] [] M) := by
  refine (am_e0 rfl rfl).trans ?_
  refine am_lets (L := fun v101 => [(2, x0), (0, x1), (0, x2), (0, v101), am_N, (0, x5)]) (fun v101 => ?_)
  refine (am_e0 rfl rfl).trans ?_
  refine (am_e0 rfl rfl).trans ?_
  refine (am_e0 rfl rfl).trans ?_
  refine (am_e0 rfl rfl).trans ?_
  refine am_lets (L := fun v102 => [(2, x0), (0, x1), (0, x2), (0, v101), (0, v102), (0, x5)]) (fun v102 => ?_)
  exact (am_e5 rfl).trans rfl
-- 258: UnlearnedHand$Reader.readClause()V
set_option maxRecDepth 10000 in
theorem aq_258 (d : Nat) (x0 : Int) (M : am_M) : am_Call d 258 [(2, x0)] M = (am_g (am_ob x0 6) <| (am_Call d 43 [(2, x0)] M).bind fun r102 => if r102.1 < 0 then (am_Ex d 258 9 [(2, x0), am_N] [] r102.2) else (if r102.1 ≤ 11 then (am_g (am_ob (am_rd r102.2 x0 6) 8) <| (am_Call d 51 [(2, am_rd r102.2 x0 6), (0, r102.1)] r102.2).bind fun r106 => if r106.1 = 0 then (am_g (am_ob (am_rd r106.2 x0 6) 8) <| if am_rd r106.2 (am_rd r106.2 x0 6) 6 < 24 then ((am_Call d 55 [(2, am_rd r106.2 x0 6), (0, r102.1)] r106.2).bind fun r110 => am_let (am_wr r110.2 x0 4 (am_w32 ((am_rd r110.2 x0 4) + 1))) fun M111 => am_let (am_wr M111 x0 5 r102.1) fun M112 => am_g (am_ob (am_rd M112 x0 6) 8) <| (am_Call d 52 [(2, am_rd M112 x0 6), (0, r102.1)] M112).bind fun r114 => if r102.1 = 0 then ((am_Call d 239 [(2, x0)] r114.2).bind fun r116 => am_Ex d 258 64 [(2, x0), (0, r102.1)] [] r116.2) else (if r102.1 ≤ 3 then ((am_Call d 178 [(2, x0), (0, 0)] r114.2).bind fun r118 => am_Ex d 258 64 [(2, x0), (0, r102.1)] [] r118.2) else ((am_Call d 177 [(2, x0), (0, r102.1)] r114.2).bind fun r119 => am_Ex d 258 64 [(2, x0), (0, r102.1)] [] r119.2))) else ((am_Call d 44 [(2, x0), (0, 6)] r106.2).bind fun r120 => some (0, r120.2))) else ((am_Call d 44 [(2, x0), (0, 4)] r106.2).bind fun r121 => some (0, r121.2))) else (am_Ex d 258 9 [(2, x0), am_N] [] r102.2))) := by
  show am_Ex d 258 0 [(2, x0), am_N] [] M = _
  refine (am_e0 rfl rfl).trans ?_
  refine (am_cal3 (z := 43) (k := 1) (c := (am_ob x0 6)) rfl rfl rfl rfl rfl rfl rfl rfl).trans (am_g_congr fun h101 => ?_)
  refine am_bind_congr fun r102 => ?_
  show am_Ex d 258 2 [(2, x0), am_N] [(0, r102.1)] r102.2 = _
  refine (am_e0 rfl rfl).trans ?_
  refine (am_e0 rfl rfl).trans ?_
  refine (am_z_lt rfl).trans (am_if_congr (fun c103 => ?_) (fun c103 => ?_))
  · exact (am_e5 rfl).trans rfl
  · refine (am_e0 rfl rfl).trans ?_
    refine (am_e0 rfl rfl).trans ?_
    refine (am_i_le rfl).trans (am_if_congr (fun c104 => ?_) (fun c104 => ?_))
    · refine (am_e0 rfl rfl).trans ?_
      refine (am_gf (c := 6) (t := 2) rfl rfl rfl).trans ((am_g_t h101).trans ?_)
      refine (am_e0 rfl rfl).trans ?_
      refine (am_cal3 (z := 51) (k := 2) (c := (am_ob (am_rd r102.2 x0 6) 8)) rfl rfl rfl rfl rfl rfl rfl rfl).trans (am_g_congr fun h105 => ?_)
      refine am_bind_congr fun r106 => ?_
      show am_Ex d 258 17 [(2, x0), (0, r102.1)] [(0, r106.1)] r106.2 = _
      refine (am_z_eq rfl).trans (am_if_congr (fun c107 => ?_) (fun c107 => ?_))
      · refine (am_e0 rfl rfl).trans ?_
        refine (am_gf (c := 6) (t := 2) rfl rfl rfl).trans ((am_g_t h101).trans ?_)
        refine (am_gf (c := 8) (t := 0) rfl rfl rfl).trans (am_g_congr fun h108 => ?_)
        refine (am_e0 rfl rfl).trans ?_
        refine (am_i_lt rfl).trans (am_if_congr (fun c109 => ?_) (fun c109 => ?_))
        · refine (am_e0 rfl rfl).trans ?_
          refine (am_gf (c := 6) (t := 2) rfl rfl rfl).trans ((am_g_t h101).trans ?_)
          refine (am_e0 rfl rfl).trans ?_
          refine (am_cal3 (z := 55) (k := 2) (c := (am_ob (am_rd r106.2 x0 6) 8)) rfl rfl rfl rfl rfl rfl rfl rfl).trans ((am_g_t h108).trans ?_)
          refine am_bind_congr fun r110 => ?_
          show am_Ex d 258 35 [(2, x0), (0, r102.1)] [] r110.2 = _
          refine (am_e0 rfl rfl).trans ?_
          refine (am_e0 rfl rfl).trans ?_
          refine (am_gf (c := 6) (t := 0) rfl rfl rfl).trans ((am_g_t h101).trans ?_)
          refine (am_e0 rfl rfl).trans ?_
          refine (am_e0 rfl rfl).trans ?_
          refine (am_pf (c := 6) rfl rfl rfl).trans ((am_g_t h101).trans ?_)
          refine am_letm (fun M111 => ?_)
          refine (am_e0 rfl rfl).trans ?_
          refine (am_e0 rfl rfl).trans ?_
          refine (am_pf (c := 6) rfl rfl rfl).trans ((am_g_t h101).trans ?_)
          refine am_letm (fun M112 => ?_)
          refine (am_e0 rfl rfl).trans ?_
          refine (am_gf (c := 6) (t := 2) rfl rfl rfl).trans ((am_g_t h101).trans ?_)
          refine (am_e0 rfl rfl).trans ?_
          refine (am_cal3 (z := 52) (k := 2) (c := (am_ob (am_rd M112 x0 6) 8)) rfl rfl rfl rfl rfl rfl rfl rfl).trans (am_g_congr fun h113 => ?_)
          refine am_bind_congr fun r114 => ?_
          show am_Ex d 258 48 [(2, x0), (0, r102.1)] [] r114.2 = _
          refine (am_e0 rfl rfl).trans ?_
          refine (am_z_ne rfl).trans (am_if_congr (fun c115 => ?_) (fun c115 => ?_))
          · refine (am_e0 rfl rfl).trans ?_
            refine (am_cal3 (z := 239) (k := 1) (c := (am_ob x0 6)) rfl rfl rfl rfl rfl rfl rfl rfl).trans ((am_g_t h101).trans ?_)
            refine am_bind_congr fun r116 => ?_
            show am_Ex d 258 52 [(2, x0), (0, r102.1)] [] r116.2 = _
            refine (am_e1 rfl rfl).trans ?_
            exact (am_e5 rfl).trans rfl
          · refine (am_e0 rfl rfl).trans ?_
            refine (am_e0 rfl rfl).trans ?_
            refine (am_i_gt rfl).trans (am_if_congr (fun c117 => ?_) (fun c117 => ?_))
            · refine (am_e0 rfl rfl).trans ?_
              refine (am_e0 rfl rfl).trans ?_
              refine (am_cal3 (z := 178) (k := 2) (c := (am_ob x0 6)) rfl rfl rfl rfl rfl rfl rfl rfl).trans ((am_g_t h101).trans ?_)
              refine am_bind_congr fun r118 => ?_
              show am_Ex d 258 59 [(2, x0), (0, r102.1)] [] r118.2 = _
              refine (am_e1 rfl rfl).trans ?_
              exact (am_e5 rfl).trans rfl
            · refine (am_e0 rfl rfl).trans ?_
              refine (am_e0 rfl rfl).trans ?_
              refine (am_cal3 (z := 177) (k := 2) (c := (am_ob x0 6)) rfl rfl rfl rfl rfl rfl rfl rfl).trans ((am_g_t h101).trans ?_)
              refine am_bind_congr fun r119 => ?_
              show am_Ex d 258 63 [(2, x0), (0, r102.1)] [] r119.2 = _
              exact (am_e5 rfl).trans rfl
        · refine (am_e0 rfl rfl).trans ?_
          refine (am_e0 rfl rfl).trans ?_
          refine (am_cal3 (z := 44) (k := 2) (c := (am_ob x0 6)) rfl rfl rfl rfl rfl rfl rfl rfl).trans ((am_g_t h101).trans ?_)
          refine am_bind_congr fun r120 => ?_
          show am_Ex d 258 30 [(2, x0), (0, r102.1)] [] r120.2 = _
          refine (am_e1 rfl rfl).trans ?_
          refine (am_e5 rfl).trans ?_
          show am_Ex d 258 72 [am_N, am_N] [] r120.2 = _
          exact (am_e4v rfl rfl).trans rfl
      · refine (am_e0 rfl rfl).trans ?_
        refine (am_e0 rfl rfl).trans ?_
        refine (am_cal3 (z := 44) (k := 2) (c := (am_ob x0 6)) rfl rfl rfl rfl rfl rfl rfl rfl).trans ((am_g_t h101).trans ?_)
        refine am_bind_congr fun r121 => ?_
        show am_Ex d 258 21 [(2, x0), (0, r102.1)] [] r121.2 = _
        refine (am_e1 rfl rfl).trans ?_
        refine (am_e5 rfl).trans ?_
        show am_Ex d 258 72 [am_N, am_N] [] r121.2 = _
        exact (am_e4v rfl rfl).trans rfl
    · exact (am_e5 rfl).trans rfl
set_option maxRecDepth 10000 in
theorem aq_258_9 (d : Nat) (x0 : Int) (M : am_M) : am_Ex d 258 9 [(2, x0), am_N] [] M = (am_g (am_ob x0 6) <| (am_Call d 44 [(2, x0), (0, 1)] M).bind fun r102 => some (0, r102.2)) := by
  refine (am_e0 rfl rfl).trans ?_
  refine (am_e0 rfl rfl).trans ?_
  refine (am_cal3 (z := 44) (k := 2) (c := (am_ob x0 6)) rfl rfl rfl rfl rfl rfl rfl rfl).trans (am_g_congr fun h101 => ?_)
  refine am_bind_congr fun r102 => ?_
  show am_Ex d 258 12 [(2, x0), am_N] [] r102.2 = _
  refine (am_e1 rfl rfl).trans ?_
  refine (am_e5 rfl).trans ?_
  show am_Ex d 258 72 [am_N, am_N] [] r102.2 = _
  exact (am_e4v rfl rfl).trans rfl
set_option maxRecDepth 10000 in
theorem aq_258_64 (d : Nat) (x0 x1 : Int) (M : am_M) : am_Ex d 258 64 [(2, x0), (0, x1)] [] M = (am_g (am_ob x0 6) <| am_g (am_ob (am_rd M x0 6) 8) <| (am_Call d 53 [(2, am_rd M x0 6), (0, x1)] M).bind fun r103 => (am_Call d 126 [(2, x0), (0, 39)] r103.2).bind fun r104 => some (0, r104.2)) := by
  refine (am_e0 rfl rfl).trans ?_
  refine (am_gf (c := 6) (t := 2) rfl rfl rfl).trans (am_g_congr fun h101 => ?_)
  refine (am_e0 rfl rfl).trans ?_
  refine (am_cal3 (z := 53) (k := 2) (c := (am_ob (am_rd M x0 6) 8)) rfl rfl rfl rfl rfl rfl rfl rfl).trans (am_g_congr fun h102 => ?_)
  refine am_bind_congr fun r103 => ?_
  show am_Ex d 258 68 [(2, x0), (0, x1)] [] r103.2 = _
  refine (am_e0 rfl rfl).trans ?_
  refine (am_e0 rfl rfl).trans ?_
  refine (am_cal3 (z := 126) (k := 2) (c := (am_ob x0 6)) rfl rfl rfl rfl rfl rfl rfl rfl).trans ((am_g_t h101).trans ?_)
  refine am_bind_congr fun r104 => ?_
  show am_Ex d 258 71 [(2, x0), (0, x1)] [] r104.2 = _
  refine (am_e5 rfl).trans ?_
  show am_Ex d 258 72 [am_N, am_N] [] r104.2 = _
  exact (am_e4v rfl rfl).trans rfl
-- 259: UnlearnedHand$Reckoning.fewestSpies(I)I
set_option maxRecDepth 10000 in
theorem aq_259 (d : Nat) (x0 x1 : Int) (M : am_M) : am_Call d 259 [(2, x0), (0, x1)] M = (am_g (am_ob x0 7) <| (am_Call d 241 [(2, x0)] M).bind fun r102 => am_Ex d 259 7 [(2, x0), (0, x1), (0, (-1)), (0, 0)] [] r102.2) := by
  show am_Ex d 259 0 [(2, x0), (0, x1), am_N, am_N] [] M = _
  refine (am_e0 rfl rfl).trans ?_
  refine (am_cal3 (z := 241) (k := 1) (c := (am_ob x0 7)) rfl rfl rfl rfl rfl rfl rfl rfl).trans (am_g_congr fun h101 => ?_)
  refine am_bind_congr fun r102 => ?_
  show am_Ex d 259 2 [(2, x0), (0, x1), am_N, am_N] [] r102.2 = _
  refine (am_e0 rfl rfl).trans ?_
  refine (am_e0 rfl rfl).trans ?_
  refine (am_e0 rfl rfl).trans ?_
  refine (am_e0 rfl rfl).trans ?_
  exact (am_e5 rfl).trans rfl
set_option maxRecDepth 10000 in
theorem aq_259_7 (d : Nat) (x0 x1 x2 x3 : Int) (M : am_M) : am_Ex d 259 7 [(2, x0), (0, x1), (0, x2), (0, x3)] [] M = (am_g (am_ob x0 7) <| am_g (am_ob (am_rd M x0 0) 2) <| if x3 < am_shl 1 (am_rd M (am_rd M x0 0) 6) then ((am_Call d 48 [(2, x0), (0, x3)] M).bind fun r104 => if am_and x1 (am_xor r104.1 (-1)) = 0 then (if x2 = (-1) then (am_Ex d 259 31 [(2, x0), (0, x1), am_N, (0, x3)] [] r104.2) else ((am_Call d 180 [(2, x0), (0, x3), (0, x2)] r104.2).bind fun r107 => if r107.1 = 0 then (am_Ex d 259 34 [(2, x0), (0, x1), (0, x2), (0, x3)] [] r107.2) else (am_Ex d 259 31 [(2, x0), (0, x1), am_N, (0, x3)] [] r107.2))) else (am_Ex d 259 34 [(2, x0), (0, x1), (0, x2), (0, x3)] [] r104.2)) else (some (x2, M))) := by
  refine (am_e0 rfl rfl).trans ?_
  refine (am_e0 rfl rfl).trans ?_
  refine (am_e0 rfl rfl).trans ?_
  refine (am_gf (c := 7) (t := 2) rfl rfl rfl).trans (am_g_congr fun h101 => ?_)
  refine (am_gf (c := 2) (t := 0) rfl rfl rfl).trans (am_g_congr fun h102 => ?_)
  refine (am_e0 rfl rfl).trans ?_
  refine (am_i_ge rfl).trans (am_if_congr (fun c103 => ?_) (fun c103 => ?_))
  · refine (am_e0 rfl rfl).trans ?_
    refine (am_e0 rfl rfl).trans ?_
    refine (am_e0 rfl rfl).trans ?_
    refine (am_cal3 (z := 48) (k := 2) (c := (am_ob x0 7)) rfl rfl rfl rfl rfl rfl rfl rfl).trans ((am_g_t h101).trans ?_)
    refine am_bind_congr fun r104 => ?_
    show am_Ex d 259 18 [(2, x0), (0, x1), (0, x2), (0, x3)] [(0, r104.1), (0, x1)] r104.2 = _
    refine (am_e0 rfl rfl).trans ?_
    refine (am_e0 rfl rfl).trans ?_
    refine (am_e0 rfl rfl).trans ?_
    refine (am_z_ne rfl).trans (am_if_congr (fun c105 => ?_) (fun c105 => ?_))
    · refine (am_e0 rfl rfl).trans ?_
      refine (am_e0 rfl rfl).trans ?_
      refine (am_i_eq rfl).trans (am_if_congr (fun c106 => ?_) (fun c106 => ?_))
      · exact (am_e5 rfl).trans rfl
      · refine (am_e0 rfl rfl).trans ?_
        refine (am_e0 rfl rfl).trans ?_
        refine (am_e0 rfl rfl).trans ?_
        refine (am_cal3 (z := 180) (k := 3) (c := (am_ob x0 7)) rfl rfl rfl rfl rfl rfl rfl rfl).trans ((am_g_t h101).trans ?_)
        refine am_bind_congr fun r107 => ?_
        show am_Ex d 259 29 [(2, x0), (0, x1), (0, x2), (0, x3)] [(0, r107.1)] r107.2 = _
        refine (am_z_eq rfl).trans (am_if_congr (fun c108 => ?_) (fun c108 => ?_))
        · exact (am_e5 rfl).trans rfl
        · exact (am_e5 rfl).trans rfl
    · exact (am_e5 rfl).trans rfl
  · refine (am_e0 rfl rfl).trans ?_
    exact (am_e4i rfl rfl).trans rfl
set_option maxRecDepth 10000 in
theorem aq_259_31 (d : Nat) (x0 x1 x3 : Int) (M : am_M) : am_Ex d 259 31 [(2, x0), (0, x1), am_N, (0, x3)] [] M = (am_Ex d 259 34 [(2, x0), (0, x1), (0, x3), (0, x3)] [] M) := by
  refine (am_e0 rfl rfl).trans ?_
  refine (am_e0 rfl rfl).trans ?_
  exact (am_e5 rfl).trans rfl
set_option maxRecDepth 10000 in
theorem aq_259_34 (d : Nat) (x0 x1 x2 x3 : Int) (M : am_M) : am_Ex d 259 34 [(2, x0), (0, x1), (0, x2), (0, x3)] [] M = (am_let (am_w32 (x3 + 1)) fun v101 => am_Ex d 259 7 [(2, x0), (0, x1), (0, x2), (0, v101)] [] M) := by
  refine (am_e0 rfl rfl).trans ?_
  refine am_lets (L := fun v101 => [(2, x0), (0, x1), (0, x2), (0, v101)]) (fun v101 => ?_)
  refine (am_e1 rfl rfl).trans ?_
  exact (am_e5 rfl).trans rfl
-- 260: UnlearnedHand$Reckoning.mostSold(I)I
set_option maxRecDepth 10000 in
theorem aq_260 (d : Nat) (x0 x1 : Int) (M : am_M) : am_Call d 260 [(2, x0), (0, x1)] M = (am_g (am_ob x0 7) <| (am_Call d 241 [(2, x0)] M).bind fun r102 => am_Ex d 260 7 [(2, x0), (0, x1), (0, 0), (0, 0)] [] r102.2) := by
  show am_Ex d 260 0 [(2, x0), (0, x1), am_N, am_N] [] M = _
  refine (am_e0 rfl rfl).trans ?_
  refine (am_cal3 (z := 241) (k := 1) (c := (am_ob x0 7)) rfl rfl rfl rfl rfl rfl rfl rfl).trans (am_g_congr fun h101 => ?_)
  refine am_bind_congr fun r102 => ?_
  show am_Ex d 260 2 [(2, x0), (0, x1), am_N, am_N] [] r102.2 = _
  refine (am_e0 rfl rfl).trans ?_
  refine (am_e0 rfl rfl).trans ?_
  refine (am_e0 rfl rfl).trans ?_
  refine (am_e0 rfl rfl).trans ?_
  exact (am_e5 rfl).trans rfl
set_option maxRecDepth 10000 in
theorem aq_260_7 (d : Nat) (x0 x1 x2 x3 : Int) (M : am_M) : am_Ex d 260 7 [(2, x0), (0, x1), (0, x2), (0, x3)] [] M = (am_g (am_ob x0 7) <| am_g (am_ob (am_rd M x0 0) 2) <| if x3 < am_shl 1 (am_rd M (am_rd M x0 0) 6) then ((am_Call d 99 [(0, x3)] M).bind fun r104 => if r104.1 ≤ x1 then ((am_Call d 48 [(2, x0), (0, x3)] r104.2).bind fun r106 => am_g (am_ob (am_rd r104.2 x0 0) 2) <| (am_Call d 18 [(2, am_rd r104.2 x0 0), (0, r106.1)] r106.2).bind fun r108 => am_let (max x2 r108.1) fun v109 => am_Ex d 260 28 [(2, x0), (0, x1), (0, v109), (0, x3)] [] r108.2) else (am_Ex d 260 28 [(2, x0), (0, x1), (0, x2), (0, x3)] [] r104.2)) else (some (x2, M))) := by
  refine (am_e0 rfl rfl).trans ?_
  refine (am_e0 rfl rfl).trans ?_
  refine (am_e0 rfl rfl).trans ?_
  refine (am_gf (c := 7) (t := 2) rfl rfl rfl).trans (am_g_congr fun h101 => ?_)
  refine (am_gf (c := 2) (t := 0) rfl rfl rfl).trans (am_g_congr fun h102 => ?_)
  refine (am_e0 rfl rfl).trans ?_
  refine (am_i_ge rfl).trans (am_if_congr (fun c103 => ?_) (fun c103 => ?_))
  · refine (am_e0 rfl rfl).trans ?_
    refine (am_cal3 (z := 99) (k := 1) (c := true) rfl rfl rfl rfl rfl rfl rfl rfl).trans ((am_g_t rfl).trans ?_)
    refine am_bind_congr fun r104 => ?_
    show am_Ex d 260 16 [(2, x0), (0, x1), (0, x2), (0, x3)] [(0, r104.1)] r104.2 = _
    refine (am_e0 rfl rfl).trans ?_
    refine (am_i_gt rfl).trans (am_if_congr (fun c105 => ?_) (fun c105 => ?_))
    · refine (am_e0 rfl rfl).trans ?_
      refine (am_e0 rfl rfl).trans ?_
      refine (am_gf (c := 7) (t := 2) rfl rfl rfl).trans ((am_g_t h101).trans ?_)
      refine (am_e0 rfl rfl).trans ?_
      refine (am_e0 rfl rfl).trans ?_
      refine (am_cal3 (z := 48) (k := 2) (c := (am_ob x0 7)) rfl rfl rfl rfl rfl rfl rfl rfl).trans ((am_g_t h101).trans ?_)
      refine am_bind_congr fun r106 => ?_
      show am_Ex d 260 24 [(2, x0), (0, x1), (0, x2), (0, x3)] [(0, r106.1), (2, am_rd r104.2 x0 0), (0, x2)] r106.2 = _
      refine (am_cal3 (z := 18) (k := 2) (c := (am_ob (am_rd r104.2 x0 0) 2)) rfl rfl rfl rfl rfl rfl rfl rfl).trans (am_g_congr fun h107 => ?_)
      refine am_bind_congr fun r108 => ?_
      show am_Ex d 260 25 [(2, x0), (0, x1), (0, x2), (0, x3)] [(0, r108.1), (0, x2)] r108.2 = _
      refine (am_e10 (w := max x2 r108.1) rfl rfl rfl).trans ?_
      refine (am_e0 rfl rfl).trans ?_
      refine am_lets (L := fun v109 => [(2, x0), (0, x1), (0, v109), (0, x3)]) (fun v109 => ?_)
      exact (am_e5 rfl).trans rfl
    · exact (am_e5 rfl).trans rfl
  · refine (am_e0 rfl rfl).trans ?_
    exact (am_e4i rfl rfl).trans rfl
set_option maxRecDepth 10000 in
theorem aq_260_28 (d : Nat) (x0 x1 x2 x3 : Int) (M : am_M) : am_Ex d 260 28 [(2, x0), (0, x1), (0, x2), (0, x3)] [] M = (am_let (am_w32 (x3 + 1)) fun v101 => am_Ex d 260 7 [(2, x0), (0, x1), (0, x2), (0, v101)] [] M) := by
  refine (am_e0 rfl rfl).trans ?_
  refine am_lets (L := fun v101 => [(2, x0), (0, x1), (0, x2), (0, v101)]) (fun v101 => ?_)
  refine (am_e1 rfl rfl).trans ?_
  exact (am_e5 rfl).trans rfl
-- 261: UnlearnedHand.tried(I)I
set_option maxRecDepth 10000 in
theorem aq_261 (d : Nat) (x0 x1 : Int) (M : am_M) : am_Call d 261 [(2, x0), (0, x1)] M = (am_g (am_ob x0 10) <| am_g (am_ob (am_rd M x0 0) 2) <| (am_Call d 8 [(2, am_rd M x0 0), (0, x1)] M).bind fun r103 => if r103.1 = 0 then (some ((-1), r103.2)) else (am_g (am_ob (am_rd r103.2 x0 2) 3) <| (am_Call d 25 [(2, am_rd r103.2 x0 2), (0, x1)] r103.2).bind fun r106 => if r106.1 = 0 then (am_g (am_ob (am_rd r106.2 x0 4) 9) <| (am_Call d 134 [(2, am_rd r106.2 x0 4), (2, am_rd r106.2 x0 2)] r106.2).bind fun r109 => am_g (am_ob (am_rd r109.2 x0 11) 0) <| (am_Call d 235 [(2, am_rd r109.2 x0 11), (2, am_rd r109.2 x0 2), (0, x1)] r109.2).bind fun r111 => some (r111.1, r111.2)) else (some ((-1), r106.2)))) := by
  show am_Ex d 261 0 [(2, x0), (0, x1)] [] M = _
  refine (am_e0 rfl rfl).trans ?_
  refine (am_gf (c := 10) (t := 2) rfl rfl rfl).trans (am_g_congr fun h101 => ?_)
  refine (am_e0 rfl rfl).trans ?_
  refine (am_cal3 (z := 8) (k := 2) (c := (am_ob (am_rd M x0 0) 2)) rfl rfl rfl rfl rfl rfl rfl rfl).trans (am_g_congr fun h102 => ?_)
  refine am_bind_congr fun r103 => ?_
  show am_Ex d 261 4 [(2, x0), (0, x1)] [(0, r103.1)] r103.2 = _
  refine (am_z_eq rfl).trans (am_if_congr (fun c104 => ?_) (fun c104 => ?_))
  · refine (am_e5 rfl).trans ?_
    show am_Ex d 261 11 [am_N, am_N] [] r103.2 = _
    refine (am_e0 rfl rfl).trans ?_
    exact (am_e4i rfl rfl).trans rfl
  · refine (am_e0 rfl rfl).trans ?_
    refine (am_gf (c := 10) (t := 2) rfl rfl rfl).trans ((am_g_t h101).trans ?_)
    refine (am_e0 rfl rfl).trans ?_
    refine (am_cal3 (z := 25) (k := 2) (c := (am_ob (am_rd r103.2 x0 2) 3)) rfl rfl rfl rfl rfl rfl rfl rfl).trans (am_g_congr fun h105 => ?_)
    refine am_bind_congr fun r106 => ?_
    show am_Ex d 261 9 [(2, x0), (0, x1)] [(0, r106.1)] r106.2 = _
    refine (am_z_eq rfl).trans (am_if_congr (fun c107 => ?_) (fun c107 => ?_))
    · refine (am_e0 rfl rfl).trans ?_
      refine (am_gf (c := 10) (t := 2) rfl rfl rfl).trans ((am_g_t h101).trans ?_)
      refine (am_e0 rfl rfl).trans ?_
      refine (am_gf (c := 10) (t := 2) rfl rfl rfl).trans ((am_g_t h101).trans ?_)
      refine (am_cal3 (z := 134) (k := 2) (c := (am_ob (am_rd r106.2 x0 4) 9)) rfl rfl rfl rfl rfl rfl rfl rfl).trans (am_g_congr fun h108 => ?_)
      refine am_bind_congr fun r109 => ?_
      show am_Ex d 261 18 [(2, x0), (0, x1)] [] r109.2 = _
      refine (am_e0 rfl rfl).trans ?_
      refine (am_gf (c := 10) (t := 2) rfl rfl rfl).trans ((am_g_t h101).trans ?_)
      refine (am_e0 rfl rfl).trans ?_
      refine (am_gf (c := 10) (t := 2) rfl rfl rfl).trans ((am_g_t h101).trans ?_)
      refine (am_e0 rfl rfl).trans ?_
      refine (am_cal3 (z := 235) (k := 3) (c := (am_ob (am_rd r109.2 x0 11) 0)) rfl rfl rfl rfl rfl rfl rfl rfl).trans (am_g_congr fun h110 => ?_)
      refine am_bind_congr fun r111 => ?_
      show am_Ex d 261 24 [(2, x0), (0, x1)] [(0, r111.1)] r111.2 = _
      exact (am_e4i rfl rfl).trans rfl
    · refine (am_e5 rfl).trans ?_
      show am_Ex d 261 11 [am_N, am_N] [] r106.2 = _
      refine (am_e0 rfl rfl).trans ?_
      exact (am_e4i rfl rfl).trans rfl
-- 262: UnlearnedHand.wrongs(IIIII)I
set_option maxRecDepth 10000 in
theorem aq_262 (d : Nat) (x0 x1 x2 x3 x4 x5 : Int) (M : am_M) : am_Call d 262 [(2, x0), (0, x1), (0, x2), (0, x3), (0, x4), (0, x5)] M = (am_g (am_ob x0 10) <| am_g (am_ob (am_rd M x0 0) 2) <| (am_Call d 8 [(2, am_rd M x0 0), (0, x1)] M).bind fun r103 => if r103.1 = 0 then (some ((-1), r103.2)) else (am_g (am_ob (am_rd r103.2 x0 2) 3) <| (am_Call d 25 [(2, am_rd r103.2 x0 2), (0, x1)] r103.2).bind fun r106 => if r106.1 = 0 then (if x2 < 1 then (some ((-1), r106.2)) else (if x2 ≤ 4 then (if x3 < 1 then (some ((-1), r106.2)) else (if x3 ≤ 99 then (if x4 < 0 then (some ((-1), r106.2)) else (if x4 ≤ 8 then (if x5 < (-1) then (some ((-1), r106.2)) else (if x5 < x2 then (am_g (am_ob (am_rd r106.2 x0 12) 1) <| (am_Call d 236 [(2, am_rd r106.2 x0 12), (0, x1), (0, x2), (0, x3)] r106.2).bind fun r117 => am_g (am_ob (am_rd r117.2 x0 12) 1) <| (am_Call d 106 [(2, am_rd r117.2 x0 12), (0, x2), (0, x4), (0, x5)] r117.2).bind fun r119 => some (r119.1, r119.2)) else (some ((-1), r106.2)))) else (some ((-1), r106.2)))) else (some ((-1), r106.2)))) else (some ((-1), r106.2)))) else (some ((-1), r106.2)))) := by
  show am_Ex d 262 0 [(2, x0), (0, x1), (0, x2), (0, x3), (0, x4), (0, x5)] [] M = _
  refine (am_e0 rfl rfl).trans ?_
  refine (am_gf (c := 10) (t := 2) rfl rfl rfl).trans (am_g_congr fun h101 => ?_)
  refine (am_e0 rfl rfl).trans ?_
  refine (am_cal3 (z := 8) (k := 2) (c := (am_ob (am_rd M x0 0) 2)) rfl rfl rfl rfl rfl rfl rfl rfl).trans (am_g_congr fun h102 => ?_)
  refine am_bind_congr fun r103 => ?_
  show am_Ex d 262 4 [(2, x0), (0, x1), (0, x2), (0, x3), (0, x4), (0, x5)] [(0, r103.1)] r103.2 = _
  refine (am_z_eq rfl).trans (am_if_congr (fun c104 => ?_) (fun c104 => ?_))
  · refine (am_e5 rfl).trans ?_
    show am_Ex d 262 17 [am_N, am_N, am_N, am_N, am_N, am_N] [] r103.2 = _
    refine (am_e0 rfl rfl).trans ?_
    exact (am_e4i rfl rfl).trans rfl
  · refine (am_e0 rfl rfl).trans ?_
    refine (am_gf (c := 10) (t := 2) rfl rfl rfl).trans ((am_g_t h101).trans ?_)
    refine (am_e0 rfl rfl).trans ?_
    refine (am_cal3 (z := 25) (k := 2) (c := (am_ob (am_rd r103.2 x0 2) 3)) rfl rfl rfl rfl rfl rfl rfl rfl).trans (am_g_congr fun h105 => ?_)
    refine am_bind_congr fun r106 => ?_
    show am_Ex d 262 9 [(2, x0), (0, x1), (0, x2), (0, x3), (0, x4), (0, x5)] [(0, r106.1)] r106.2 = _
    refine (am_z_ne rfl).trans (am_if_congr (fun c107 => ?_) (fun c107 => ?_))
    · refine (am_e0 rfl rfl).trans ?_
      refine (am_e0 rfl rfl).trans ?_
      refine (am_i_lt rfl).trans (am_if_congr (fun c108 => ?_) (fun c108 => ?_))
      · refine (am_e5 rfl).trans ?_
        show am_Ex d 262 17 [am_N, am_N, am_N, am_N, am_N, am_N] [] r106.2 = _
        refine (am_e0 rfl rfl).trans ?_
        exact (am_e4i rfl rfl).trans rfl
      · refine (am_e0 rfl rfl).trans ?_
        refine (am_e0 rfl rfl).trans ?_
        refine (am_i_le rfl).trans (am_if_congr (fun c109 => ?_) (fun c109 => ?_))
        · refine (am_e0 rfl rfl).trans ?_
          refine (am_e0 rfl rfl).trans ?_
          refine (am_i_lt rfl).trans (am_if_congr (fun c110 => ?_) (fun c110 => ?_))
          · refine (am_e5 rfl).trans ?_
            show am_Ex d 262 37 [am_N, am_N, am_N, am_N, am_N, am_N] [] r106.2 = _
            refine (am_e0 rfl rfl).trans ?_
            exact (am_e4i rfl rfl).trans rfl
          · refine (am_e0 rfl rfl).trans ?_
            refine (am_e0 rfl rfl).trans ?_
            refine (am_i_gt rfl).trans (am_if_congr (fun c111 => ?_) (fun c111 => ?_))
            · refine (am_e0 rfl rfl).trans ?_
              refine (am_z_lt rfl).trans (am_if_congr (fun c112 => ?_) (fun c112 => ?_))
              · refine (am_e5 rfl).trans ?_
                show am_Ex d 262 37 [am_N, am_N, am_N, am_N, am_N, am_N] [] r106.2 = _
                refine (am_e0 rfl rfl).trans ?_
                exact (am_e4i rfl rfl).trans rfl
              · refine (am_e0 rfl rfl).trans ?_
                refine (am_e0 rfl rfl).trans ?_
                refine (am_i_gt rfl).trans (am_if_congr (fun c113 => ?_) (fun c113 => ?_))
                · refine (am_e0 rfl rfl).trans ?_
                  refine (am_e0 rfl rfl).trans ?_
                  refine (am_i_lt rfl).trans (am_if_congr (fun c114 => ?_) (fun c114 => ?_))
                  · refine (am_e5 rfl).trans ?_
                    show am_Ex d 262 37 [am_N, am_N, am_N, am_N, am_N, am_N] [] r106.2 = _
                    refine (am_e0 rfl rfl).trans ?_
                    exact (am_e4i rfl rfl).trans rfl
                  · refine (am_e0 rfl rfl).trans ?_
                    refine (am_e0 rfl rfl).trans ?_
                    refine (am_i_lt rfl).trans (am_if_congr (fun c115 => ?_) (fun c115 => ?_))
                    · refine (am_e0 rfl rfl).trans ?_
                      refine (am_gf (c := 10) (t := 2) rfl rfl rfl).trans ((am_g_t h101).trans ?_)
                      refine (am_e0 rfl rfl).trans ?_
                      refine (am_e0 rfl rfl).trans ?_
                      refine (am_e0 rfl rfl).trans ?_
                      refine (am_cal3 (z := 236) (k := 4) (c := (am_ob (am_rd r106.2 x0 12) 1)) rfl rfl rfl rfl rfl rfl rfl rfl).trans (am_g_congr fun h116 => ?_)
                      refine am_bind_congr fun r117 => ?_
                      show am_Ex d 262 45 [(2, x0), (0, x1), (0, x2), (0, x3), (0, x4), (0, x5)] [] r117.2 = _
                      refine (am_e0 rfl rfl).trans ?_
                      refine (am_gf (c := 10) (t := 2) rfl rfl rfl).trans ((am_g_t h101).trans ?_)
                      refine (am_e0 rfl rfl).trans ?_
                      refine (am_e0 rfl rfl).trans ?_
                      refine (am_e0 rfl rfl).trans ?_
                      refine (am_cal3 (z := 106) (k := 4) (c := (am_ob (am_rd r117.2 x0 12) 1)) rfl rfl rfl rfl rfl rfl rfl rfl).trans (am_g_congr fun h118 => ?_)
                      refine am_bind_congr fun r119 => ?_
                      show am_Ex d 262 51 [(2, x0), (0, x1), (0, x2), (0, x3), (0, x4), (0, x5)] [(0, r119.1)] r119.2 = _
                      exact (am_e4i rfl rfl).trans rfl
                    · refine (am_e5 rfl).trans ?_
                      show am_Ex d 262 37 [am_N, am_N, am_N, am_N, am_N, am_N] [] r106.2 = _
                      refine (am_e0 rfl rfl).trans ?_
                      exact (am_e4i rfl rfl).trans rfl
                · refine (am_e5 rfl).trans ?_
                  show am_Ex d 262 37 [am_N, am_N, am_N, am_N, am_N, am_N] [] r106.2 = _
                  refine (am_e0 rfl rfl).trans ?_
                  exact (am_e4i rfl rfl).trans rfl
            · refine (am_e5 rfl).trans ?_
              show am_Ex d 262 37 [am_N, am_N, am_N, am_N, am_N, am_N] [] r106.2 = _
              refine (am_e0 rfl rfl).trans ?_
              exact (am_e4i rfl rfl).trans rfl
        · refine (am_e5 rfl).trans ?_
          show am_Ex d 262 17 [am_N, am_N, am_N, am_N, am_N, am_N] [] r106.2 = _
          refine (am_e0 rfl rfl).trans ?_
          exact (am_e4i rfl rfl).trans rfl
    · refine (am_e5 rfl).trans ?_
      show am_Ex d 262 17 [am_N, am_N, am_N, am_N, am_N, am_N] [] r106.2 = _
      refine (am_e0 rfl rfl).trans ?_
      exact (am_e4i rfl rfl).trans rfl
-- 263: UnlearnedHand.shammed(IIIZ)J
set_option maxRecDepth 10000 in
theorem aq_263 (d : Nat) (x0 x1 x2 x3 x4 : Int) (M : am_M) : am_Call d 263 [(2, x0), (0, x1), (0, x2), (0, x3), (0, x4)] M = (am_g (am_ob x0 10) <| am_g (am_ob (am_rd M x0 0) 2) <| (am_Call d 8 [(2, am_rd M x0 0), (0, x1)] M).bind fun r103 => if r103.1 = 0 then (some ((-1), r103.2)) else (if x2 < 0 then (some ((-1), r103.2)) else (if x2 ≤ 10 then (if x3 < 0 then (some ((-1), r103.2)) else (if x3 ≤ 10 then (am_g (am_ob (am_rd r103.2 x0 13) 7) <| (am_Call d 240 [(2, am_rd r103.2 x0 13), (0, x1), (0, x2), (0, x3), (0, x4)] r103.2).bind fun r110 => some (r110.1, r110.2)) else (some ((-1), r103.2)))) else (some ((-1), r103.2))))) := by
  show am_Ex d 263 0 [(2, x0), (0, x1), (0, x2), (0, x3), (0, x4)] [] M = _
  refine (am_e0 rfl rfl).trans ?_
  refine (am_gf (c := 10) (t := 2) rfl rfl rfl).trans (am_g_congr fun h101 => ?_)
  refine (am_e0 rfl rfl).trans ?_
  refine (am_cal3 (z := 8) (k := 2) (c := (am_ob (am_rd M x0 0) 2)) rfl rfl rfl rfl rfl rfl rfl rfl).trans (am_g_congr fun h102 => ?_)
  refine am_bind_congr fun r103 => ?_
  show am_Ex d 263 4 [(2, x0), (0, x1), (0, x2), (0, x3), (0, x4)] [(0, r103.1)] r103.2 = _
  refine (am_z_eq rfl).trans (am_if_congr (fun c104 => ?_) (fun c104 => ?_))
  · refine (am_e5 rfl).trans ?_
    show am_Ex d 263 16 [am_N, am_N, am_N, am_N, am_N] [] r103.2 = _
    refine (am_e0 rfl rfl).trans ?_
    exact (am_e4l rfl rfl).trans rfl
  · refine (am_e0 rfl rfl).trans ?_
    refine (am_z_lt rfl).trans (am_if_congr (fun c105 => ?_) (fun c105 => ?_))
    · refine (am_e5 rfl).trans ?_
      show am_Ex d 263 16 [am_N, am_N, am_N, am_N, am_N] [] r103.2 = _
      refine (am_e0 rfl rfl).trans ?_
      exact (am_e4l rfl rfl).trans rfl
    · refine (am_e0 rfl rfl).trans ?_
      refine (am_e0 rfl rfl).trans ?_
      refine (am_i_gt rfl).trans (am_if_congr (fun c106 => ?_) (fun c106 => ?_))
      · refine (am_e0 rfl rfl).trans ?_
        refine (am_z_lt rfl).trans (am_if_congr (fun c107 => ?_) (fun c107 => ?_))
        · refine (am_e5 rfl).trans ?_
          show am_Ex d 263 16 [am_N, am_N, am_N, am_N, am_N] [] r103.2 = _
          refine (am_e0 rfl rfl).trans ?_
          exact (am_e4l rfl rfl).trans rfl
        · refine (am_e0 rfl rfl).trans ?_
          refine (am_e0 rfl rfl).trans ?_
          refine (am_i_le rfl).trans (am_if_congr (fun c108 => ?_) (fun c108 => ?_))
          · refine (am_e0 rfl rfl).trans ?_
            refine (am_gf (c := 10) (t := 2) rfl rfl rfl).trans ((am_g_t h101).trans ?_)
            refine (am_e0 rfl rfl).trans ?_
            refine (am_e0 rfl rfl).trans ?_
            refine (am_e0 rfl rfl).trans ?_
            refine (am_e0 rfl rfl).trans ?_
            refine (am_cal3 (z := 240) (k := 5) (c := (am_ob (am_rd r103.2 x0 13) 7)) rfl rfl rfl rfl rfl rfl rfl rfl).trans (am_g_congr fun h109 => ?_)
            refine am_bind_congr fun r110 => ?_
            show am_Ex d 263 25 [(2, x0), (0, x1), (0, x2), (0, x3), (0, x4)] [(1, r110.1)] r110.2 = _
            exact (am_e4l rfl rfl).trans rfl
          · refine (am_e5 rfl).trans ?_
            show am_Ex d 263 16 [am_N, am_N, am_N, am_N, am_N] [] r103.2 = _
            refine (am_e0 rfl rfl).trans ?_
            exact (am_e4l rfl rfl).trans rfl
      · refine (am_e5 rfl).trans ?_
        show am_Ex d 263 16 [am_N, am_N, am_N, am_N, am_N] [] r103.2 = _
        refine (am_e0 rfl rfl).trans ?_
        exact (am_e4l rfl rfl).trans rfl
