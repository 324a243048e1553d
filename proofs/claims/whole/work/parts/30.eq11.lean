/-! equations of the methods 264 .. 275 -/
-- 264: UnlearnedHandModel.doing()V
set_option maxRecDepth 10000 in
theorem aq_264 (d : Nat) (x0 : Int) (M : am_M) : am_Call d 264 [(2, x0)] M = (am_g (am_ob x0 11) <| if am_rd M x0 30 = 11 then ((am_Call d 220 [(2, x0), (0, 1), (0, 60)] M).bind fun r103 => if am_rd r103.2 x0 30 = 4 then ((am_Call d 250 [(2, x0), (0, 12), (0, 0), (0, 7)] r103.2).bind fun r105 => (am_Call d 250 [(2, x0), (0, 13), (0, 1), (0, 99)] r105.2).bind fun r106 => am_Ex d 264 56 [(2, x0), (0, r103.1), (0, r105.1), (0, r106.1)] [] r106.2) else if am_rd r103.2 x0 30 = 5 then ((am_Call d 250 [(2, x0), (0, 12), (0, 0), (0, 7)] r103.2).bind fun r108 => (am_Call d 250 [(2, x0), (0, 13), (0, 1), (0, 99)] r108.2).bind fun r109 => am_Ex d 264 56 [(2, x0), (0, r103.1), (0, r108.1), (0, r109.1)] [] r109.2) else if am_rd r103.2 x0 30 = 6 then (am_Ex d 264 56 [(2, x0), (0, r103.1), (0, (-1)), (0, (-1))] [] r103.2) else if am_rd r103.2 x0 30 = 7 then ((am_Call d 250 [(2, x0), (0, 14), (0, 0), (0, 7)] r103.2).bind fun r112 => am_Ex d 264 56 [(2, x0), (0, r103.1), (0, r112.1), (0, (-1))] [] r112.2) else if am_rd r103.2 x0 30 = 8 then ((am_Call d 250 [(2, x0), (0, 15), (0, 0), (0, 7)] r103.2).bind fun r114 => am_Ex d 264 56 [(2, x0), (0, r103.1), (0, r114.1), (0, (-1))] [] r114.2) else if am_rd r103.2 x0 30 = 9 then ((am_Call d 250 [(2, x0), (0, 13), (0, 0), (0, 5)] r103.2).bind fun r116 => am_Ex d 264 56 [(2, x0), (0, r103.1), (0, r116.1), (0, (-1))] [] r116.2) else (am_Ex d 264 56 [(2, x0), (0, r103.1), (0, (-1)), (0, (-1))] [] r103.2)) else ((am_Call d 220 [(2, x0), (0, 0), (0, 5)] M).bind fun r117 => if am_rd r117.2 x0 30 = 4 then ((am_Call d 250 [(2, x0), (0, 12), (0, 0), (0, 7)] r117.2).bind fun r119 => (am_Call d 250 [(2, x0), (0, 13), (0, 1), (0, 99)] r119.2).bind fun r120 => am_Ex d 264 56 [(2, x0), (0, r117.1), (0, r119.1), (0, r120.1)] [] r120.2) else if am_rd r117.2 x0 30 = 5 then ((am_Call d 250 [(2, x0), (0, 12), (0, 0), (0, 7)] r117.2).bind fun r122 => (am_Call d 250 [(2, x0), (0, 13), (0, 1), (0, 99)] r122.2).bind fun r123 => am_Ex d 264 56 [(2, x0), (0, r117.1), (0, r122.1), (0, r123.1)] [] r123.2) else if am_rd r117.2 x0 30 = 6 then (am_Ex d 264 56 [(2, x0), (0, r117.1), (0, (-1)), (0, (-1))] [] r117.2) else if am_rd r117.2 x0 30 = 7 then ((am_Call d 250 [(2, x0), (0, 14), (0, 0), (0, 7)] r117.2).bind fun r126 => am_Ex d 264 56 [(2, x0), (0, r117.1), (0, r126.1), (0, (-1))] [] r126.2) else if am_rd r117.2 x0 30 = 8 then ((am_Call d 250 [(2, x0), (0, 15), (0, 0), (0, 7)] r117.2).bind fun r128 => am_Ex d 264 56 [(2, x0), (0, r117.1), (0, r128.1), (0, (-1))] [] r128.2) else if am_rd r117.2 x0 30 = 9 then ((am_Call d 250 [(2, x0), (0, 13), (0, 0), (0, 5)] r117.2).bind fun r130 => am_Ex d 264 56 [(2, x0), (0, r117.1), (0, r130.1), (0, (-1))] [] r130.2) else (am_Ex d 264 56 [(2, x0), (0, r117.1), (0, (-1)), (0, (-1))] [] r117.2))) := by
  show am_Ex d 264 0 [(2, x0), am_N, am_N, am_N] [] M = _
  refine (am_e0 rfl rfl).trans ?_
  refine (am_gf (c := 11) (t := 0) rfl rfl rfl).trans (am_g_congr fun h101 => ?_)
  refine (am_e0 rfl rfl).trans ?_
  refine (am_i_ne rfl).trans (am_if_congr (fun c102 => ?_) (fun c102 => ?_))
  · refine (am_e0 rfl rfl).trans ?_
    refine (am_e0 rfl rfl).trans ?_
    refine (am_e0 rfl rfl).trans ?_
    refine (am_cal3 (z := 220) (k := 3) (c := (am_ob x0 11)) rfl rfl rfl rfl rfl rfl rfl rfl).trans ((am_g_t h101).trans ?_)
    refine am_bind_congr fun r103 => ?_
    show am_Ex d 264 8 [(2, x0), am_N, am_N, am_N] [(0, r103.1)] r103.2 = _
    refine (am_e1 rfl rfl).trans ?_
    refine (am_e0 rfl rfl).trans ?_
    refine (am_e0 rfl rfl).trans ?_
    refine (am_e0 rfl rfl).trans ?_
    refine (am_e0 rfl rfl).trans ?_
    refine (am_e0 rfl rfl).trans ?_
    refine (am_e0 rfl rfl).trans ?_
    refine (am_gf (c := 11) (t := 0) rfl rfl rfl).trans ((am_g_t h101).trans ?_)
    refine (am_tsw rfl).trans ?_
    refine (am_sw_c).trans (am_if_congr (fun c104 => ?_) (fun c104 => ?_))
    · refine (am_e0 rfl rfl).trans ?_
      refine (am_e0 rfl rfl).trans ?_
      refine (am_e0 rfl rfl).trans ?_
      refine (am_e0 rfl rfl).trans ?_
      refine (am_cal3 (z := 250) (k := 4) (c := (am_ob x0 11)) rfl rfl rfl rfl rfl rfl rfl rfl).trans ((am_g_t h101).trans ?_)
      refine am_bind_congr fun r105 => ?_
      show am_Ex d 264 26 [(2, x0), (0, r103.1), (0, (-1)), (0, (-1))] [(0, r105.1)] r105.2 = _
      refine (am_e0 rfl rfl).trans ?_
      refine (am_e0 rfl rfl).trans ?_
      refine (am_e0 rfl rfl).trans ?_
      refine (am_e0 rfl rfl).trans ?_
      refine (am_e0 rfl rfl).trans ?_
      refine (am_cal3 (z := 250) (k := 4) (c := (am_ob x0 11)) rfl rfl rfl rfl rfl rfl rfl rfl).trans ((am_g_t h101).trans ?_)
      refine am_bind_congr fun r106 => ?_
      show am_Ex d 264 32 [(2, x0), (0, r103.1), (0, r105.1), (0, (-1))] [(0, r106.1)] r106.2 = _
      refine (am_e0 rfl rfl).trans ?_
      refine (am_e1 rfl rfl).trans ?_
      exact (am_e5 rfl).trans rfl
    refine (am_sw_c).trans (am_if_congr (fun c107 => ?_) (fun c107 => ?_))
    · refine (am_e0 rfl rfl).trans ?_
      refine (am_e0 rfl rfl).trans ?_
      refine (am_e0 rfl rfl).trans ?_
      refine (am_e0 rfl rfl).trans ?_
      refine (am_cal3 (z := 250) (k := 4) (c := (am_ob x0 11)) rfl rfl rfl rfl rfl rfl rfl rfl).trans ((am_g_t h101).trans ?_)
      refine am_bind_congr fun r108 => ?_
      show am_Ex d 264 26 [(2, x0), (0, r103.1), (0, (-1)), (0, (-1))] [(0, r108.1)] r108.2 = _
      refine (am_e0 rfl rfl).trans ?_
      refine (am_e0 rfl rfl).trans ?_
      refine (am_e0 rfl rfl).trans ?_
      refine (am_e0 rfl rfl).trans ?_
      refine (am_e0 rfl rfl).trans ?_
      refine (am_cal3 (z := 250) (k := 4) (c := (am_ob x0 11)) rfl rfl rfl rfl rfl rfl rfl rfl).trans ((am_g_t h101).trans ?_)
      refine am_bind_congr fun r109 => ?_
      show am_Ex d 264 32 [(2, x0), (0, r103.1), (0, r108.1), (0, (-1))] [(0, r109.1)] r109.2 = _
      refine (am_e0 rfl rfl).trans ?_
      refine (am_e1 rfl rfl).trans ?_
      exact (am_e5 rfl).trans rfl
    refine (am_sw_c).trans (am_if_congr (fun c110 => ?_) (fun c110 => ?_))
    · exact (am_e5 rfl).trans rfl
    refine (am_sw_c).trans (am_if_congr (fun c111 => ?_) (fun c111 => ?_))
    · refine (am_e0 rfl rfl).trans ?_
      refine (am_e0 rfl rfl).trans ?_
      refine (am_e0 rfl rfl).trans ?_
      refine (am_e0 rfl rfl).trans ?_
      refine (am_cal3 (z := 250) (k := 4) (c := (am_ob x0 11)) rfl rfl rfl rfl rfl rfl rfl rfl).trans ((am_g_t h101).trans ?_)
      refine am_bind_congr fun r112 => ?_
      show am_Ex d 264 39 [(2, x0), (0, r103.1), (0, (-1)), (0, (-1))] [(0, r112.1)] r112.2 = _
      refine (am_e0 rfl rfl).trans ?_
      refine (am_e1 rfl rfl).trans ?_
      exact (am_e5 rfl).trans rfl
    refine (am_sw_c).trans (am_if_congr (fun c113 => ?_) (fun c113 => ?_))
    · refine (am_e0 rfl rfl).trans ?_
      refine (am_e0 rfl rfl).trans ?_
      refine (am_e0 rfl rfl).trans ?_
      refine (am_e0 rfl rfl).trans ?_
      refine (am_cal3 (z := 250) (k := 4) (c := (am_ob x0 11)) rfl rfl rfl rfl rfl rfl rfl rfl).trans ((am_g_t h101).trans ?_)
      refine am_bind_congr fun r114 => ?_
      show am_Ex d 264 46 [(2, x0), (0, r103.1), (0, (-1)), (0, (-1))] [(0, r114.1)] r114.2 = _
      refine (am_e0 rfl rfl).trans ?_
      refine (am_e1 rfl rfl).trans ?_
      exact (am_e5 rfl).trans rfl
    refine (am_sw_c).trans (am_if_congr (fun c115 => ?_) (fun c115 => ?_))
    · refine (am_e0 rfl rfl).trans ?_
      refine (am_e0 rfl rfl).trans ?_
      refine (am_e0 rfl rfl).trans ?_
      refine (am_e0 rfl rfl).trans ?_
      refine (am_cal3 (z := 250) (k := 4) (c := (am_ob x0 11)) rfl rfl rfl rfl rfl rfl rfl rfl).trans ((am_g_t h101).trans ?_)
      refine am_bind_congr fun r116 => ?_
      show am_Ex d 264 53 [(2, x0), (0, r103.1), (0, (-1)), (0, (-1))] [(0, r116.1)] r116.2 = _
      refine (am_e0 rfl rfl).trans ?_
      refine (am_e1 rfl rfl).trans ?_
      exact (am_e5 rfl).trans rfl
    refine (am_sw_n).trans ?_
    exact (am_e5 rfl).trans rfl
  · refine (am_e0 rfl rfl).trans ?_
    refine (am_e0 rfl rfl).trans ?_
    refine (am_e0 rfl rfl).trans ?_
    refine (am_cal3 (z := 220) (k := 3) (c := (am_ob x0 11)) rfl rfl rfl rfl rfl rfl rfl rfl).trans ((am_g_t h101).trans ?_)
    refine am_bind_congr fun r117 => ?_
    show am_Ex d 264 13 [(2, x0), am_N, am_N, am_N] [(0, r117.1)] r117.2 = _
    refine (am_e0 rfl rfl).trans ?_
    refine (am_e0 rfl rfl).trans ?_
    refine (am_e0 rfl rfl).trans ?_
    refine (am_e0 rfl rfl).trans ?_
    refine (am_e0 rfl rfl).trans ?_
    refine (am_e0 rfl rfl).trans ?_
    refine (am_gf (c := 11) (t := 0) rfl rfl rfl).trans ((am_g_t h101).trans ?_)
    refine (am_tsw rfl).trans ?_
    refine (am_sw_c).trans (am_if_congr (fun c118 => ?_) (fun c118 => ?_))
    · refine (am_e0 rfl rfl).trans ?_
      refine (am_e0 rfl rfl).trans ?_
      refine (am_e0 rfl rfl).trans ?_
      refine (am_e0 rfl rfl).trans ?_
      refine (am_cal3 (z := 250) (k := 4) (c := (am_ob x0 11)) rfl rfl rfl rfl rfl rfl rfl rfl).trans ((am_g_t h101).trans ?_)
      refine am_bind_congr fun r119 => ?_
      show am_Ex d 264 26 [(2, x0), (0, r117.1), (0, (-1)), (0, (-1))] [(0, r119.1)] r119.2 = _
      refine (am_e0 rfl rfl).trans ?_
      refine (am_e0 rfl rfl).trans ?_
      refine (am_e0 rfl rfl).trans ?_
      refine (am_e0 rfl rfl).trans ?_
      refine (am_e0 rfl rfl).trans ?_
      refine (am_cal3 (z := 250) (k := 4) (c := (am_ob x0 11)) rfl rfl rfl rfl rfl rfl rfl rfl).trans ((am_g_t h101).trans ?_)
      refine am_bind_congr fun r120 => ?_
      show am_Ex d 264 32 [(2, x0), (0, r117.1), (0, r119.1), (0, (-1))] [(0, r120.1)] r120.2 = _
      refine (am_e0 rfl rfl).trans ?_
      refine (am_e1 rfl rfl).trans ?_
      exact (am_e5 rfl).trans rfl
    refine (am_sw_c).trans (am_if_congr (fun c121 => ?_) (fun c121 => ?_))
    · refine (am_e0 rfl rfl).trans ?_
      refine (am_e0 rfl rfl).trans ?_
      refine (am_e0 rfl rfl).trans ?_
      refine (am_e0 rfl rfl).trans ?_
      refine (am_cal3 (z := 250) (k := 4) (c := (am_ob x0 11)) rfl rfl rfl rfl rfl rfl rfl rfl).trans ((am_g_t h101).trans ?_)
      refine am_bind_congr fun r122 => ?_
      show am_Ex d 264 26 [(2, x0), (0, r117.1), (0, (-1)), (0, (-1))] [(0, r122.1)] r122.2 = _
      refine (am_e0 rfl rfl).trans ?_
      refine (am_e0 rfl rfl).trans ?_
      refine (am_e0 rfl rfl).trans ?_
      refine (am_e0 rfl rfl).trans ?_
      refine (am_e0 rfl rfl).trans ?_
      refine (am_cal3 (z := 250) (k := 4) (c := (am_ob x0 11)) rfl rfl rfl rfl rfl rfl rfl rfl).trans ((am_g_t h101).trans ?_)
      refine am_bind_congr fun r123 => ?_
      show am_Ex d 264 32 [(2, x0), (0, r117.1), (0, r122.1), (0, (-1))] [(0, r123.1)] r123.2 = _
      refine (am_e0 rfl rfl).trans ?_
      refine (am_e1 rfl rfl).trans ?_
      exact (am_e5 rfl).trans rfl
    refine (am_sw_c).trans (am_if_congr (fun c124 => ?_) (fun c124 => ?_))
    · exact (am_e5 rfl).trans rfl
    refine (am_sw_c).trans (am_if_congr (fun c125 => ?_) (fun c125 => ?_))
    · refine (am_e0 rfl rfl).trans ?_
      refine (am_e0 rfl rfl).trans ?_
      refine (am_e0 rfl rfl).trans ?_
      refine (am_e0 rfl rfl).trans ?_
      refine (am_cal3 (z := 250) (k := 4) (c := (am_ob x0 11)) rfl rfl rfl rfl rfl rfl rfl rfl).trans ((am_g_t h101).trans ?_)
      refine am_bind_congr fun r126 => ?_
      show am_Ex d 264 39 [(2, x0), (0, r117.1), (0, (-1)), (0, (-1))] [(0, r126.1)] r126.2 = _
      refine (am_e0 rfl rfl).trans ?_
      refine (am_e1 rfl rfl).trans ?_
      exact (am_e5 rfl).trans rfl
    refine (am_sw_c).trans (am_if_congr (fun c127 => ?_) (fun c127 => ?_))
    · refine (am_e0 rfl rfl).trans ?_
      refine (am_e0 rfl rfl).trans ?_
      refine (am_e0 rfl rfl).trans ?_
      refine (am_e0 rfl rfl).trans ?_
      refine (am_cal3 (z := 250) (k := 4) (c := (am_ob x0 11)) rfl rfl rfl rfl rfl rfl rfl rfl).trans ((am_g_t h101).trans ?_)
      refine am_bind_congr fun r128 => ?_
      show am_Ex d 264 46 [(2, x0), (0, r117.1), (0, (-1)), (0, (-1))] [(0, r128.1)] r128.2 = _
      refine (am_e0 rfl rfl).trans ?_
      refine (am_e1 rfl rfl).trans ?_
      exact (am_e5 rfl).trans rfl
    refine (am_sw_c).trans (am_if_congr (fun c129 => ?_) (fun c129 => ?_))
    · refine (am_e0 rfl rfl).trans ?_
      refine (am_e0 rfl rfl).trans ?_
      refine (am_e0 rfl rfl).trans ?_
      refine (am_e0 rfl rfl).trans ?_
      refine (am_cal3 (z := 250) (k := 4) (c := (am_ob x0 11)) rfl rfl rfl rfl rfl rfl rfl rfl).trans ((am_g_t h101).trans ?_)
      refine am_bind_congr fun r130 => ?_
      show am_Ex d 264 53 [(2, x0), (0, r117.1), (0, (-1)), (0, (-1))] [(0, r130.1)] r130.2 = _
      refine (am_e0 rfl rfl).trans ?_
      refine (am_e1 rfl rfl).trans ?_
      exact (am_e5 rfl).trans rfl
    refine (am_sw_n).trans ?_
    exact (am_e5 rfl).trans rfl
set_option maxRecDepth 10000 in
theorem aq_264_56 (d : Nat) (x0 x1 x2 x3 : Int) (M : am_M) : am_Ex d 264 56 [(2, x0), (0, x1), (0, x2), (0, x3)] [] M = (am_g (am_ob x0 11) <| am_g (am_ar (am_rd M x0 33) 20 (am_rd M x0 29)) <| am_let (am_wr M (am_rd M x0 33) (am_rd M x0 29) x1) fun M103 => am_g (am_ar (am_rd M103 x0 34) 20 (am_rd M103 x0 29)) <| am_let (am_wr M103 (am_rd M103 x0 34) (am_rd M103 x0 29) x2) fun M105 => am_g (am_ar (am_rd M105 x0 35) 20 (am_rd M105 x0 29)) <| am_let (am_wr M105 (am_rd M105 x0 35) (am_rd M105 x0 29) x3) fun M107 => some (0, M107)) := by
  refine (am_e0 rfl rfl).trans ?_
  refine (am_gf (c := 11) (t := 2) rfl rfl rfl).trans (am_g_congr fun h101 => ?_)
  refine (am_e0 rfl rfl).trans ?_
  refine (am_gf (c := 11) (t := 0) rfl rfl rfl).trans ((am_g_t h101).trans ?_)
  refine (am_e0 rfl rfl).trans ?_
  refine (am_ias rfl).trans (am_g_congr fun h102 => ?_)
  refine am_letm (fun M103 => ?_)
  refine (am_e0 rfl rfl).trans ?_
  refine (am_gf (c := 11) (t := 2) rfl rfl rfl).trans ((am_g_t h101).trans ?_)
  refine (am_e0 rfl rfl).trans ?_
  refine (am_gf (c := 11) (t := 0) rfl rfl rfl).trans ((am_g_t h101).trans ?_)
  refine (am_e0 rfl rfl).trans ?_
  refine (am_ias rfl).trans (am_g_congr fun h104 => ?_)
  refine am_letm (fun M105 => ?_)
  refine (am_e0 rfl rfl).trans ?_
  refine (am_gf (c := 11) (t := 2) rfl rfl rfl).trans ((am_g_t h101).trans ?_)
  refine (am_e0 rfl rfl).trans ?_
  refine (am_gf (c := 11) (t := 0) rfl rfl rfl).trans ((am_g_t h101).trans ?_)
  refine (am_e0 rfl rfl).trans ?_
  refine (am_ias rfl).trans (am_g_congr fun h106 => ?_)
  refine am_letm (fun M107 => ?_)
  exact (am_e4v rfl rfl).trans rfl
-- 265: UnlearnedHandModel.triesNow(I)I
set_option maxRecDepth 10000 in
theorem aq_265 (d : Nat) (x0 x1 : Int) (M : am_M) : am_Call d 265 [(2, x0), (0, x1)] M = (am_g (am_ob x0 11) <| (am_Call d 251 [(2, x0), (0, x1)] M).bind fun r102 => (am_Call d 66 [(0, r102.1)] r102.2).bind fun r103 => am_g (am_ar (am_rd r103.2 x0 0) 20 7) <| if r103.1 ≤ am_rd r103.2 (am_rd r103.2 x0 0) 7 then (am_g (am_ar (am_rd r103.2 x0 46) 20 x1) <| am_let (am_wr r103.2 (am_rd r103.2 x0 46) x1 1) fun M107 => some (r103.1, M107)) else (am_g (am_ar (am_rd r103.2 x0 46) 20 x1) <| am_let (am_wr r103.2 (am_rd r103.2 x0 46) x1 0) fun M109 => some (r103.1, M109))) := by
  show am_Ex d 265 0 [(2, x0), (0, x1), am_N] [] M = _
  refine (am_e0 rfl rfl).trans ?_
  refine (am_e0 rfl rfl).trans ?_
  refine (am_cal3 (z := 251) (k := 2) (c := (am_ob x0 11)) rfl rfl rfl rfl rfl rfl rfl rfl).trans (am_g_congr fun h101 => ?_)
  refine am_bind_congr fun r102 => ?_
  show am_Ex d 265 3 [(2, x0), (0, x1), am_N] [(0, r102.1)] r102.2 = _
  refine (am_cal3 (z := 66) (k := 1) (c := true) rfl rfl rfl rfl rfl rfl rfl rfl).trans ((am_g_t rfl).trans ?_)
  refine am_bind_congr fun r103 => ?_
  show am_Ex d 265 4 [(2, x0), (0, x1), am_N] [(0, r103.1)] r103.2 = _
  refine (am_e0 rfl rfl).trans ?_
  refine (am_e0 rfl rfl).trans ?_
  refine (am_gf (c := 11) (t := 2) rfl rfl rfl).trans ((am_g_t h101).trans ?_)
  refine (am_e0 rfl rfl).trans ?_
  refine (am_e0 rfl rfl).trans ?_
  refine (am_e0 rfl rfl).trans ?_
  refine (am_gf (c := 11) (t := 2) rfl rfl rfl).trans ((am_g_t h101).trans ?_)
  refine (am_e0 rfl rfl).trans ?_
  refine (am_ial rfl).trans (am_g_congr fun h104 => ?_)
  refine (am_i_gt rfl).trans (am_if_congr (fun c105 => ?_) (fun c105 => ?_))
  · refine (am_e0 rfl rfl).trans ?_
    refine (am_e1 rfl rfl).trans ?_
    refine (am_ias rfl).trans (am_g_congr fun h106 => ?_)
    refine am_letm (fun M107 => ?_)
    refine (am_e0 rfl rfl).trans ?_
    exact (am_e4i rfl rfl).trans rfl
  · refine (am_e0 rfl rfl).trans ?_
    refine (am_ias rfl).trans (am_g_congr fun h108 => ?_)
    refine am_letm (fun M109 => ?_)
    refine (am_e0 rfl rfl).trans ?_
    exact (am_e4i rfl rfl).trans rfl
-- 266: UnlearnedHandModel.misleads(III)V
set_option maxRecDepth 10000 in
theorem aq_266 (d : Nat) (x0 x1 x2 x3 : Int) (M : am_M) : am_Call d 266 [(2, x0), (0, x1), (0, x2), (0, x3)] M = (am_g (am_ob x0 11) <| (am_Call d 88 [(2, x0)] M).bind fun r102 => (am_Call d 254 [(2, x0), (0, x1), (0, x2), (0, x3)] r102.2).bind fun r103 => (am_Call d 89 [(2, x0)] r103.2).bind fun r104 => some (0, r104.2)) := by
  show am_Ex d 266 0 [(2, x0), (0, x1), (0, x2), (0, x3)] [] M = _
  refine (am_e0 rfl rfl).trans ?_
  refine (am_cal3 (z := 88) (k := 1) (c := (am_ob x0 11)) rfl rfl rfl rfl rfl rfl rfl rfl).trans (am_g_congr fun h101 => ?_)
  refine am_bind_congr fun r102 => ?_
  show am_Ex d 266 2 [(2, x0), (0, x1), (0, x2), (0, x3)] [] r102.2 = _
  refine (am_e0 rfl rfl).trans ?_
  refine (am_e0 rfl rfl).trans ?_
  refine (am_e0 rfl rfl).trans ?_
  refine (am_e0 rfl rfl).trans ?_
  refine (am_cal3 (z := 254) (k := 4) (c := (am_ob x0 11)) rfl rfl rfl rfl rfl rfl rfl rfl).trans ((am_g_t h101).trans ?_)
  refine am_bind_congr fun r103 => ?_
  show am_Ex d 266 7 [(2, x0), (0, x1), (0, x2), (0, x3)] [] r103.2 = _
  refine (am_e0 rfl rfl).trans ?_
  refine (am_cal3 (z := 89) (k := 1) (c := (am_ob x0 11)) rfl rfl rfl rfl rfl rfl rfl rfl).trans ((am_g_t h101).trans ?_)
  refine am_bind_congr fun r104 => ?_
  show am_Ex d 266 9 [(2, x0), (0, x1), (0, x2), (0, x3)] [] r104.2 = _
  exact (am_e4v rfl rfl).trans rfl
-- 267: UnlearnedHandModel.of(II)I
set_option maxRecDepth 10000 in
theorem aq_267 (d : Nat) (x0 x1 x2 : Int) (M : am_M) : am_Call d 267 [(2, x0), (0, x1), (0, x2)] M = (am_g (am_ob x0 11) <| (am_Call d 144 [(2, x0), (0, x1)] M).bind fun r102 => if r102.1 = 0 then (some ((-2), r102.2)) else ((am_Call d 88 [(2, x0)] r102.2).bind fun r104 => if x2 = 0 then (am_g (am_ar (am_rd r104.2 x0 0) 20 (am_w32 (26 + x1))) <| some (am_rd r104.2 (am_rd r104.2 x0 0) (am_w32 (26 + x1)), r104.2)) else if x2 = 1 then ((am_Call d 251 [(2, x0), (0, x1)] r104.2).bind fun r108 => some (r108.1, r108.2)) else if x2 = 2 then (am_g (am_ar (am_rd r104.2 x0 44) 20 x1) <| some (am_rd r104.2 (am_rd r104.2 x0 44) x1, r104.2)) else if x2 = 3 then (am_g (am_ar (am_rd r104.2 x0 45) 20 x1) <| some (am_rd r104.2 (am_rd r104.2 x0 45) x1, r104.2)) else if x2 = 4 then (am_g (am_ar (am_rd r104.2 x0 46) 20 x1) <| some (am_rd r104.2 (am_rd r104.2 x0 46) x1, r104.2)) else (some ((-2), r104.2)))) := by
  show am_Ex d 267 0 [(2, x0), (0, x1), (0, x2)] [] M = _
  refine (am_e0 rfl rfl).trans ?_
  refine (am_e0 rfl rfl).trans ?_
  refine (am_cal3 (z := 144) (k := 2) (c := (am_ob x0 11)) rfl rfl rfl rfl rfl rfl rfl rfl).trans (am_g_congr fun h101 => ?_)
  refine am_bind_congr fun r102 => ?_
  show am_Ex d 267 3 [(2, x0), (0, x1), (0, x2)] [(0, r102.1)] r102.2 = _
  refine (am_z_ne rfl).trans (am_if_congr (fun c103 => ?_) (fun c103 => ?_))
  · refine (am_e0 rfl rfl).trans ?_
    exact (am_e4i rfl rfl).trans rfl
  · refine (am_e0 rfl rfl).trans ?_
    refine (am_cal3 (z := 88) (k := 1) (c := (am_ob x0 11)) rfl rfl rfl rfl rfl rfl rfl rfl).trans ((am_g_t h101).trans ?_)
    refine am_bind_congr fun r104 => ?_
    show am_Ex d 267 8 [(2, x0), (0, x1), (0, x2)] [] r104.2 = _
    refine (am_e0 rfl rfl).trans ?_
    refine (am_tsw rfl).trans ?_
    refine (am_sw_c).trans (am_if_congr (fun c105 => ?_) (fun c105 => ?_))
    · refine (am_e0 rfl rfl).trans ?_
      refine (am_gf (c := 11) (t := 2) rfl rfl rfl).trans ((am_g_t h101).trans ?_)
      refine (am_e0 rfl rfl).trans ?_
      refine (am_e0 rfl rfl).trans ?_
      refine (am_e0 rfl rfl).trans ?_
      refine (am_ial rfl).trans (am_g_congr fun h106 => ?_)
      exact (am_e4i rfl rfl).trans rfl
    refine (am_sw_c).trans (am_if_congr (fun c107 => ?_) (fun c107 => ?_))
    · refine (am_e0 rfl rfl).trans ?_
      refine (am_e0 rfl rfl).trans ?_
      refine (am_cal3 (z := 251) (k := 2) (c := (am_ob x0 11)) rfl rfl rfl rfl rfl rfl rfl rfl).trans ((am_g_t h101).trans ?_)
      refine am_bind_congr fun r108 => ?_
      show am_Ex d 267 20 [(2, x0), (0, x1), (0, x2)] [(0, r108.1)] r108.2 = _
      exact (am_e4i rfl rfl).trans rfl
    refine (am_sw_c).trans (am_if_congr (fun c109 => ?_) (fun c109 => ?_))
    · refine (am_e0 rfl rfl).trans ?_
      refine (am_gf (c := 11) (t := 2) rfl rfl rfl).trans ((am_g_t h101).trans ?_)
      refine (am_e0 rfl rfl).trans ?_
      refine (am_ial rfl).trans (am_g_congr fun h110 => ?_)
      exact (am_e4i rfl rfl).trans rfl
    refine (am_sw_c).trans (am_if_congr (fun c111 => ?_) (fun c111 => ?_))
    · refine (am_e0 rfl rfl).trans ?_
      refine (am_gf (c := 11) (t := 2) rfl rfl rfl).trans ((am_g_t h101).trans ?_)
      refine (am_e0 rfl rfl).trans ?_
      refine (am_ial rfl).trans (am_g_congr fun h112 => ?_)
      exact (am_e4i rfl rfl).trans rfl
    refine (am_sw_c).trans (am_if_congr (fun c113 => ?_) (fun c113 => ?_))
    · refine (am_e0 rfl rfl).trans ?_
      refine (am_gf (c := 11) (t := 2) rfl rfl rfl).trans ((am_g_t h101).trans ?_)
      refine (am_e0 rfl rfl).trans ?_
      refine (am_ial rfl).trans (am_g_congr fun h114 => ?_)
      exact (am_e4i rfl rfl).trans rfl
    refine (am_sw_n).trans ?_
    refine (am_e0 rfl rfl).trans ?_
    exact (am_e4i rfl rfl).trans rfl
-- 268: UnlearnedHandModel.leftBy(III)I
set_option maxRecDepth 10000 in
theorem aq_268 (d : Nat) (x0 x1 x2 x3 : Int) (M : am_M) : am_Call d 268 [(2, x0), (0, x1), (0, x2), (0, x3)] M = (am_g (am_ob x0 11) <| (am_Call d 88 [(2, x0)] M).bind fun r102 => am_Ex d 268 5 [(2, x0), (0, x1), (0, x2), (0, x3), (0, 0)] [] r102.2) := by
  show am_Ex d 268 0 [(2, x0), (0, x1), (0, x2), (0, x3), am_N] [] M = _
  refine (am_e0 rfl rfl).trans ?_
  refine (am_cal3 (z := 88) (k := 1) (c := (am_ob x0 11)) rfl rfl rfl rfl rfl rfl rfl rfl).trans (am_g_congr fun h101 => ?_)
  refine am_bind_congr fun r102 => ?_
  show am_Ex d 268 2 [(2, x0), (0, x1), (0, x2), (0, x3), am_N] [] r102.2 = _
  refine (am_e0 rfl rfl).trans ?_
  refine (am_e0 rfl rfl).trans ?_
  exact (am_e5 rfl).trans rfl
set_option maxRecDepth 10000 in
theorem aq_268_5 (d : Nat) (x0 x1 x2 x3 x4 : Int) (M : am_M) : am_Ex d 268 5 [(2, x0), (0, x1), (0, x2), (0, x3), (0, x4)] [] M = (if x4 < x2 then (am_g (am_ob x0 11) <| am_g (am_ar (am_rd M x0 48) 20 x4) <| if am_rd M (am_rd M x0 48) x4 ≤ 0 then (am_Ex d 268 24 [(2, x0), (0, x1), (0, x2), (0, x3), (0, x4)] [] M) else ((am_Call d 254 [(2, x0), (0, x1), (0, am_w32 ((am_rd M (am_rd M x0 48) x4) - 1)), (0, x3)] M).bind fun r105 => am_Ex d 268 24 [(2, x0), (0, x1), (0, x2), (0, x3), (0, x4)] [] r105.2)) else (am_g (am_ob x0 11) <| (am_Call d 251 [(2, x0), (0, x1)] M).bind fun r107 => (am_Call d 66 [(0, r107.1)] r107.2).bind fun r108 => some (r108.1, r108.2))) := by
  refine (am_e0 rfl rfl).trans ?_
  refine (am_e0 rfl rfl).trans ?_
  refine (am_i_ge rfl).trans (am_if_congr (fun c101 => ?_) (fun c101 => ?_))
  · refine (am_e0 rfl rfl).trans ?_
    refine (am_gf (c := 11) (t := 2) rfl rfl rfl).trans (am_g_congr fun h102 => ?_)
    refine (am_e0 rfl rfl).trans ?_
    refine (am_ial rfl).trans (am_g_congr fun h103 => ?_)
    refine (am_z_le rfl).trans (am_if_congr (fun c104 => ?_) (fun c104 => ?_))
    · exact (am_e5 rfl).trans rfl
    · refine (am_e0 rfl rfl).trans ?_
      refine (am_e0 rfl rfl).trans ?_
      refine (am_e0 rfl rfl).trans ?_
      refine (am_gf (c := 11) (t := 2) rfl rfl rfl).trans ((am_g_t h102).trans ?_)
      refine (am_e0 rfl rfl).trans ?_
      refine (am_ial rfl).trans ((am_g_t h103).trans ?_)
      refine (am_e0 rfl rfl).trans ?_
      refine (am_e0 rfl rfl).trans ?_
      refine (am_e0 rfl rfl).trans ?_
      refine (am_cal3 (z := 254) (k := 4) (c := (am_ob x0 11)) rfl rfl rfl rfl rfl rfl rfl rfl).trans ((am_g_t h102).trans ?_)
      refine am_bind_congr fun r105 => ?_
      show am_Ex d 268 23 [(2, x0), (0, x1), (0, x2), (0, x3), (0, x4)] [] r105.2 = _
      exact (am_e5 rfl).trans rfl
  · refine (am_e0 rfl rfl).trans ?_
    refine (am_e0 rfl rfl).trans ?_
    refine (am_cal3 (z := 251) (k := 2) (c := (am_ob x0 11)) rfl rfl rfl rfl rfl rfl rfl rfl).trans (am_g_congr fun h106 => ?_)
    refine am_bind_congr fun r107 => ?_
    show am_Ex d 268 38 [(2, x0), (0, x1), (0, x2), (0, x3), (0, x4)] [(0, r107.1)] r107.2 = _
    refine (am_cal3 (z := 66) (k := 1) (c := true) rfl rfl rfl rfl rfl rfl rfl rfl).trans ((am_g_t rfl).trans ?_)
    refine am_bind_congr fun r108 => ?_
    show am_Ex d 268 39 [(2, x0), (0, x1), (0, x2), (0, x3), (0, x4)] [(0, r108.1)] r108.2 = _
    exact (am_e4i rfl rfl).trans rfl
set_option maxRecDepth 10000 in
theorem aq_268_24 (d : Nat) (x0 x1 x2 x3 x4 : Int) (M : am_M) : am_Ex d 268 24 [(2, x0), (0, x1), (0, x2), (0, x3), (0, x4)] [] M = (am_g (am_ob x0 11) <| (am_Call d 252 [(2, x0), (0, x1)] M).bind fun r102 => am_let (am_wr r102.2 x0 47 (am_w32 ((am_rd r102.2 x0 47) + 1))) fun M103 => am_let (am_w32 (x4 + 1)) fun v104 => am_Ex d 268 5 [(2, x0), (0, x1), (0, x2), (0, x3), (0, v104)] [] M103) := by
  refine (am_e0 rfl rfl).trans ?_
  refine (am_e0 rfl rfl).trans ?_
  refine (am_cal3 (z := 252) (k := 2) (c := (am_ob x0 11)) rfl rfl rfl rfl rfl rfl rfl rfl).trans (am_g_congr fun h101 => ?_)
  refine am_bind_congr fun r102 => ?_
  show am_Ex d 268 27 [(2, x0), (0, x1), (0, x2), (0, x3), (0, x4)] [] r102.2 = _
  refine (am_e0 rfl rfl).trans ?_
  refine (am_e0 rfl rfl).trans ?_
  refine (am_gf (c := 11) (t := 0) rfl rfl rfl).trans ((am_g_t h101).trans ?_)
  refine (am_e0 rfl rfl).trans ?_
  refine (am_e0 rfl rfl).trans ?_
  refine (am_pf (c := 11) rfl rfl rfl).trans ((am_g_t h101).trans ?_)
  refine am_letm (fun M103 => ?_)
  refine (am_e0 rfl rfl).trans ?_
  refine am_lets (L := fun v104 => [(2, x0), (0, x1), (0, x2), (0, x3), (0, v104)]) (fun v104 => ?_)
  refine (am_e1 rfl rfl).trans ?_
  exact (am_e5 rfl).trans rfl
-- 269: UnlearnedHandModel.shammed(IIIZ)J
set_option maxRecDepth 10000 in
theorem aq_269 (d : Nat) (x0 x1 x2 x3 x4 : Int) (M : am_M) : am_Call d 269 [(2, x0), (0, x1), (0, x2), (0, x3), (0, x4)] M = (am_g (am_ob x0 11) <| (am_Call d 144 [(2, x0), (0, x1)] M).bind fun r102 => if r102.1 = 0 then (some ((-1), r102.2)) else ((am_Call d 64 [(0, x2), (0, 0), (0, 10)] r102.2).bind fun r104 => if r104.1 = 0 then (some ((-1), r104.2)) else ((am_Call d 64 [(0, x3), (0, 0), (0, 10)] r104.2).bind fun r106 => if r106.1 = 0 then (some ((-1), r106.2)) else ((am_Call d 88 [(2, x0)] r106.2).bind fun r108 => (am_Call d 251 [(2, x0), (0, x1)] r108.2).bind fun r109 => am_let (am_w64 (10 - x2)) fun v110 => am_Ex d 269 34 [(2, x0), am_N, am_N, (0, x3), (0, x4), (0, r109.1), (1, x2), am_N, (1, v110), am_N, (0, 0), am_N] [] r109.2)))) := by
  show am_Ex d 269 0 [(2, x0), (0, x1), (0, x2), (0, x3), (0, x4), am_N, am_N, am_N, am_N, am_N, am_N, am_N] [] M = _
  refine (am_e0 rfl rfl).trans ?_
  refine (am_e0 rfl rfl).trans ?_
  refine (am_cal3 (z := 144) (k := 2) (c := (am_ob x0 11)) rfl rfl rfl rfl rfl rfl rfl rfl).trans (am_g_congr fun h101 => ?_)
  refine am_bind_congr fun r102 => ?_
  show am_Ex d 269 3 [(2, x0), (0, x1), (0, x2), (0, x3), (0, x4), am_N, am_N, am_N, am_N, am_N, am_N, am_N] [(0, r102.1)] r102.2 = _
  refine (am_z_eq rfl).trans (am_if_congr (fun c103 => ?_) (fun c103 => ?_))
  · refine (am_e5 rfl).trans ?_
    show am_Ex d 269 15 [am_N, am_N, am_N, am_N, am_N, am_N, am_N, am_N, am_N, am_N, am_N, am_N] [] r102.2 = _
    refine (am_e0 rfl rfl).trans ?_
    exact (am_e4l rfl rfl).trans rfl
  · refine (am_e0 rfl rfl).trans ?_
    refine (am_e0 rfl rfl).trans ?_
    refine (am_e0 rfl rfl).trans ?_
    refine (am_cal3 (z := 64) (k := 3) (c := true) rfl rfl rfl rfl rfl rfl rfl rfl).trans ((am_g_t rfl).trans ?_)
    refine am_bind_congr fun r104 => ?_
    show am_Ex d 269 8 [(2, x0), (0, x1), (0, x2), (0, x3), (0, x4), am_N, am_N, am_N, am_N, am_N, am_N, am_N] [(0, r104.1)] r104.2 = _
    refine (am_z_eq rfl).trans (am_if_congr (fun c105 => ?_) (fun c105 => ?_))
    · refine (am_e5 rfl).trans ?_
      show am_Ex d 269 15 [am_N, am_N, am_N, am_N, am_N, am_N, am_N, am_N, am_N, am_N, am_N, am_N] [] r104.2 = _
      refine (am_e0 rfl rfl).trans ?_
      exact (am_e4l rfl rfl).trans rfl
    · refine (am_e0 rfl rfl).trans ?_
      refine (am_e0 rfl rfl).trans ?_
      refine (am_e0 rfl rfl).trans ?_
      refine (am_cal3 (z := 64) (k := 3) (c := true) rfl rfl rfl rfl rfl rfl rfl rfl).trans ((am_g_t rfl).trans ?_)
      refine am_bind_congr fun r106 => ?_
      show am_Ex d 269 13 [(2, x0), (0, x1), (0, x2), (0, x3), (0, x4), am_N, am_N, am_N, am_N, am_N, am_N, am_N] [(0, r106.1)] r106.2 = _
      refine (am_z_ne rfl).trans (am_if_congr (fun c107 => ?_) (fun c107 => ?_))
      · refine (am_e5 rfl).trans ?_
        show am_Ex d 269 15 [am_N, am_N, am_N, am_N, am_N, am_N, am_N, am_N, am_N, am_N, am_N, am_N] [] r106.2 = _
        refine (am_e0 rfl rfl).trans ?_
        exact (am_e4l rfl rfl).trans rfl
      · refine (am_e0 rfl rfl).trans ?_
        refine (am_cal3 (z := 88) (k := 1) (c := (am_ob x0 11)) rfl rfl rfl rfl rfl rfl rfl rfl).trans ((am_g_t h101).trans ?_)
        refine am_bind_congr fun r108 => ?_
        show am_Ex d 269 19 [(2, x0), (0, x1), (0, x2), (0, x3), (0, x4), am_N, am_N, am_N, am_N, am_N, am_N, am_N] [] r108.2 = _
        refine (am_e0 rfl rfl).trans ?_
        refine (am_e0 rfl rfl).trans ?_
        refine (am_cal3 (z := 251) (k := 2) (c := (am_ob x0 11)) rfl rfl rfl rfl rfl rfl rfl rfl).trans ((am_g_t h101).trans ?_)
        refine am_bind_congr fun r109 => ?_
        show am_Ex d 269 22 [(2, x0), (0, x1), (0, x2), (0, x3), (0, x4), am_N, am_N, am_N, am_N, am_N, am_N, am_N] [(0, r109.1)] r109.2 = _
        refine (am_e0 rfl rfl).trans ?_
        refine (am_e0 rfl rfl).trans ?_
        refine (am_e0 rfl rfl).trans ?_
        refine (am_e0 rfl rfl).trans ?_
        refine (am_e0 rfl rfl).trans ?_
        refine (am_e0 rfl rfl).trans ?_
        refine (am_e0 rfl rfl).trans ?_
        refine (am_e0 rfl rfl).trans ?_
        refine (am_e0 rfl rfl).trans ?_
        refine am_lets (L := fun v110 => [(2, x0), (0, x1), (0, x2), (0, x3), (0, x4), (0, r109.1), (1, x2), am_N, (1, v110), am_N, am_N, am_N]) (fun v110 => ?_)
        refine (am_e0 rfl rfl).trans ?_
        refine (am_e0 rfl rfl).trans ?_
        exact (am_e5 rfl).trans rfl
set_option maxRecDepth 10000 in
theorem aq_269_34 (d : Nat) (x0 x3 x4 x5 x6 x8 x10 : Int) (M : am_M) : am_Ex d 269 34 [(2, x0), am_N, am_N, (0, x3), (0, x4), (0, x5), (1, x6), am_N, (1, x8), am_N, (0, x10), am_N] [] M = (am_g (am_ob x0 11) <| am_g (am_ar (am_rd M x0 0) 20 6) <| if x10 < am_rd M (am_rd M x0 0) 6 then (am_g (am_ar (am_rd M x0 0) 20 (am_w32 (38 + (am_w32 (2 * x10))))) <| (am_Call d 65 [(0, x5), (0, am_rd M (am_rd M x0 0) (am_w32 (38 + (am_w32 (2 * x10)))))] M).bind fun r105 => if r105.1 = 0 then (am_Ex d 269 88 [(2, x0), am_N, am_N, (0, x3), (0, x4), (0, x5), (1, x6), am_N, (1, x8), am_N, (0, x10), am_N] [] r105.2) else (am_g (am_ar (am_rd r105.2 x0 0) 20 (am_w32 ((am_w32 (38 + (am_w32 (2 * x10)))) + 1))) <| if am_rd r105.2 (am_rd r105.2 x0 0) (am_w32 ((am_w32 (38 + (am_w32 (2 * x10)))) + 1)) = 1 then (if (1 : Int) = 0 then (am_let (am_w64 (x6 * x3)) fun v110 => if (1 : Int) = 0 then (am_let (am_w64 (x8 * 1)) fun v112 => am_Ex d 269 88 [(2, x0), am_N, am_N, (0, x3), (0, x4), (0, x5), (1, v110), am_N, (1, v112), am_N, (0, x10), am_N] [] r105.2) else (am_let (am_w64 (x8 * 9)) fun v113 => am_Ex d 269 88 [(2, x0), am_N, am_N, (0, x3), (0, x4), (0, x5), (1, v110), am_N, (1, v113), am_N, (0, x10), am_N] [] r105.2)) else (am_let (am_w64 (x6 * (am_w32 (10 - x3)))) fun v114 => if (1 : Int) = 0 then (am_let (am_w64 (x8 * 1)) fun v116 => am_Ex d 269 88 [(2, x0), am_N, am_N, (0, x3), (0, x4), (0, x5), (1, v114), am_N, (1, v116), am_N, (0, x10), am_N] [] r105.2) else (am_let (am_w64 (x8 * 9)) fun v117 => am_Ex d 269 88 [(2, x0), am_N, am_N, (0, x3), (0, x4), (0, x5), (1, v114), am_N, (1, v117), am_N, (0, x10), am_N] [] r105.2))) else (if (0 : Int) = 0 then (am_let (am_w64 (x6 * x3)) fun v119 => if (0 : Int) = 0 then (am_let (am_w64 (x8 * 1)) fun v121 => am_Ex d 269 88 [(2, x0), am_N, am_N, (0, x3), (0, x4), (0, x5), (1, v119), am_N, (1, v121), am_N, (0, x10), am_N] [] r105.2) else (am_let (am_w64 (x8 * 9)) fun v122 => am_Ex d 269 88 [(2, x0), am_N, am_N, (0, x3), (0, x4), (0, x5), (1, v119), am_N, (1, v122), am_N, (0, x10), am_N] [] r105.2)) else (am_let (am_w64 (x6 * (am_w32 (10 - x3)))) fun v123 => if (0 : Int) = 0 then (am_let (am_w64 (x8 * 1)) fun v125 => am_Ex d 269 88 [(2, x0), am_N, am_N, (0, x3), (0, x4), (0, x5), (1, v123), am_N, (1, v125), am_N, (0, x10), am_N] [] r105.2) else (am_let (am_w64 (x8 * 9)) fun v126 => am_Ex d 269 88 [(2, x0), am_N, am_N, (0, x3), (0, x4), (0, x5), (1, v123), am_N, (1, v126), am_N, (0, x10), am_N] [] r105.2))))) else (if am_cmp (am_w64 (x6 + x8)) 0 = 0 then (if x4 = 0 then (some (0, M)) else (some (1, M))) else ((am_Call d 161 [(1, x6), (1, am_w64 (x6 + x8)), (0, x4)] M).bind fun r129 => some (r129.1, r129.2)))) := by
  refine (am_e0 rfl rfl).trans ?_
  refine (am_e0 rfl rfl).trans ?_
  refine (am_gf (c := 11) (t := 2) rfl rfl rfl).trans (am_g_congr fun h101 => ?_)
  refine (am_e0 rfl rfl).trans ?_
  refine (am_ial rfl).trans (am_g_congr fun h102 => ?_)
  refine (am_i_ge rfl).trans (am_if_congr (fun c103 => ?_) (fun c103 => ?_))
  · refine (am_e0 rfl rfl).trans ?_
    refine (am_e0 rfl rfl).trans ?_
    refine (am_gf (c := 11) (t := 2) rfl rfl rfl).trans ((am_g_t h101).trans ?_)
    refine (am_e0 rfl rfl).trans ?_
    refine (am_e0 rfl rfl).trans ?_
    refine (am_e0 rfl rfl).trans ?_
    refine (am_e0 rfl rfl).trans ?_
    refine (am_e0 rfl rfl).trans ?_
    refine (am_ial rfl).trans (am_g_congr fun h104 => ?_)
    refine (am_cal3 (z := 65) (k := 2) (c := true) rfl rfl rfl rfl rfl rfl rfl rfl).trans ((am_g_t rfl).trans ?_)
    refine am_bind_congr fun r105 => ?_
    show am_Ex d 269 50 [(2, x0), am_N, am_N, (0, x3), (0, x4), (0, x5), (1, x6), am_N, (1, x8), am_N, (0, x10), am_N] [(0, r105.1)] r105.2 = _
    refine (am_z_eq rfl).trans (am_if_congr (fun c106 => ?_) (fun c106 => ?_))
    · exact (am_e5 rfl).trans rfl
    · refine (am_e0 rfl rfl).trans ?_
      refine (am_gf (c := 11) (t := 2) rfl rfl rfl).trans ((am_g_t h101).trans ?_)
      refine (am_e0 rfl rfl).trans ?_
      refine (am_e0 rfl rfl).trans ?_
      refine (am_e0 rfl rfl).trans ?_
      refine (am_e0 rfl rfl).trans ?_
      refine (am_e0 rfl rfl).trans ?_
      refine (am_e0 rfl rfl).trans ?_
      refine (am_e0 rfl rfl).trans ?_
      refine (am_ial rfl).trans (am_g_congr fun h107 => ?_)
      refine (am_e0 rfl rfl).trans ?_
      refine (am_i_ne rfl).trans (am_if_congr (fun c108 => ?_) (fun c108 => ?_))
      · refine (am_e0 rfl rfl).trans ?_
        refine (am_e1 rfl rfl).trans ?_
        refine (am_e0 rfl rfl).trans ?_
        refine (am_e0 rfl rfl).trans ?_
        refine (am_e0 rfl rfl).trans ?_
        refine (am_z_eq rfl).trans (am_if_congr (fun c109 => ?_) (fun c109 => ?_))
        · refine (am_e0 rfl rfl).trans ?_
          refine (am_e0 rfl rfl).trans ?_
          refine (am_e0 rfl rfl).trans ?_
          refine (am_e0 rfl rfl).trans ?_
          refine am_lets (L := fun v110 => [(2, x0), am_N, am_N, (0, x3), (0, x4), (0, x5), (1, v110), am_N, (1, x8), am_N, (0, x10), (0, 1)]) (fun v110 => ?_)
          refine (am_e0 rfl rfl).trans ?_
          refine (am_e0 rfl rfl).trans ?_
          refine (am_z_eq rfl).trans (am_if_congr (fun c111 => ?_) (fun c111 => ?_))
          · refine (am_e0 rfl rfl).trans ?_
            refine (am_e0 rfl rfl).trans ?_
            refine (am_e0 rfl rfl).trans ?_
            refine (am_e0 rfl rfl).trans ?_
            refine am_lets (L := fun v112 => [(2, x0), am_N, am_N, (0, x3), (0, x4), (0, x5), (1, v110), am_N, (1, v112), am_N, (0, x10), (0, 1)]) (fun v112 => ?_)
            exact (am_e5 rfl).trans rfl
          · refine (am_e0 rfl rfl).trans ?_
            refine (am_e1 rfl rfl).trans ?_
            refine (am_e0 rfl rfl).trans ?_
            refine (am_e0 rfl rfl).trans ?_
            refine (am_e0 rfl rfl).trans ?_
            refine am_lets (L := fun v113 => [(2, x0), am_N, am_N, (0, x3), (0, x4), (0, x5), (1, v110), am_N, (1, v113), am_N, (0, x10), (0, 1)]) (fun v113 => ?_)
            exact (am_e5 rfl).trans rfl
        · refine (am_e0 rfl rfl).trans ?_
          refine (am_e0 rfl rfl).trans ?_
          refine (am_e0 rfl rfl).trans ?_
          refine (am_e1 rfl rfl).trans ?_
          refine (am_e0 rfl rfl).trans ?_
          refine (am_e0 rfl rfl).trans ?_
          refine (am_e0 rfl rfl).trans ?_
          refine am_lets (L := fun v114 => [(2, x0), am_N, am_N, (0, x3), (0, x4), (0, x5), (1, v114), am_N, (1, x8), am_N, (0, x10), (0, 1)]) (fun v114 => ?_)
          refine (am_e0 rfl rfl).trans ?_
          refine (am_e0 rfl rfl).trans ?_
          refine (am_z_eq rfl).trans (am_if_congr (fun c115 => ?_) (fun c115 => ?_))
          · refine (am_e0 rfl rfl).trans ?_
            refine (am_e0 rfl rfl).trans ?_
            refine (am_e0 rfl rfl).trans ?_
            refine (am_e0 rfl rfl).trans ?_
            refine am_lets (L := fun v116 => [(2, x0), am_N, am_N, (0, x3), (0, x4), (0, x5), (1, v114), am_N, (1, v116), am_N, (0, x10), (0, 1)]) (fun v116 => ?_)
            exact (am_e5 rfl).trans rfl
          · refine (am_e0 rfl rfl).trans ?_
            refine (am_e1 rfl rfl).trans ?_
            refine (am_e0 rfl rfl).trans ?_
            refine (am_e0 rfl rfl).trans ?_
            refine (am_e0 rfl rfl).trans ?_
            refine am_lets (L := fun v117 => [(2, x0), am_N, am_N, (0, x3), (0, x4), (0, x5), (1, v114), am_N, (1, v117), am_N, (0, x10), (0, 1)]) (fun v117 => ?_)
            exact (am_e5 rfl).trans rfl
      · refine (am_e0 rfl rfl).trans ?_
        refine (am_e0 rfl rfl).trans ?_
        refine (am_e0 rfl rfl).trans ?_
        refine (am_e0 rfl rfl).trans ?_
        refine (am_z_eq rfl).trans (am_if_congr (fun c118 => ?_) (fun c118 => ?_))
        · refine (am_e0 rfl rfl).trans ?_
          refine (am_e0 rfl rfl).trans ?_
          refine (am_e0 rfl rfl).trans ?_
          refine (am_e0 rfl rfl).trans ?_
          refine am_lets (L := fun v119 => [(2, x0), am_N, am_N, (0, x3), (0, x4), (0, x5), (1, v119), am_N, (1, x8), am_N, (0, x10), (0, 0)]) (fun v119 => ?_)
          refine (am_e0 rfl rfl).trans ?_
          refine (am_e0 rfl rfl).trans ?_
          refine (am_z_eq rfl).trans (am_if_congr (fun c120 => ?_) (fun c120 => ?_))
          · refine (am_e0 rfl rfl).trans ?_
            refine (am_e0 rfl rfl).trans ?_
            refine (am_e0 rfl rfl).trans ?_
            refine (am_e0 rfl rfl).trans ?_
            refine am_lets (L := fun v121 => [(2, x0), am_N, am_N, (0, x3), (0, x4), (0, x5), (1, v119), am_N, (1, v121), am_N, (0, x10), (0, 0)]) (fun v121 => ?_)
            exact (am_e5 rfl).trans rfl
          · refine (am_e0 rfl rfl).trans ?_
            refine (am_e1 rfl rfl).trans ?_
            refine (am_e0 rfl rfl).trans ?_
            refine (am_e0 rfl rfl).trans ?_
            refine (am_e0 rfl rfl).trans ?_
            refine am_lets (L := fun v122 => [(2, x0), am_N, am_N, (0, x3), (0, x4), (0, x5), (1, v119), am_N, (1, v122), am_N, (0, x10), (0, 0)]) (fun v122 => ?_)
            exact (am_e5 rfl).trans rfl
        · refine (am_e0 rfl rfl).trans ?_
          refine (am_e0 rfl rfl).trans ?_
          refine (am_e0 rfl rfl).trans ?_
          refine (am_e1 rfl rfl).trans ?_
          refine (am_e0 rfl rfl).trans ?_
          refine (am_e0 rfl rfl).trans ?_
          refine (am_e0 rfl rfl).trans ?_
          refine am_lets (L := fun v123 => [(2, x0), am_N, am_N, (0, x3), (0, x4), (0, x5), (1, v123), am_N, (1, x8), am_N, (0, x10), (0, 0)]) (fun v123 => ?_)
          refine (am_e0 rfl rfl).trans ?_
          refine (am_e0 rfl rfl).trans ?_
          refine (am_z_eq rfl).trans (am_if_congr (fun c124 => ?_) (fun c124 => ?_))
          · refine (am_e0 rfl rfl).trans ?_
            refine (am_e0 rfl rfl).trans ?_
            refine (am_e0 rfl rfl).trans ?_
            refine (am_e0 rfl rfl).trans ?_
            refine am_lets (L := fun v125 => [(2, x0), am_N, am_N, (0, x3), (0, x4), (0, x5), (1, v123), am_N, (1, v125), am_N, (0, x10), (0, 0)]) (fun v125 => ?_)
            exact (am_e5 rfl).trans rfl
          · refine (am_e0 rfl rfl).trans ?_
            refine (am_e1 rfl rfl).trans ?_
            refine (am_e0 rfl rfl).trans ?_
            refine (am_e0 rfl rfl).trans ?_
            refine (am_e0 rfl rfl).trans ?_
            refine am_lets (L := fun v126 => [(2, x0), am_N, am_N, (0, x3), (0, x4), (0, x5), (1, v123), am_N, (1, v126), am_N, (0, x10), (0, 0)]) (fun v126 => ?_)
            exact (am_e5 rfl).trans rfl
  · refine (am_e0 rfl rfl).trans ?_
    refine (am_e0 rfl rfl).trans ?_
    refine (am_e0 rfl rfl).trans ?_
    refine (am_e0 rfl rfl).trans ?_
    refine (am_e0 rfl rfl).trans ?_
    refine (am_z_ne rfl).trans (am_if_congr (fun c127 => ?_) (fun c127 => ?_))
    · refine (am_e0 rfl rfl).trans ?_
      refine (am_z_eq rfl).trans (am_if_congr (fun c128 => ?_) (fun c128 => ?_))
      · refine (am_e0 rfl rfl).trans ?_
        exact (am_e4l rfl rfl).trans rfl
      · refine (am_e0 rfl rfl).trans ?_
        refine (am_e1 rfl rfl).trans ?_
        exact (am_e4l rfl rfl).trans rfl
    · refine (am_e0 rfl rfl).trans ?_
      refine (am_e0 rfl rfl).trans ?_
      refine (am_e0 rfl rfl).trans ?_
      refine (am_e0 rfl rfl).trans ?_
      refine (am_e0 rfl rfl).trans ?_
      refine (am_cal3 (z := 161) (k := 3) (c := true) rfl rfl rfl rfl rfl rfl rfl rfl).trans ((am_g_t rfl).trans ?_)
      refine am_bind_congr fun r129 => ?_
      show am_Ex d 269 108 [(2, x0), am_N, am_N, (0, x3), (0, x4), (0, x5), (1, x6), am_N, (1, x8), am_N, (0, x10), am_N] [(1, r129.1)] r129.2 = _
      exact (am_e4l rfl rfl).trans rfl
set_option maxRecDepth 10000 in
theorem aq_269_88 (d : Nat) (x0 x3 x4 x5 x6 x8 x10 : Int) (M : am_M) : am_Ex d 269 88 [(2, x0), am_N, am_N, (0, x3), (0, x4), (0, x5), (1, x6), am_N, (1, x8), am_N, (0, x10), am_N] [] M = (am_let (am_w32 (x10 + 1)) fun v101 => am_Ex d 269 34 [(2, x0), am_N, am_N, (0, x3), (0, x4), (0, x5), (1, x6), am_N, (1, x8), am_N, (0, v101), am_N] [] M) := by
  refine (am_e0 rfl rfl).trans ?_
  refine am_lets (L := fun v101 => [(2, x0), am_N, am_N, (0, x3), (0, x4), (0, x5), (1, x6), am_N, (1, x8), am_N, (0, v101), am_N]) (fun v101 => ?_)
  refine (am_e1 rfl rfl).trans ?_
  exact (am_e5 rfl).trans rfl
-- 270: UnlearnedHandModel.halves(III)I
set_option maxRecDepth 10000 in
theorem aq_270 (d : Nat) (x0 x1 x2 x3 : Int) (M : am_M) : am_Call d 270 [(2, x0), (0, x1), (0, x2), (0, x3)] M = (am_g (am_ob x0 11) <| (am_Call d 144 [(2, x0), (0, x1)] M).bind fun r102 => if r102.1 = 0 then (some ((-1), r102.2)) else ((am_Call d 144 [(2, x0), (0, x2)] r102.2).bind fun r104 => if r104.1 = 0 then (some ((-1), r104.2)) else (if x1 = x2 then (some ((-1), r104.2)) else ((am_Call d 88 [(2, x0)] r104.2).bind fun r107 => (am_Call d 251 [(2, x0), (0, x1)] r107.2).bind fun r108 => (am_Call d 251 [(2, x0), (0, x2)] r108.2).bind fun r109 => if x3 = 0 then (some (am_and r108.1 (am_xor r109.1 (-1)), r109.2)) else if x3 = 1 then (some (am_and r109.1 (am_xor r108.1 (-1)), r109.2)) else if x3 = 2 then (some (am_and r108.1 r109.1, r109.2)) else if x3 = 3 then (am_g (am_ar (am_rd r109.2 x0 0) 20 0) <| some (am_and (am_w32 ((am_shl 1 (am_rd r109.2 (am_rd r109.2 x0 0) 0)) - 1)) (am_xor (am_or r108.1 r109.1) (-1)), r109.2)) else (some ((-1), r109.2)))))) := by
  show am_Ex d 270 0 [(2, x0), (0, x1), (0, x2), (0, x3), am_N, am_N] [] M = _
  refine (am_e0 rfl rfl).trans ?_
  refine (am_e0 rfl rfl).trans ?_
  refine (am_cal3 (z := 144) (k := 2) (c := (am_ob x0 11)) rfl rfl rfl rfl rfl rfl rfl rfl).trans (am_g_congr fun h101 => ?_)
  refine am_bind_congr fun r102 => ?_
  show am_Ex d 270 3 [(2, x0), (0, x1), (0, x2), (0, x3), am_N, am_N] [(0, r102.1)] r102.2 = _
  refine (am_z_eq rfl).trans (am_if_congr (fun c103 => ?_) (fun c103 => ?_))
  · refine (am_e5 rfl).trans ?_
    show am_Ex d 270 12 [am_N, am_N, am_N, am_N, am_N, am_N] [] r102.2 = _
    refine (am_e0 rfl rfl).trans ?_
    exact (am_e4i rfl rfl).trans rfl
  · refine (am_e0 rfl rfl).trans ?_
    refine (am_e0 rfl rfl).trans ?_
    refine (am_cal3 (z := 144) (k := 2) (c := (am_ob x0 11)) rfl rfl rfl rfl rfl rfl rfl rfl).trans ((am_g_t h101).trans ?_)
    refine am_bind_congr fun r104 => ?_
    show am_Ex d 270 7 [(2, x0), (0, x1), (0, x2), (0, x3), am_N, am_N] [(0, r104.1)] r104.2 = _
    refine (am_z_eq rfl).trans (am_if_congr (fun c105 => ?_) (fun c105 => ?_))
    · refine (am_e5 rfl).trans ?_
      show am_Ex d 270 12 [am_N, am_N, am_N, am_N, am_N, am_N] [] r104.2 = _
      refine (am_e0 rfl rfl).trans ?_
      exact (am_e4i rfl rfl).trans rfl
    · refine (am_e0 rfl rfl).trans ?_
      refine (am_e0 rfl rfl).trans ?_
      refine (am_i_ne rfl).trans (am_if_congr (fun c106 => ?_) (fun c106 => ?_))
      · refine (am_e5 rfl).trans ?_
        show am_Ex d 270 12 [am_N, am_N, am_N, am_N, am_N, am_N] [] r104.2 = _
        refine (am_e0 rfl rfl).trans ?_
        exact (am_e4i rfl rfl).trans rfl
      · refine (am_e0 rfl rfl).trans ?_
        refine (am_cal3 (z := 88) (k := 1) (c := (am_ob x0 11)) rfl rfl rfl rfl rfl rfl rfl rfl).trans ((am_g_t h101).trans ?_)
        refine am_bind_congr fun r107 => ?_
        show am_Ex d 270 16 [(2, x0), (0, x1), (0, x2), (0, x3), am_N, am_N] [] r107.2 = _
        refine (am_e0 rfl rfl).trans ?_
        refine (am_e0 rfl rfl).trans ?_
        refine (am_cal3 (z := 251) (k := 2) (c := (am_ob x0 11)) rfl rfl rfl rfl rfl rfl rfl rfl).trans ((am_g_t h101).trans ?_)
        refine am_bind_congr fun r108 => ?_
        show am_Ex d 270 19 [(2, x0), (0, x1), (0, x2), (0, x3), am_N, am_N] [(0, r108.1)] r108.2 = _
        refine (am_e0 rfl rfl).trans ?_
        refine (am_e0 rfl rfl).trans ?_
        refine (am_e0 rfl rfl).trans ?_
        refine (am_cal3 (z := 251) (k := 2) (c := (am_ob x0 11)) rfl rfl rfl rfl rfl rfl rfl rfl).trans ((am_g_t h101).trans ?_)
        refine am_bind_congr fun r109 => ?_
        show am_Ex d 270 23 [(2, x0), (0, x1), (0, x2), (0, x3), (0, r108.1), am_N] [(0, r109.1)] r109.2 = _
        refine (am_e0 rfl rfl).trans ?_
        refine (am_e0 rfl rfl).trans ?_
        refine (am_tsw rfl).trans ?_
        refine (am_sw_c).trans (am_if_congr (fun c110 => ?_) (fun c110 => ?_))
        · refine (am_e0 rfl rfl).trans ?_
          refine (am_e0 rfl rfl).trans ?_
          refine (am_e0 rfl rfl).trans ?_
          refine (am_e0 rfl rfl).trans ?_
          refine (am_e0 rfl rfl).trans ?_
          exact (am_e4i rfl rfl).trans rfl
        refine (am_sw_c).trans (am_if_congr (fun c111 => ?_) (fun c111 => ?_))
        · refine (am_e0 rfl rfl).trans ?_
          refine (am_e0 rfl rfl).trans ?_
          refine (am_e0 rfl rfl).trans ?_
          refine (am_e0 rfl rfl).trans ?_
          refine (am_e0 rfl rfl).trans ?_
          exact (am_e4i rfl rfl).trans rfl
        refine (am_sw_c).trans (am_if_congr (fun c112 => ?_) (fun c112 => ?_))
        · refine (am_e0 rfl rfl).trans ?_
          refine (am_e0 rfl rfl).trans ?_
          refine (am_e0 rfl rfl).trans ?_
          exact (am_e4i rfl rfl).trans rfl
        refine (am_sw_c).trans (am_if_congr (fun c113 => ?_) (fun c113 => ?_))
        · refine (am_e0 rfl rfl).trans ?_
          refine (am_e0 rfl rfl).trans ?_
          refine (am_gf (c := 11) (t := 2) rfl rfl rfl).trans ((am_g_t h101).trans ?_)
          refine (am_e0 rfl rfl).trans ?_
          refine (am_ial rfl).trans (am_g_congr fun h114 => ?_)
          refine (am_e0 rfl rfl).trans ?_
          refine (am_e0 rfl rfl).trans ?_
          refine (am_e0 rfl rfl).trans ?_
          refine (am_e0 rfl rfl).trans ?_
          refine (am_e0 rfl rfl).trans ?_
          refine (am_e0 rfl rfl).trans ?_
          refine (am_e0 rfl rfl).trans ?_
          refine (am_e0 rfl rfl).trans ?_
          refine (am_e0 rfl rfl).trans ?_
          exact (am_e4i rfl rfl).trans rfl
        refine (am_sw_n).trans ?_
        refine (am_e0 rfl rfl).trans ?_
        exact (am_e4i rfl rfl).trans rfl
-- 271: UnlearnedHandModel.laysHad()V
set_option maxRecDepth 10000 in
theorem aq_271 (d : Nat) (x0 : Int) (M : am_M) : am_Call d 271 [(2, x0)] M = (am_g (am_ob x0 11) <| (am_Call d 88 [(2, x0)] M).bind fun r102 => am_Ex d 271 5 [(2, x0), (0, 0)] [] r102.2) := by
  show am_Ex d 271 0 [(2, x0), am_N] [] M = _
  refine (am_e0 rfl rfl).trans ?_
  refine (am_cal3 (z := 88) (k := 1) (c := (am_ob x0 11)) rfl rfl rfl rfl rfl rfl rfl rfl).trans (am_g_congr fun h101 => ?_)
  refine am_bind_congr fun r102 => ?_
  show am_Ex d 271 2 [(2, x0), am_N] [] r102.2 = _
  refine (am_e0 rfl rfl).trans ?_
  refine (am_e0 rfl rfl).trans ?_
  exact (am_e5 rfl).trans rfl
set_option maxRecDepth 10000 in
theorem aq_271_5 (d : Nat) (x0 x1 : Int) (M : am_M) : am_Ex d 271 5 [(2, x0), (0, x1)] [] M = (am_g (am_ob x0 11) <| am_g (am_ar (am_rd M x0 0) 20 1) <| if x1 < am_rd M (am_rd M x0 0) 1 then ((am_Call d 251 [(2, x0), (0, x1)] M).bind fun r104 => am_g (am_ar (am_rd M x0 53) 20 x1) <| am_let (am_wr r104.2 (am_rd M x0 53) x1 r104.1) fun M106 => am_let (am_w32 (x1 + 1)) fun v107 => am_Ex d 271 5 [(2, x0), (0, v107)] [] M106) else (some (0, M))) := by
  refine (am_e0 rfl rfl).trans ?_
  refine (am_e0 rfl rfl).trans ?_
  refine (am_gf (c := 11) (t := 2) rfl rfl rfl).trans (am_g_congr fun h101 => ?_)
  refine (am_e0 rfl rfl).trans ?_
  refine (am_ial rfl).trans (am_g_congr fun h102 => ?_)
  refine (am_i_ge rfl).trans (am_if_congr (fun c103 => ?_) (fun c103 => ?_))
  · refine (am_e0 rfl rfl).trans ?_
    refine (am_gf (c := 11) (t := 2) rfl rfl rfl).trans ((am_g_t h101).trans ?_)
    refine (am_e0 rfl rfl).trans ?_
    refine (am_e0 rfl rfl).trans ?_
    refine (am_e0 rfl rfl).trans ?_
    refine (am_cal3 (z := 251) (k := 2) (c := (am_ob x0 11)) rfl rfl rfl rfl rfl rfl rfl rfl).trans ((am_g_t h101).trans ?_)
    refine am_bind_congr fun r104 => ?_
    show am_Ex d 271 17 [(2, x0), (0, x1)] [(0, r104.1), (0, x1), (2, am_rd M x0 53)] r104.2 = _
    refine (am_ias rfl).trans (am_g_congr fun h105 => ?_)
    refine am_letm (fun M106 => ?_)
    refine (am_e0 rfl rfl).trans ?_
    refine am_lets (L := fun v107 => [(2, x0), (0, v107)]) (fun v107 => ?_)
    refine (am_e1 rfl rfl).trans ?_
    exact (am_e5 rfl).trans rfl
  · exact (am_e4v rfl rfl).trans rfl
-- 272: UnlearnedHand$Deeds.drawDeed(LUnlearnedHand$Hands;)V
set_option maxRecDepth 10000 in
theorem aq_272 (d : Nat) (x0 x1 : Int) (M : am_M) : am_Call d 272 [(2, x0), (2, x1)] M = ((am_Call d 1 [(2, x1), (0, 6)] M).bind fun r101 => if r101.1 ≤ 3 then (am_g (am_ob x0 0) <| am_g (am_ob (am_rd r101.2 x0 0) 2) <| (am_Call d 1 [(2, x1), (0, am_rd r101.2 (am_rd r101.2 x0 0) 6)] r101.2).bind fun r105 => if r101.1 < 3 then (am_g (am_ob (am_rd r105.2 x0 0) 2) <| (am_Call d 1 [(2, x1), (0, am_rd r105.2 (am_rd r105.2 x0 0) 5)] r105.2).bind fun r108 => am_Ex d 272 36 [(2, x0), (2, x1), (0, r101.1), (0, r105.1), am_N, am_N] [(0, r108.1)] r108.2) else (am_Ex d 272 36 [(2, x0), (2, x1), (0, r101.1), (0, r105.1), am_N, am_N] [(0, (-1))] r105.2)) else (am_g (am_ob x1 3) <| if am_rd r101.2 x1 6 < 999 then (am_g (am_ob x0 0) <| am_g (am_ob (am_rd r101.2 x0 0) 2) <| (am_Call d 256 [(2, x0), (2, x1), (0, 0), (0, am_rd r101.2 (am_rd r101.2 x0 0) 6)] r101.2).bind fun r113 => some (0, r113.2)) else (some (0, r101.2)))) := by
  show am_Ex d 272 0 [(2, x0), (2, x1), am_N, am_N, am_N, am_N] [] M = _
  refine (am_e0 rfl rfl).trans ?_
  refine (am_e0 rfl rfl).trans ?_
  refine (am_cal3 (z := 1) (k := 2) (c := true) rfl rfl rfl rfl rfl rfl rfl rfl).trans ((am_g_t rfl).trans ?_)
  refine am_bind_congr fun r101 => ?_
  show am_Ex d 272 3 [(2, x0), (2, x1), am_N, am_N, am_N, am_N] [(0, r101.1)] r101.2 = _
  refine (am_e0 rfl rfl).trans ?_
  refine (am_e0 rfl rfl).trans ?_
  refine (am_e0 rfl rfl).trans ?_
  refine (am_i_le rfl).trans (am_if_congr (fun c102 => ?_) (fun c102 => ?_))
  · refine (am_e0 rfl rfl).trans ?_
    refine (am_e0 rfl rfl).trans ?_
    refine (am_gf (c := 0) (t := 2) rfl rfl rfl).trans (am_g_congr fun h103 => ?_)
    refine (am_gf (c := 2) (t := 0) rfl rfl rfl).trans (am_g_congr fun h104 => ?_)
    refine (am_cal3 (z := 1) (k := 2) (c := true) rfl rfl rfl rfl rfl rfl rfl rfl).trans ((am_g_t rfl).trans ?_)
    refine am_bind_congr fun r105 => ?_
    show am_Ex d 272 25 [(2, x0), (2, x1), (0, r101.1), am_N, am_N, am_N] [(0, r105.1)] r105.2 = _
    refine (am_e0 rfl rfl).trans ?_
    refine (am_e0 rfl rfl).trans ?_
    refine (am_e0 rfl rfl).trans ?_
    refine (am_i_ge rfl).trans (am_if_congr (fun c106 => ?_) (fun c106 => ?_))
    · refine (am_e0 rfl rfl).trans ?_
      refine (am_e0 rfl rfl).trans ?_
      refine (am_gf (c := 0) (t := 2) rfl rfl rfl).trans ((am_g_t h103).trans ?_)
      refine (am_gf (c := 2) (t := 0) rfl rfl rfl).trans (am_g_congr fun h107 => ?_)
      refine (am_cal3 (z := 1) (k := 2) (c := true) rfl rfl rfl rfl rfl rfl rfl rfl).trans ((am_g_t rfl).trans ?_)
      refine am_bind_congr fun r108 => ?_
      show am_Ex d 272 34 [(2, x0), (2, x1), (0, r101.1), (0, r105.1), am_N, am_N] [(0, r108.1)] r108.2 = _
      refine (am_e1 rfl rfl).trans ?_
      exact rfl
    · refine (am_e0 rfl rfl).trans ?_
      exact rfl
  · refine (am_e0 rfl rfl).trans ?_
    refine (am_gf (c := 3) (t := 0) rfl rfl rfl).trans (am_g_congr fun h109 => ?_)
    refine (am_e0 rfl rfl).trans ?_
    refine (am_i_ge rfl).trans (am_if_congr (fun c110 => ?_) (fun c110 => ?_))
    · refine (am_e0 rfl rfl).trans ?_
      refine (am_e0 rfl rfl).trans ?_
      refine (am_e0 rfl rfl).trans ?_
      refine (am_e0 rfl rfl).trans ?_
      refine (am_gf (c := 0) (t := 2) rfl rfl rfl).trans (am_g_congr fun h111 => ?_)
      refine (am_gf (c := 2) (t := 0) rfl rfl rfl).trans (am_g_congr fun h112 => ?_)
      refine (am_cal3 (z := 256) (k := 4) (c := (am_ob x0 0)) rfl rfl rfl rfl rfl rfl rfl rfl).trans ((am_g_t h111).trans ?_)
      refine am_bind_congr fun r113 => ?_
      show am_Ex d 272 18 [(2, x0), (2, x1), (0, r101.1), am_N, am_N, am_N] [] r113.2 = _
      refine (am_e5 rfl).trans ?_
      show am_Ex d 272 19 [am_N, am_N, am_N, am_N, am_N, am_N] [] r113.2 = _
      exact (am_e4v rfl rfl).trans rfl
    · refine (am_e5 rfl).trans ?_
      show am_Ex d 272 19 [am_N, am_N, am_N, am_N, am_N, am_N] [] r101.2 = _
      exact (am_e4v rfl rfl).trans rfl
set_option maxRecDepth 10000 in
theorem aq_272_36 (d : Nat) (y0 x0 x1 x2 x3 : Int) (M : am_M) : am_Ex d 272 36 [(2, x0), (2, x1), (0, x2), (0, x3), am_N, am_N] [(0, y0)] M = (am_let (y0) fun v101 => if x2 < 2 then ((am_Call d 1 [(2, x1), (0, 40)] M).bind fun r103 => am_Ex d 272 47 [(2, x0), (2, x1), (0, x2), (0, x3), (0, v101), am_N] [(0, am_w32 (1 + r103.1))] r103.2) else (am_Ex d 272 47 [(2, x0), (2, x1), (0, x2), (0, x3), (0, v101), am_N] [(0, 0)] M)) := by
  refine (am_e0 rfl rfl).trans ?_
  refine am_lets (L := fun v101 => [(2, x0), (2, x1), (0, x2), (0, x3), (0, v101), am_N]) (fun v101 => ?_)
  refine (am_e0 rfl rfl).trans ?_
  refine (am_e0 rfl rfl).trans ?_
  refine (am_i_ge rfl).trans (am_if_congr (fun c102 => ?_) (fun c102 => ?_))
  · refine (am_e0 rfl rfl).trans ?_
    refine (am_e0 rfl rfl).trans ?_
    refine (am_e0 rfl rfl).trans ?_
    refine (am_cal3 (z := 1) (k := 2) (c := true) rfl rfl rfl rfl rfl rfl rfl rfl).trans ((am_g_t rfl).trans ?_)
    refine am_bind_congr fun r103 => ?_
    show am_Ex d 272 44 [(2, x0), (2, x1), (0, x2), (0, x3), (0, v101), am_N] [(0, r103.1), (0, 1)] r103.2 = _
    refine (am_e0 rfl rfl).trans ?_
    refine (am_e1 rfl rfl).trans ?_
    exact rfl
  · refine (am_e0 rfl rfl).trans ?_
    exact rfl
set_option maxRecDepth 10000 in
theorem aq_272_47 (d : Nat) (y0 x0 x1 x2 x3 x4 : Int) (M : am_M) : am_Ex d 272 47 [(2, x0), (2, x1), (0, x2), (0, x3), (0, x4), am_N] [(0, y0)] M = (am_let (y0) fun v101 => am_g (am_ob x1 3) <| (am_Call d 25 [(2, x1), (0, x3)] M).bind fun r103 => if r103.1 = 0 then (if x2 = 3 then ((am_Call d 172 [(2, x1), (0, x3)] r103.2).bind fun r106 => some (0, r106.2)) else (if x2 = 2 then ((am_Call d 121 [(2, x1), (0, x3), (0, x4)] r103.2).bind fun r108 => some (0, r108.2)) else (if x2 = 1 then (am_g (am_ob x0 0) <| (am_Call d 207 [(2, x0), (2, x1), (0, x3), (0, x4), (0, v101)] r103.2).bind fun r111 => some (0, r111.2)) else ((am_Call d 118 [(2, x1), (0, x3), (0, x4)] r103.2).bind fun r112 => if r112.1 = 0 then (some (0, r112.2)) else ((am_Call d 114 [(2, x1), (0, x3), (0, x4)] r112.2).bind fun r114 => (am_Call d 119 [(2, x1), (0, x3), (0, x4), (0, am_w32 (r114.1 + v101))] r114.2).bind fun r115 => some (0, r115.2)))))) else (some (0, r103.2))) := by
  refine (am_e0 rfl rfl).trans ?_
  refine am_lets (L := fun v101 => [(2, x0), (2, x1), (0, x2), (0, x3), (0, x4), (0, v101)]) (fun v101 => ?_)
  refine (am_e0 rfl rfl).trans ?_
  refine (am_e0 rfl rfl).trans ?_
  refine (am_cal3 (z := 25) (k := 2) (c := (am_ob x1 3)) rfl rfl rfl rfl rfl rfl rfl rfl).trans (am_g_congr fun h102 => ?_)
  refine am_bind_congr fun r103 => ?_
  show am_Ex d 272 51 [(2, x0), (2, x1), (0, x2), (0, x3), (0, x4), (0, v101)] [(0, r103.1)] r103.2 = _
  refine (am_z_eq rfl).trans (am_if_congr (fun c104 => ?_) (fun c104 => ?_))
  · refine (am_e0 rfl rfl).trans ?_
    refine (am_e0 rfl rfl).trans ?_
    refine (am_i_ne rfl).trans (am_if_congr (fun c105 => ?_) (fun c105 => ?_))
    · refine (am_e0 rfl rfl).trans ?_
      refine (am_e0 rfl rfl).trans ?_
      refine (am_cal3 (z := 172) (k := 2) (c := (am_ob x1 3)) rfl rfl rfl rfl rfl rfl rfl rfl).trans ((am_g_t h102).trans ?_)
      refine am_bind_congr fun r106 => ?_
      show am_Ex d 272 59 [(2, x0), (2, x1), (0, x2), (0, x3), (0, x4), (0, v101)] [] r106.2 = _
      refine (am_e1 rfl rfl).trans ?_
      refine (am_e5 rfl).trans ?_
      show am_Ex d 272 94 [am_N, am_N, am_N, am_N, am_N, am_N] [] r106.2 = _
      exact (am_e4v rfl rfl).trans rfl
    · refine (am_e0 rfl rfl).trans ?_
      refine (am_e0 rfl rfl).trans ?_
      refine (am_i_ne rfl).trans (am_if_congr (fun c107 => ?_) (fun c107 => ?_))
      · refine (am_e0 rfl rfl).trans ?_
        refine (am_e0 rfl rfl).trans ?_
        refine (am_e0 rfl rfl).trans ?_
        refine (am_cal3 (z := 121) (k := 3) (c := (am_ob x1 3)) rfl rfl rfl rfl rfl rfl rfl rfl).trans ((am_g_t h102).trans ?_)
        refine am_bind_congr fun r108 => ?_
        show am_Ex d 272 67 [(2, x0), (2, x1), (0, x2), (0, x3), (0, x4), (0, v101)] [] r108.2 = _
        refine (am_e1 rfl rfl).trans ?_
        refine (am_e5 rfl).trans ?_
        show am_Ex d 272 94 [am_N, am_N, am_N, am_N, am_N, am_N] [] r108.2 = _
        exact (am_e4v rfl rfl).trans rfl
      · refine (am_e0 rfl rfl).trans ?_
        refine (am_e0 rfl rfl).trans ?_
        refine (am_i_ne rfl).trans (am_if_congr (fun c109 => ?_) (fun c109 => ?_))
        · refine (am_e0 rfl rfl).trans ?_
          refine (am_e0 rfl rfl).trans ?_
          refine (am_e0 rfl rfl).trans ?_
          refine (am_e0 rfl rfl).trans ?_
          refine (am_e0 rfl rfl).trans ?_
          refine (am_cal3 (z := 207) (k := 5) (c := (am_ob x0 0)) rfl rfl rfl rfl rfl rfl rfl rfl).trans (am_g_congr fun h110 => ?_)
          refine am_bind_congr fun r111 => ?_
          show am_Ex d 272 77 [(2, x0), (2, x1), (0, x2), (0, x3), (0, x4), (0, v101)] [] r111.2 = _
          refine (am_e1 rfl rfl).trans ?_
          refine (am_e5 rfl).trans ?_
          show am_Ex d 272 94 [am_N, am_N, am_N, am_N, am_N, am_N] [] r111.2 = _
          exact (am_e4v rfl rfl).trans rfl
        · refine (am_e0 rfl rfl).trans ?_
          refine (am_e0 rfl rfl).trans ?_
          refine (am_e0 rfl rfl).trans ?_
          refine (am_cal3 (z := 118) (k := 3) (c := (am_ob x1 3)) rfl rfl rfl rfl rfl rfl rfl rfl).trans ((am_g_t h102).trans ?_)
          refine am_bind_congr fun r112 => ?_
          show am_Ex d 272 82 [(2, x0), (2, x1), (0, x2), (0, x3), (0, x4), (0, v101)] [(0, r112.1)] r112.2 = _
          refine (am_z_eq rfl).trans (am_if_congr (fun c113 => ?_) (fun c113 => ?_))
          · refine (am_e5 rfl).trans ?_
            show am_Ex d 272 94 [am_N, am_N, am_N, am_N, am_N, am_N] [] r112.2 = _
            exact (am_e4v rfl rfl).trans rfl
          · refine (am_e0 rfl rfl).trans ?_
            refine (am_e0 rfl rfl).trans ?_
            refine (am_e0 rfl rfl).trans ?_
            refine (am_e0 rfl rfl).trans ?_
            refine (am_e0 rfl rfl).trans ?_
            refine (am_e0 rfl rfl).trans ?_
            refine (am_cal3 (z := 114) (k := 3) (c := (am_ob x1 3)) rfl rfl rfl rfl rfl rfl rfl rfl).trans ((am_g_t h102).trans ?_)
            refine am_bind_congr fun r114 => ?_
            show am_Ex d 272 90 [(2, x0), (2, x1), (0, x2), (0, x3), (0, x4), (0, v101)] [(0, r114.1), (0, x4), (0, x3), (2, x1)] r114.2 = _
            refine (am_e0 rfl rfl).trans ?_
            refine (am_e0 rfl rfl).trans ?_
            refine (am_cal3 (z := 119) (k := 4) (c := (am_ob x1 3)) rfl rfl rfl rfl rfl rfl rfl rfl).trans ((am_g_t h102).trans ?_)
            refine am_bind_congr fun r115 => ?_
            show am_Ex d 272 93 [(2, x0), (2, x1), (0, x2), (0, x3), (0, x4), (0, v101)] [] r115.2 = _
            refine (am_e5 rfl).trans ?_
            show am_Ex d 272 94 [am_N, am_N, am_N, am_N, am_N, am_N] [] r115.2 = _
            exact (am_e4v rfl rfl).trans rfl
  · exact (am_e4v rfl rfl).trans rfl
-- 273: UnlearnedHand$Foresight.turnsThen(II)I
set_option maxRecDepth 10000 in
theorem aq_273 (d : Nat) (x0 x1 x2 : Int) (M : am_M) : am_Call d 273 [(2, x0), (0, x1), (0, x2)] M = (am_g (am_ob x0 1) <| am_g (am_ob (am_rd M x0 4) 3) <| (am_Call d 22 [(2, am_rd M x0 4), (2, am_rd M x0 1)] M).bind fun r103 => am_Ex d 273 8 [(2, x0), (0, x1), (0, x2), (0, 0)] [] r103.2) := by
  show am_Ex d 273 0 [(2, x0), (0, x1), (0, x2), am_N] [] M = _
  refine (am_e0 rfl rfl).trans ?_
  refine (am_gf (c := 1) (t := 2) rfl rfl rfl).trans (am_g_congr fun h101 => ?_)
  refine (am_e0 rfl rfl).trans ?_
  refine (am_gf (c := 1) (t := 2) rfl rfl rfl).trans ((am_g_t h101).trans ?_)
  refine (am_cal3 (z := 22) (k := 2) (c := (am_ob (am_rd M x0 4) 3)) rfl rfl rfl rfl rfl rfl rfl rfl).trans (am_g_congr fun h102 => ?_)
  refine am_bind_congr fun r103 => ?_
  show am_Ex d 273 5 [(2, x0), (0, x1), (0, x2), am_N] [] r103.2 = _
  refine (am_e0 rfl rfl).trans ?_
  refine (am_e0 rfl rfl).trans ?_
  exact (am_e5 rfl).trans rfl
set_option maxRecDepth 10000 in
theorem aq_273_8 (d : Nat) (x0 x1 x2 x3 : Int) (M : am_M) : am_Ex d 273 8 [(2, x0), (0, x1), (0, x2), (0, x3)] [] M = (if x3 < x1 then (am_g (am_ob x0 1) <| am_g (am_ob (am_rd M x0 3) 0) <| (am_Call d 256 [(2, am_rd M x0 3), (2, am_rd M x0 4), (0, x2), (0, am_w32 (x2 + 1))] M).bind fun r104 => am_let (am_w32 (x3 + 1)) fun v105 => am_Ex d 273 8 [(2, x0), (0, x1), (0, x2), (0, v105)] [] r104.2) else (am_g (am_ob x0 1) <| am_g (am_ob (am_rd M x0 2) 4) <| (am_Call d 209 [(2, am_rd M x0 2), (2, am_rd M x0 4), (0, x2)] M).bind fun r108 => some (r108.1, r108.2))) := by
  refine (am_e0 rfl rfl).trans ?_
  refine (am_e0 rfl rfl).trans ?_
  refine (am_i_ge rfl).trans (am_if_congr (fun c101 => ?_) (fun c101 => ?_))
  · refine (am_e0 rfl rfl).trans ?_
    refine (am_gf (c := 1) (t := 2) rfl rfl rfl).trans (am_g_congr fun h102 => ?_)
    refine (am_e0 rfl rfl).trans ?_
    refine (am_gf (c := 1) (t := 2) rfl rfl rfl).trans ((am_g_t h102).trans ?_)
    refine (am_e0 rfl rfl).trans ?_
    refine (am_e0 rfl rfl).trans ?_
    refine (am_e0 rfl rfl).trans ?_
    refine (am_e0 rfl rfl).trans ?_
    refine (am_cal3 (z := 256) (k := 4) (c := (am_ob (am_rd M x0 3) 0)) rfl rfl rfl rfl rfl rfl rfl rfl).trans (am_g_congr fun h103 => ?_)
    refine am_bind_congr fun r104 => ?_
    show am_Ex d 273 20 [(2, x0), (0, x1), (0, x2), (0, x3)] [] r104.2 = _
    refine (am_e0 rfl rfl).trans ?_
    refine am_lets (L := fun v105 => [(2, x0), (0, x1), (0, x2), (0, v105)]) (fun v105 => ?_)
    refine (am_e1 rfl rfl).trans ?_
    exact (am_e5 rfl).trans rfl
  · refine (am_e0 rfl rfl).trans ?_
    refine (am_gf (c := 1) (t := 2) rfl rfl rfl).trans (am_g_congr fun h106 => ?_)
    refine (am_e0 rfl rfl).trans ?_
    refine (am_gf (c := 1) (t := 2) rfl rfl rfl).trans ((am_g_t h106).trans ?_)
    refine (am_e0 rfl rfl).trans ?_
    refine (am_cal3 (z := 209) (k := 3) (c := (am_ob (am_rd M x0 2) 4)) rfl rfl rfl rfl rfl rfl rfl rfl).trans (am_g_congr fun h107 => ?_)
    refine am_bind_congr fun r108 => ?_
    show am_Ex d 273 28 [(2, x0), (0, x1), (0, x2), (0, x3)] [(0, r108.1)] r108.2 = _
    exact (am_e4i rfl rfl).trans rfl
-- 274: UnlearnedHand$Foresight.nightsToFree(II)I
set_option maxRecDepth 10000 in
theorem aq_274 (d : Nat) (x0 x1 x2 : Int) (M : am_M) : am_Call d 274 [(2, x0), (0, x1), (0, x2)] M = (am_g (am_ob x0 1) <| am_g (am_ob (am_rd M x0 4) 3) <| (am_Call d 22 [(2, am_rd M x0 4), (2, am_rd M x0 1)] M).bind fun r103 => am_Ex d 274 8 [(2, x0), (0, x1), (0, x2), (0, 0)] [] r103.2) := by
  show am_Ex d 274 0 [(2, x0), (0, x1), (0, x2), am_N] [] M = _
  refine (am_e0 rfl rfl).trans ?_
  refine (am_gf (c := 1) (t := 2) rfl rfl rfl).trans (am_g_congr fun h101 => ?_)
  refine (am_e0 rfl rfl).trans ?_
  refine (am_gf (c := 1) (t := 2) rfl rfl rfl).trans ((am_g_t h101).trans ?_)
  refine (am_cal3 (z := 22) (k := 2) (c := (am_ob (am_rd M x0 4) 3)) rfl rfl rfl rfl rfl rfl rfl rfl).trans (am_g_congr fun h102 => ?_)
  refine am_bind_congr fun r103 => ?_
  show am_Ex d 274 5 [(2, x0), (0, x1), (0, x2), am_N] [] r103.2 = _
  refine (am_e0 rfl rfl).trans ?_
  refine (am_e0 rfl rfl).trans ?_
  exact (am_e5 rfl).trans rfl
set_option maxRecDepth 10000 in
theorem aq_274_8 (d : Nat) (x0 x1 x2 x3 : Int) (M : am_M) : am_Ex d 274 8 [(2, x0), (0, x1), (0, x2), (0, x3)] [] M = (if x3 ≤ x1 then (am_g (am_ob x0 1) <| am_g (am_ob (am_rd M x0 4) 3) <| (am_Call d 25 [(2, am_rd M x0 4), (0, x2)] M).bind fun r104 => if r104.1 = 0 then (am_g (am_ob (am_rd r104.2 x0 3) 0) <| (am_Call d 256 [(2, am_rd r104.2 x0 3), (2, am_rd r104.2 x0 4), (0, x2), (0, am_w32 (x2 + 1))] r104.2).bind fun r107 => am_let (am_w32 (x3 + 1)) fun v108 => am_Ex d 274 8 [(2, x0), (0, x1), (0, x2), (0, v108)] [] r107.2) else (some (x3, r104.2))) else (some ((-1), M))) := by
  refine (am_e0 rfl rfl).trans ?_
  refine (am_e0 rfl rfl).trans ?_
  refine (am_i_gt rfl).trans (am_if_congr (fun c101 => ?_) (fun c101 => ?_))
  · refine (am_e0 rfl rfl).trans ?_
    refine (am_gf (c := 1) (t := 2) rfl rfl rfl).trans (am_g_congr fun h102 => ?_)
    refine (am_e0 rfl rfl).trans ?_
    refine (am_cal3 (z := 25) (k := 2) (c := (am_ob (am_rd M x0 4) 3)) rfl rfl rfl rfl rfl rfl rfl rfl).trans (am_g_congr fun h103 => ?_)
    refine am_bind_congr fun r104 => ?_
    show am_Ex d 274 15 [(2, x0), (0, x1), (0, x2), (0, x3)] [(0, r104.1)] r104.2 = _
    refine (am_z_eq rfl).trans (am_if_congr (fun c105 => ?_) (fun c105 => ?_))
    · refine (am_e0 rfl rfl).trans ?_
      refine (am_gf (c := 1) (t := 2) rfl rfl rfl).trans ((am_g_t h102).trans ?_)
      refine (am_e0 rfl rfl).trans ?_
      refine (am_gf (c := 1) (t := 2) rfl rfl rfl).trans ((am_g_t h102).trans ?_)
      refine (am_e0 rfl rfl).trans ?_
      refine (am_e0 rfl rfl).trans ?_
      refine (am_e0 rfl rfl).trans ?_
      refine (am_e0 rfl rfl).trans ?_
      refine (am_cal3 (z := 256) (k := 4) (c := (am_ob (am_rd r104.2 x0 3) 0)) rfl rfl rfl rfl rfl rfl rfl rfl).trans (am_g_congr fun h106 => ?_)
      refine am_bind_congr fun r107 => ?_
      show am_Ex d 274 27 [(2, x0), (0, x1), (0, x2), (0, x3)] [] r107.2 = _
      refine (am_e0 rfl rfl).trans ?_
      refine am_lets (L := fun v108 => [(2, x0), (0, x1), (0, x2), (0, v108)]) (fun v108 => ?_)
      refine (am_e1 rfl rfl).trans ?_
      exact (am_e5 rfl).trans rfl
    · refine (am_e0 rfl rfl).trans ?_
      exact (am_e4i rfl rfl).trans rfl
  · refine (am_e0 rfl rfl).trans ?_
    exact (am_e4i rfl rfl).trans rfl
-- 275: UnlearnedHand$Foresight.nightsOf(II)I
set_option maxRecDepth 10000 in
theorem aq_275 (d : Nat) (x0 x1 x2 : Int) (M : am_M) : am_Call d 275 [(2, x0), (0, x1), (0, x2)] M = (am_g (am_ob x0 1) <| am_g (am_ob (am_rd M x0 4) 3) <| (am_Call d 22 [(2, am_rd M x0 4), (2, am_rd M x0 1)] M).bind fun r103 => am_g (am_ob (am_rd r103.2 x0 2) 4) <| (am_Call d 174 [(2, am_rd r103.2 x0 2), (0, 0), (2, am_rd r103.2 x0 4), (0, x1), (0, x2), (0, 0)] r103.2).bind fun r105 => if r105.1 = 0 then (some ((-1), r105.2)) else (am_Ex d 275 20 [(2, x0), (0, x1), (0, x2), (0, 1)] [] r105.2)) := by
  show am_Ex d 275 0 [(2, x0), (0, x1), (0, x2), am_N] [] M = _
  refine (am_e0 rfl rfl).trans ?_
  refine (am_gf (c := 1) (t := 2) rfl rfl rfl).trans (am_g_congr fun h101 => ?_)
  refine (am_e0 rfl rfl).trans ?_
  refine (am_gf (c := 1) (t := 2) rfl rfl rfl).trans ((am_g_t h101).trans ?_)
  refine (am_cal3 (z := 22) (k := 2) (c := (am_ob (am_rd M x0 4) 3)) rfl rfl rfl rfl rfl rfl rfl rfl).trans (am_g_congr fun h102 => ?_)
  refine am_bind_congr fun r103 => ?_
  show am_Ex d 275 5 [(2, x0), (0, x1), (0, x2), am_N] [] r103.2 = _
  refine (am_e0 rfl rfl).trans ?_
  refine (am_gf (c := 1) (t := 2) rfl rfl rfl).trans ((am_g_t h101).trans ?_)
  refine (am_e0 rfl rfl).trans ?_
  refine (am_e0 rfl rfl).trans ?_
  refine (am_gf (c := 1) (t := 2) rfl rfl rfl).trans ((am_g_t h101).trans ?_)
  refine (am_e0 rfl rfl).trans ?_
  refine (am_e0 rfl rfl).trans ?_
  refine (am_e0 rfl rfl).trans ?_
  refine (am_cal3 (z := 174) (k := 6) (c := (am_ob (am_rd r103.2 x0 2) 4)) rfl rfl rfl rfl rfl rfl rfl rfl).trans (am_g_congr fun h104 => ?_)
  refine am_bind_congr fun r105 => ?_
  show am_Ex d 275 14 [(2, x0), (0, x1), (0, x2), am_N] [(0, r105.1)] r105.2 = _
  refine (am_z_ne rfl).trans (am_if_congr (fun c106 => ?_) (fun c106 => ?_))
  · refine (am_e0 rfl rfl).trans ?_
    exact (am_e4i rfl rfl).trans rfl
  · refine (am_e0 rfl rfl).trans ?_
    refine (am_e0 rfl rfl).trans ?_
    exact (am_e5 rfl).trans rfl
set_option maxRecDepth 10000 in
theorem aq_275_20 (d : Nat) (x0 x1 x2 x3 : Int) (M : am_M) : am_Ex d 275 20 [(2, x0), (0, x1), (0, x2), (0, x3)] [] M = (if x3 ≤ 200 then (am_g (am_ob x0 1) <| am_g (am_ob (am_rd M x0 4) 3) <| (am_Call d 25 [(2, am_rd M x0 4), (0, x1)] M).bind fun r104 => if r104.1 = 0 then (am_g (am_ob (am_rd r104.2 x0 3) 0) <| (am_Call d 256 [(2, am_rd r104.2 x0 3), (2, am_rd r104.2 x0 4), (0, x1), (0, am_w32 (x1 + 1))] r104.2).bind fun r107 => am_g (am_ob (am_rd r107.2 x0 2) 4) <| (am_Call d 174 [(2, am_rd r107.2 x0 2), (0, 0), (2, am_rd r107.2 x0 4), (0, x1), (0, x2), (0, 0)] r107.2).bind fun r109 => if r109.1 = 0 then (some (x3, r109.2)) else (am_let (am_w32 (x3 + 1)) fun v111 => am_Ex d 275 20 [(2, x0), (0, x1), (0, x2), (0, v111)] [] r109.2)) else (some ((-1), r104.2))) else (some ((-1), M))) := by
  refine (am_e0 rfl rfl).trans ?_
  refine (am_e0 rfl rfl).trans ?_
  refine (am_i_gt rfl).trans (am_if_congr (fun c101 => ?_) (fun c101 => ?_))
  · refine (am_e0 rfl rfl).trans ?_
    refine (am_gf (c := 1) (t := 2) rfl rfl rfl).trans (am_g_congr fun h102 => ?_)
    refine (am_e0 rfl rfl).trans ?_
    refine (am_cal3 (z := 25) (k := 2) (c := (am_ob (am_rd M x0 4) 3)) rfl rfl rfl rfl rfl rfl rfl rfl).trans (am_g_congr fun h103 => ?_)
    refine am_bind_congr fun r104 => ?_
    show am_Ex d 275 27 [(2, x0), (0, x1), (0, x2), (0, x3)] [(0, r104.1)] r104.2 = _
    refine (am_z_ne rfl).trans (am_if_congr (fun c105 => ?_) (fun c105 => ?_))
    · refine (am_e0 rfl rfl).trans ?_
      refine (am_gf (c := 1) (t := 2) rfl rfl rfl).trans ((am_g_t h102).trans ?_)
      refine (am_e0 rfl rfl).trans ?_
      refine (am_gf (c := 1) (t := 2) rfl rfl rfl).trans ((am_g_t h102).trans ?_)
      refine (am_e0 rfl rfl).trans ?_
      refine (am_e0 rfl rfl).trans ?_
      refine (am_e0 rfl rfl).trans ?_
      refine (am_e0 rfl rfl).trans ?_
      refine (am_cal3 (z := 256) (k := 4) (c := (am_ob (am_rd r104.2 x0 3) 0)) rfl rfl rfl rfl rfl rfl rfl rfl).trans (am_g_congr fun h106 => ?_)
      refine am_bind_congr fun r107 => ?_
      show am_Ex d 275 37 [(2, x0), (0, x1), (0, x2), (0, x3)] [] r107.2 = _
      refine (am_e0 rfl rfl).trans ?_
      refine (am_gf (c := 1) (t := 2) rfl rfl rfl).trans ((am_g_t h102).trans ?_)
      refine (am_e0 rfl rfl).trans ?_
      refine (am_e0 rfl rfl).trans ?_
      refine (am_gf (c := 1) (t := 2) rfl rfl rfl).trans ((am_g_t h102).trans ?_)
      refine (am_e0 rfl rfl).trans ?_
      refine (am_e0 rfl rfl).trans ?_
      refine (am_e0 rfl rfl).trans ?_
      refine (am_cal3 (z := 174) (k := 6) (c := (am_ob (am_rd r107.2 x0 2) 4)) rfl rfl rfl rfl rfl rfl rfl rfl).trans (am_g_congr fun h108 => ?_)
      refine am_bind_congr fun r109 => ?_
      show am_Ex d 275 46 [(2, x0), (0, x1), (0, x2), (0, x3)] [(0, r109.1)] r109.2 = _
      refine (am_z_ne rfl).trans (am_if_congr (fun c110 => ?_) (fun c110 => ?_))
      · refine (am_e0 rfl rfl).trans ?_
        exact (am_e4i rfl rfl).trans rfl
      · refine (am_e0 rfl rfl).trans ?_
        refine am_lets (L := fun v111 => [(2, x0), (0, x1), (0, x2), (0, v111)]) (fun v111 => ?_)
        refine (am_e1 rfl rfl).trans ?_
        exact (am_e5 rfl).trans rfl
    · refine (am_e5 rfl).trans ?_
      show am_Ex d 275 52 [am_N, am_N, am_N, am_N] [] r104.2 = _
      refine (am_e0 rfl rfl).trans ?_
      exact (am_e4i rfl rfl).trans rfl
  · refine (am_e5 rfl).trans ?_
    show am_Ex d 275 52 [am_N, am_N, am_N, am_N] [] M = _
    refine (am_e0 rfl rfl).trans ?_
    exact (am_e4i rfl rfl).trans rfl
