/-! equations of the methods 195 .. 215 -/
-- 195: UnlearnedHandModel.saysOf(I)J
set_option maxRecDepth 10000 in
theorem aq_195 (d : Nat) (x0 x1 : Int) (M : am_M) : am_Call d 195 [(2, x0), (0, x1)] M = (am_Ex d 195 5 [(2, x0), am_N, (0, 0), (0, x1), am_N] [] M) := by
  show am_Ex d 195 0 [(2, x0), (0, x1), am_N, am_N, am_N] [] M = _
  refine (am_e0 rfl rfl).trans ?_
  refine (am_e0 rfl rfl).trans ?_
  refine (am_e0 rfl rfl).trans ?_
  refine (am_e0 rfl rfl).trans ?_
  exact (am_e5 rfl).trans rfl
set_option maxRecDepth 10000 in
theorem aq_195_5 (d : Nat) (x0 x2 x3 : Int) (M : am_M) : am_Ex d 195 5 [(2, x0), am_N, (0, x2), (0, x3), am_N] [] M = (am_g (am_ob x0 11) <| am_g (am_ar (am_rd M x0 12) 20 x3) <| if am_rd M (am_rd M x0 12) x3 = 408 then (am_g (am_ar (am_rd M x0 40) 21 0) <| some (am_rd M (am_rd M x0 40) 0, M)) else (am_let (am_rd M (am_rd M x0 12) x3) fun v105 => if v105 = 400 then (am_Ex d 195 23 [(2, x0), am_N, (0, x2), (0, x3), (0, v105)] [] M) else (if v105 = 401 then (am_Ex d 195 23 [(2, x0), am_N, (0, x2), (0, x3), (0, v105)] [] M) else (if v105 = 402 then (am_g (am_ar (am_rd M x0 40) 21 (am_w32 (x2 - 1))) <| am_let (am_wr M (am_rd M x0 40) (am_w32 (x2 - 1)) (am_w64 (-(am_rd M (am_rd M x0 40) (am_w32 (x2 - 1)))))) fun M110 => am_Ex d 195 118 [(2, x0), am_N, (0, x2), (0, x3), am_N] [] M110) else (if v105 = 403 then (am_g (am_ar (am_rd M x0 40) 21 (am_w32 (x2 - 1))) <| (am_Call d 85 [(1, am_rd M (am_rd M x0 40) (am_w32 (x2 - 1)))] M).bind fun r113 => am_let (am_wr r113.2 (am_rd M x0 40) (am_w32 (x2 - 1)) r113.1) fun M114 => am_Ex d 195 118 [(2, x0), am_N, (0, x2), (0, x3), am_N] [] M114) else (if v105 = 405 then (am_g (am_ar (am_rd M x0 40) 21 (am_w32 (x2 - 1))) <| am_let (am_wr M (am_rd M x0 40) (am_w32 (x2 - 1)) (am_w64 (1 - (am_rd M (am_rd M x0 40) (am_w32 (x2 - 1)))))) fun M117 => am_Ex d 195 118 [(2, x0), am_N, (0, x2), (0, x3), am_N] [] M117) else (am_let (am_w32 (x2 + (-1))) fun v118 => am_g (am_ar (am_rd M x0 40) 21 (am_w32 (v118 - 1))) <| am_g (am_ar (am_rd M x0 40) 21 v118) <| (am_Call d 155 [(0, v105), (1, am_rd M (am_rd M x0 40) (am_w32 (v118 - 1))), (1, am_rd M (am_rd M x0 40) v118)] M).bind fun r121 => am_let (am_wr r121.2 (am_rd M x0 40) (am_w32 (v118 - 1)) r121.1) fun M122 => am_Ex d 195 118 [(2, x0), am_N, (0, v118), (0, x3), am_N] [] M122))))))) := by
  refine (am_e0 rfl rfl).trans ?_
  refine (am_gf (c := 11) (t := 2) rfl rfl rfl).trans (am_g_congr fun h101 => ?_)
  refine (am_e0 rfl rfl).trans ?_
  refine (am_ial rfl).trans (am_g_congr fun h102 => ?_)
  refine (am_e0 rfl rfl).trans ?_
  refine (am_i_eq rfl).trans (am_if_congr (fun c103 => ?_) (fun c103 => ?_))
  · refine (am_e0 rfl rfl).trans ?_
    refine (am_gf (c := 11) (t := 2) rfl rfl rfl).trans ((am_g_t h101).trans ?_)
    refine (am_e0 rfl rfl).trans ?_
    refine (am_lal rfl).trans (am_g_congr fun h104 => ?_)
    exact (am_e4l rfl rfl).trans rfl
  · refine (am_e0 rfl rfl).trans ?_
    refine (am_gf (c := 11) (t := 2) rfl rfl rfl).trans ((am_g_t h101).trans ?_)
    refine (am_e0 rfl rfl).trans ?_
    refine (am_ial rfl).trans ((am_g_t h102).trans ?_)
    refine (am_e0 rfl rfl).trans ?_
    refine am_lets (L := fun v105 => [(2, x0), am_N, (0, x2), (0, x3), (0, v105)]) (fun v105 => ?_)
    refine (am_e0 rfl rfl).trans ?_
    refine (am_e0 rfl rfl).trans ?_
    refine (am_i_eq rfl).trans (am_if_congr (fun c106 => ?_) (fun c106 => ?_))
    · exact (am_e5 rfl).trans rfl
    · refine (am_e0 rfl rfl).trans ?_
      refine (am_e0 rfl rfl).trans ?_
      refine (am_i_ne rfl).trans (am_if_congr (fun c107 => ?_) (fun c107 => ?_))
      · exact (am_e5 rfl).trans rfl
      · refine (am_e0 rfl rfl).trans ?_
        refine (am_e0 rfl rfl).trans ?_
        refine (am_i_ne rfl).trans (am_if_congr (fun c108 => ?_) (fun c108 => ?_))
        · refine (am_e0 rfl rfl).trans ?_
          refine (am_gf (c := 11) (t := 2) rfl rfl rfl).trans ((am_g_t h101).trans ?_)
          refine (am_e0 rfl rfl).trans ?_
          refine (am_e0 rfl rfl).trans ?_
          refine (am_e0 rfl rfl).trans ?_
          refine (am_e0 rfl rfl).trans ?_
          refine (am_gf (c := 11) (t := 2) rfl rfl rfl).trans ((am_g_t h101).trans ?_)
          refine (am_e0 rfl rfl).trans ?_
          refine (am_e0 rfl rfl).trans ?_
          refine (am_e0 rfl rfl).trans ?_
          refine (am_lal rfl).trans (am_g_congr fun h109 => ?_)
          refine (am_e0 rfl rfl).trans ?_
          refine (am_las rfl).trans ((am_g_t h109).trans ?_)
          refine am_letm (fun M110 => ?_)
          refine (am_e1 rfl rfl).trans ?_
          exact (am_e5 rfl).trans rfl
        · refine (am_e0 rfl rfl).trans ?_
          refine (am_e0 rfl rfl).trans ?_
          refine (am_i_ne rfl).trans (am_if_congr (fun c111 => ?_) (fun c111 => ?_))
          · refine (am_e0 rfl rfl).trans ?_
            refine (am_gf (c := 11) (t := 2) rfl rfl rfl).trans ((am_g_t h101).trans ?_)
            refine (am_e0 rfl rfl).trans ?_
            refine (am_e0 rfl rfl).trans ?_
            refine (am_e0 rfl rfl).trans ?_
            refine (am_e0 rfl rfl).trans ?_
            refine (am_gf (c := 11) (t := 2) rfl rfl rfl).trans ((am_g_t h101).trans ?_)
            refine (am_e0 rfl rfl).trans ?_
            refine (am_e0 rfl rfl).trans ?_
            refine (am_e0 rfl rfl).trans ?_
            refine (am_lal rfl).trans (am_g_congr fun h112 => ?_)
            refine (am_cal3 (z := 85) (k := 1) (c := true) rfl rfl rfl rfl rfl rfl rfl rfl).trans ((am_g_t rfl).trans ?_)
            refine am_bind_congr fun r113 => ?_
            show am_Ex d 195 78 [(2, x0), am_N, (0, x2), (0, x3), (0, v105)] [(1, r113.1), (0, am_w32 (x2 - 1)), (2, am_rd M x0 40)] r113.2 = _
            refine (am_las rfl).trans ((am_g_t h112).trans ?_)
            refine am_letm (fun M114 => ?_)
            refine (am_e1 rfl rfl).trans ?_
            exact (am_e5 rfl).trans rfl
          · refine (am_e0 rfl rfl).trans ?_
            refine (am_e0 rfl rfl).trans ?_
            refine (am_i_ne rfl).trans (am_if_congr (fun c115 => ?_) (fun c115 => ?_))
            · refine (am_e0 rfl rfl).trans ?_
              refine (am_gf (c := 11) (t := 2) rfl rfl rfl).trans ((am_g_t h101).trans ?_)
              refine (am_e0 rfl rfl).trans ?_
              refine (am_e0 rfl rfl).trans ?_
              refine (am_e0 rfl rfl).trans ?_
              refine (am_e0 rfl rfl).trans ?_
              refine (am_e0 rfl rfl).trans ?_
              refine (am_gf (c := 11) (t := 2) rfl rfl rfl).trans ((am_g_t h101).trans ?_)
              refine (am_e0 rfl rfl).trans ?_
              refine (am_e0 rfl rfl).trans ?_
              refine (am_e0 rfl rfl).trans ?_
              refine (am_lal rfl).trans (am_g_congr fun h116 => ?_)
              refine (am_e0 rfl rfl).trans ?_
              refine (am_las rfl).trans ((am_g_t h116).trans ?_)
              refine am_letm (fun M117 => ?_)
              refine (am_e1 rfl rfl).trans ?_
              exact (am_e5 rfl).trans rfl
            · refine (am_e0 rfl rfl).trans ?_
              refine am_lets (L := fun v118 => [(2, x0), am_N, (0, v118), (0, x3), (0, v105)]) (fun v118 => ?_)
              refine (am_e0 rfl rfl).trans ?_
              refine (am_gf (c := 11) (t := 2) rfl rfl rfl).trans ((am_g_t h101).trans ?_)
              refine (am_e0 rfl rfl).trans ?_
              refine (am_e0 rfl rfl).trans ?_
              refine (am_e0 rfl rfl).trans ?_
              refine (am_e0 rfl rfl).trans ?_
              refine (am_e0 rfl rfl).trans ?_
              refine (am_gf (c := 11) (t := 2) rfl rfl rfl).trans ((am_g_t h101).trans ?_)
              refine (am_e0 rfl rfl).trans ?_
              refine (am_e0 rfl rfl).trans ?_
              refine (am_e0 rfl rfl).trans ?_
              refine (am_lal rfl).trans (am_g_congr fun h119 => ?_)
              refine (am_e0 rfl rfl).trans ?_
              refine (am_gf (c := 11) (t := 2) rfl rfl rfl).trans ((am_g_t h101).trans ?_)
              refine (am_e0 rfl rfl).trans ?_
              refine (am_lal rfl).trans (am_g_congr fun h120 => ?_)
              refine (am_cal3 (z := 155) (k := 3) (c := true) rfl rfl rfl rfl rfl rfl rfl rfl).trans ((am_g_t rfl).trans ?_)
              refine am_bind_congr fun r121 => ?_
              show am_Ex d 195 116 [(2, x0), am_N, (0, v118), (0, x3), (0, v105)] [(1, r121.1), (0, am_w32 (v118 - 1)), (2, am_rd M x0 40)] r121.2 = _
              refine (am_las rfl).trans ((am_g_t h119).trans ?_)
              refine am_letm (fun M122 => ?_)
              exact (am_e5 rfl).trans rfl
set_option maxRecDepth 10000 in
theorem aq_195_23 (d : Nat) (x0 x2 x3 x4 : Int) (M : am_M) : am_Ex d 195 23 [(2, x0), am_N, (0, x2), (0, x3), (0, x4)] [] M = (am_g (am_ob x0 11) <| if x4 = 400 then (am_g (am_ar (am_rd M x0 13) 20 x3) <| am_g (am_ar (am_rd M x0 40) 21 x2) <| am_let (am_wr M (am_rd M x0 40) x2 (am_rd M (am_rd M x0 13) x3)) fun M105 => am_let (am_w32 (x2 + 1)) fun v106 => am_Ex d 195 118 [(2, x0), am_N, (0, v106), (0, x3), am_N] [] M105) else (am_g (am_ar (am_rd M x0 13) 20 x3) <| am_g (am_ar (am_rd M x0 39) 20 (am_rd M (am_rd M x0 13) x3)) <| am_g (am_ar (am_rd M x0 40) 21 x2) <| am_let (am_wr M (am_rd M x0 40) x2 (am_rd M (am_rd M x0 39) (am_rd M (am_rd M x0 13) x3))) fun M110 => am_let (am_w32 (x2 + 1)) fun v111 => am_Ex d 195 118 [(2, x0), am_N, (0, v111), (0, x3), am_N] [] M110)) := by
  refine (am_e0 rfl rfl).trans ?_
  refine (am_gf (c := 11) (t := 2) rfl rfl rfl).trans (am_g_congr fun h101 => ?_)
  refine (am_e0 rfl rfl).trans ?_
  refine (am_e0 rfl rfl).trans ?_
  refine (am_e0 rfl rfl).trans ?_
  refine (am_i_ne rfl).trans (am_if_congr (fun c102 => ?_) (fun c102 => ?_))
  · refine (am_e0 rfl rfl).trans ?_
    refine (am_gf (c := 11) (t := 2) rfl rfl rfl).trans ((am_g_t h101).trans ?_)
    refine (am_e0 rfl rfl).trans ?_
    refine (am_ial rfl).trans (am_g_congr fun h103 => ?_)
    refine (am_e0 rfl rfl).trans ?_
    refine (am_e1 rfl rfl).trans ?_
    refine (am_las rfl).trans (am_g_congr fun h104 => ?_)
    refine am_letm (fun M105 => ?_)
    refine (am_e0 rfl rfl).trans ?_
    refine am_lets (L := fun v106 => [(2, x0), am_N, (0, v106), (0, x3), (0, x4)]) (fun v106 => ?_)
    refine (am_e1 rfl rfl).trans ?_
    exact (am_e5 rfl).trans rfl
  · refine (am_e0 rfl rfl).trans ?_
    refine (am_gf (c := 11) (t := 2) rfl rfl rfl).trans ((am_g_t h101).trans ?_)
    refine (am_e0 rfl rfl).trans ?_
    refine (am_gf (c := 11) (t := 2) rfl rfl rfl).trans ((am_g_t h101).trans ?_)
    refine (am_e0 rfl rfl).trans ?_
    refine (am_ial rfl).trans (am_g_congr fun h107 => ?_)
    refine (am_ial rfl).trans (am_g_congr fun h108 => ?_)
    refine (am_e0 rfl rfl).trans ?_
    refine (am_las rfl).trans (am_g_congr fun h109 => ?_)
    refine am_letm (fun M110 => ?_)
    refine (am_e0 rfl rfl).trans ?_
    refine am_lets (L := fun v111 => [(2, x0), am_N, (0, v111), (0, x3), (0, x4)]) (fun v111 => ?_)
    refine (am_e1 rfl rfl).trans ?_
    exact (am_e5 rfl).trans rfl
set_option maxRecDepth 10000 in
theorem aq_195_118 (d : Nat) (x0 x2 x3 : Int) (M : am_M) : am_Ex d 195 118 [(2, x0), am_N, (0, x2), (0, x3), am_N] [] M = (am_let (am_w32 (x3 + 1)) fun v101 => am_Ex d 195 5 [(2, x0), am_N, (0, x2), (0, v101), am_N] [] M) := by
  refine (am_e0 rfl rfl).trans ?_
  refine am_lets (L := fun v101 => [(2, x0), am_N, (0, x2), (0, v101), am_N]) (fun v101 => ?_)
  refine (am_e1 rfl rfl).trans ?_
  exact (am_e5 rfl).trans rfl
-- 196: UnlearnedHandModel.isBound(I)Z
set_option maxRecDepth 10000 in
theorem aq_196 (d : Nat) (x0 x1 : Int) (M : am_M) : am_Call d 196 [(2, x0), (0, x1)] M = (am_g (am_ob x0 11) <| (am_Call d 144 [(2, x0), (0, x1)] M).bind fun r102 => if r102.1 = 0 then (some (0, r102.2)) else (am_g (am_ar (am_rd r102.2 x0 0) 20 (am_w32 (216 + x1))) <| if am_rd r102.2 (am_rd r102.2 x0 0) (am_w32 (216 + x1)) = 0 then (some (1, r102.2)) else (some (0, r102.2)))) := by
  show am_Ex d 196 0 [(2, x0), (0, x1)] [] M = _
  refine (am_e0 rfl rfl).trans ?_
  refine (am_e0 rfl rfl).trans ?_
  refine (am_cal3 (z := 144) (k := 2) (c := (am_ob x0 11)) rfl rfl rfl rfl rfl rfl rfl rfl).trans (am_g_congr fun h101 => ?_)
  refine am_bind_congr fun r102 => ?_
  show am_Ex d 196 3 [(2, x0), (0, x1)] [(0, r102.1)] r102.2 = _
  refine (am_z_eq rfl).trans (am_if_congr (fun c103 => ?_) (fun c103 => ?_))
  · refine (am_e5 rfl).trans ?_
    show am_Ex d 196 14 [am_N, am_N] [] r102.2 = _
    refine (am_e0 rfl rfl).trans ?_
    exact (am_e4i rfl rfl).trans rfl
  · refine (am_e0 rfl rfl).trans ?_
    refine (am_gf (c := 11) (t := 2) rfl rfl rfl).trans ((am_g_t h101).trans ?_)
    refine (am_e0 rfl rfl).trans ?_
    refine (am_e0 rfl rfl).trans ?_
    refine (am_e0 rfl rfl).trans ?_
    refine (am_ial rfl).trans (am_g_congr fun h104 => ?_)
    refine (am_z_ne rfl).trans (am_if_congr (fun c105 => ?_) (fun c105 => ?_))
    · refine (am_e0 rfl rfl).trans ?_
      refine (am_e1 rfl rfl).trans ?_
      exact (am_e4i rfl rfl).trans rfl
    · refine (am_e5 rfl).trans ?_
      show am_Ex d 196 14 [am_N, am_N] [] r102.2 = _
      refine (am_e0 rfl rfl).trans ?_
      exact (am_e4i rfl rfl).trans rfl
-- 197: UnlearnedHandModel.teaches(III)V
set_option maxRecDepth 10000 in
theorem aq_197 (d : Nat) (x0 x1 x2 x3 : Int) (M : am_M) : am_Call d 197 [(2, x0), (0, x1), (0, x2), (0, x3)] M = (am_g (am_ob x0 11) <| (am_Call d 88 [(2, x0)] M).bind fun r102 => am_g (am_ar (am_rd r102.2 x0 41) 20 (am_w32 ((am_w32 (8 * x1)) + x2))) <| (am_Call d 157 [(2, x0), (0, x1), (0, x2), (0, am_w32 ((am_rd r102.2 (am_rd r102.2 x0 41) (am_w32 ((am_w32 (8 * x1)) + x2))) + x3))] r102.2).bind fun r104 => (am_Call d 89 [(2, x0)] r104.2).bind fun r105 => some (0, r105.2)) := by
  show am_Ex d 197 0 [(2, x0), (0, x1), (0, x2), (0, x3)] [] M = _
  refine (am_e0 rfl rfl).trans ?_
  refine (am_cal3 (z := 88) (k := 1) (c := (am_ob x0 11)) rfl rfl rfl rfl rfl rfl rfl rfl).trans (am_g_congr fun h101 => ?_)
  refine am_bind_congr fun r102 => ?_
  show am_Ex d 197 2 [(2, x0), (0, x1), (0, x2), (0, x3)] [] r102.2 = _
  refine (am_e0 rfl rfl).trans ?_
  refine (am_e0 rfl rfl).trans ?_
  refine (am_e0 rfl rfl).trans ?_
  refine (am_e0 rfl rfl).trans ?_
  refine (am_gf (c := 11) (t := 2) rfl rfl rfl).trans ((am_g_t h101).trans ?_)
  refine (am_e0 rfl rfl).trans ?_
  refine (am_e0 rfl rfl).trans ?_
  refine (am_e0 rfl rfl).trans ?_
  refine (am_e0 rfl rfl).trans ?_
  refine (am_e0 rfl rfl).trans ?_
  refine (am_ial rfl).trans (am_g_congr fun h103 => ?_)
  refine (am_e0 rfl rfl).trans ?_
  refine (am_e0 rfl rfl).trans ?_
  refine (am_cal3 (z := 157) (k := 4) (c := (am_ob x0 11)) rfl rfl rfl rfl rfl rfl rfl rfl).trans ((am_g_t h101).trans ?_)
  refine am_bind_congr fun r104 => ?_
  show am_Ex d 197 16 [(2, x0), (0, x1), (0, x2), (0, x3)] [] r104.2 = _
  refine (am_e0 rfl rfl).trans ?_
  refine (am_cal3 (z := 89) (k := 1) (c := (am_ob x0 11)) rfl rfl rfl rfl rfl rfl rfl rfl).trans ((am_g_t h101).trans ?_)
  refine am_bind_congr fun r105 => ?_
  show am_Ex d 197 18 [(2, x0), (0, x1), (0, x2), (0, x3)] [] r105.2 = _
  exact (am_e4v rfl rfl).trans rfl
-- 198: UnlearnedHandModel.ofTurn(II)I
set_option maxRecDepth 10000 in
theorem aq_198 (d : Nat) (x0 x1 x2 : Int) (M : am_M) : am_Call d 198 [(2, x0), (0, x1), (0, x2)] M = (am_g (am_ob x0 11) <| (am_Call d 143 [(2, x0), (0, x1)] M).bind fun r102 => if r102.1 = 0 then (some ((-1), r102.2)) else (if x2 = 0 then (am_g (am_ar (am_rd r102.2 x0 0) 20 (am_w32 (10 + x1))) <| some (am_rd r102.2 (am_rd r102.2 x0 0) (am_w32 (10 + x1)), r102.2)) else (if x2 = 1 then (am_g (am_ar (am_rd r102.2 x0 0) 20 (am_w32 (18 + x1))) <| some (am_rd r102.2 (am_rd r102.2 x0 0) (am_w32 (18 + x1)), r102.2)) else (some ((-1), r102.2))))) := by
  show am_Ex d 198 0 [(2, x0), (0, x1), (0, x2)] [] M = _
  refine (am_e0 rfl rfl).trans ?_
  refine (am_e0 rfl rfl).trans ?_
  refine (am_cal3 (z := 143) (k := 2) (c := (am_ob x0 11)) rfl rfl rfl rfl rfl rfl rfl rfl).trans (am_g_congr fun h101 => ?_)
  refine am_bind_congr fun r102 => ?_
  show am_Ex d 198 3 [(2, x0), (0, x1), (0, x2)] [(0, r102.1)] r102.2 = _
  refine (am_z_ne rfl).trans (am_if_congr (fun c103 => ?_) (fun c103 => ?_))
  · refine (am_e0 rfl rfl).trans ?_
    refine (am_e1 rfl rfl).trans ?_
    exact (am_e4i rfl rfl).trans rfl
  · refine (am_e0 rfl rfl).trans ?_
    refine (am_z_ne rfl).trans (am_if_congr (fun c104 => ?_) (fun c104 => ?_))
    · refine (am_e0 rfl rfl).trans ?_
      refine (am_gf (c := 11) (t := 2) rfl rfl rfl).trans ((am_g_t h101).trans ?_)
      refine (am_e0 rfl rfl).trans ?_
      refine (am_e0 rfl rfl).trans ?_
      refine (am_e0 rfl rfl).trans ?_
      refine (am_ial rfl).trans (am_g_congr fun h105 => ?_)
      refine (am_e1 rfl rfl).trans ?_
      exact (am_e4i rfl rfl).trans rfl
    · refine (am_e0 rfl rfl).trans ?_
      refine (am_e0 rfl rfl).trans ?_
      refine (am_i_ne rfl).trans (am_if_congr (fun c106 => ?_) (fun c106 => ?_))
      · refine (am_e0 rfl rfl).trans ?_
        refine (am_gf (c := 11) (t := 2) rfl rfl rfl).trans ((am_g_t h101).trans ?_)
        refine (am_e0 rfl rfl).trans ?_
        refine (am_e0 rfl rfl).trans ?_
        refine (am_e0 rfl rfl).trans ?_
        refine (am_ial rfl).trans (am_g_congr fun h107 => ?_)
        refine (am_e1 rfl rfl).trans ?_
        exact (am_e4i rfl rfl).trans rfl
      · refine (am_e0 rfl rfl).trans ?_
        exact (am_e4i rfl rfl).trans rfl
-- 199: UnlearnedHandModel.done(IZ)I
set_option maxRecDepth 10000 in
theorem aq_199 (d : Nat) (x0 x1 x2 : Int) (M : am_M) : am_Call d 199 [(2, x0), (0, x1), (0, x2)] M = (if x1 = (-1) then (am_g (am_ob x0 11) <| am_g (am_ar (am_rd M x0 0) 20 6) <| am_let (am_wr M (am_rd M x0 0) 6 0) fun M104 => some (0, M104)) else (am_g (am_ob x0 11) <| (am_Call d 143 [(2, x0), (0, x1)] M).bind fun r106 => if r106.1 = 0 then (some ((-2), r106.2)) else (am_g (am_ar (am_rd r106.2 x0 0) 20 6) <| if am_rd r106.2 (am_rd r106.2 x0 0) 6 = 8 then (some ((-2), r106.2)) else (am_g (am_ar (am_rd r106.2 x0 0) 20 (am_w32 (38 + (am_w32 (2 * (am_rd r106.2 (am_rd r106.2 x0 0) 6)))))) <| am_let (am_wr r106.2 (am_rd r106.2 x0 0) (am_w32 (38 + (am_w32 (2 * (am_rd r106.2 (am_rd r106.2 x0 0) 6))))) x1) fun M111 => am_g (am_ar (am_rd M111 x0 0) 20 6) <| if x2 = 0 then (am_g (am_ar (am_rd M111 x0 0) 20 (am_w32 ((am_w32 (38 + (am_w32 (2 * (am_rd M111 (am_rd M111 x0 0) 6))))) + 1))) <| am_let (am_wr M111 (am_rd M111 x0 0) (am_w32 ((am_w32 (38 + (am_w32 (2 * (am_rd M111 (am_rd M111 x0 0) 6))))) + 1)) 0) fun M115 => am_g (am_ar (am_rd M115 x0 0) 20 6) <| am_let (am_wr M115 (am_rd M115 x0 0) 6 (am_w32 ((am_rd M115 (am_rd M115 x0 0) 6) + 1))) fun M117 => am_g (am_ar (am_rd M117 x0 0) 20 6) <| some (am_rd M117 (am_rd M117 x0 0) 6, M117)) else (am_g (am_ar (am_rd M111 x0 0) 20 (am_w32 ((am_w32 (38 + (am_w32 (2 * (am_rd M111 (am_rd M111 x0 0) 6))))) + 1))) <| am_let (am_wr M111 (am_rd M111 x0 0) (am_w32 ((am_w32 (38 + (am_w32 (2 * (am_rd M111 (am_rd M111 x0 0) 6))))) + 1)) 1) fun M120 => am_g (am_ar (am_rd M120 x0 0) 20 6) <| am_let (am_wr M120 (am_rd M120 x0 0) 6 (am_w32 ((am_rd M120 (am_rd M120 x0 0) 6) + 1))) fun M122 => am_g (am_ar (am_rd M122 x0 0) 20 6) <| some (am_rd M122 (am_rd M122 x0 0) 6, M122)))))) := by
  show am_Ex d 199 0 [(2, x0), (0, x1), (0, x2)] [] M = _
  refine (am_e0 rfl rfl).trans ?_
  refine (am_e0 rfl rfl).trans ?_
  refine (am_i_ne rfl).trans (am_if_congr (fun c101 => ?_) (fun c101 => ?_))
  · refine (am_e0 rfl rfl).trans ?_
    refine (am_gf (c := 11) (t := 2) rfl rfl rfl).trans (am_g_congr fun h102 => ?_)
    refine (am_e0 rfl rfl).trans ?_
    refine (am_e0 rfl rfl).trans ?_
    refine (am_ias rfl).trans (am_g_congr fun h103 => ?_)
    refine am_letm (fun M104 => ?_)
    refine (am_e0 rfl rfl).trans ?_
    exact (am_e4i rfl rfl).trans rfl
  · refine (am_e0 rfl rfl).trans ?_
    refine (am_e0 rfl rfl).trans ?_
    refine (am_cal3 (z := 143) (k := 2) (c := (am_ob x0 11)) rfl rfl rfl rfl rfl rfl rfl rfl).trans (am_g_congr fun h105 => ?_)
    refine am_bind_congr fun r106 => ?_
    show am_Ex d 199 13 [(2, x0), (0, x1), (0, x2)] [(0, r106.1)] r106.2 = _
    refine (am_z_eq rfl).trans (am_if_congr (fun c107 => ?_) (fun c107 => ?_))
    · refine (am_e5 rfl).trans ?_
      show am_Ex d 199 21 [am_N, am_N, am_N] [] r106.2 = _
      refine (am_e0 rfl rfl).trans ?_
      exact (am_e4i rfl rfl).trans rfl
    · refine (am_e0 rfl rfl).trans ?_
      refine (am_gf (c := 11) (t := 2) rfl rfl rfl).trans ((am_g_t h105).trans ?_)
      refine (am_e0 rfl rfl).trans ?_
      refine (am_ial rfl).trans (am_g_congr fun h108 => ?_)
      refine (am_e0 rfl rfl).trans ?_
      refine (am_i_ne rfl).trans (am_if_congr (fun c109 => ?_) (fun c109 => ?_))
      · refine (am_e5 rfl).trans ?_
        show am_Ex d 199 21 [am_N, am_N, am_N] [] r106.2 = _
        refine (am_e0 rfl rfl).trans ?_
        exact (am_e4i rfl rfl).trans rfl
      · refine (am_e0 rfl rfl).trans ?_
        refine (am_gf (c := 11) (t := 2) rfl rfl rfl).trans ((am_g_t h105).trans ?_)
        refine (am_e0 rfl rfl).trans ?_
        refine (am_e0 rfl rfl).trans ?_
        refine (am_e0 rfl rfl).trans ?_
        refine (am_gf (c := 11) (t := 2) rfl rfl rfl).trans ((am_g_t h105).trans ?_)
        refine (am_e0 rfl rfl).trans ?_
        refine (am_ial rfl).trans ((am_g_t h108).trans ?_)
        refine (am_e0 rfl rfl).trans ?_
        refine (am_e0 rfl rfl).trans ?_
        refine (am_e0 rfl rfl).trans ?_
        refine (am_ias rfl).trans (am_g_congr fun h110 => ?_)
        refine am_letm (fun M111 => ?_)
        refine (am_e0 rfl rfl).trans ?_
        refine (am_gf (c := 11) (t := 2) rfl rfl rfl).trans ((am_g_t h105).trans ?_)
        refine (am_e0 rfl rfl).trans ?_
        refine (am_e0 rfl rfl).trans ?_
        refine (am_e0 rfl rfl).trans ?_
        refine (am_gf (c := 11) (t := 2) rfl rfl rfl).trans ((am_g_t h105).trans ?_)
        refine (am_e0 rfl rfl).trans ?_
        refine (am_ial rfl).trans (am_g_congr fun h112 => ?_)
        refine (am_e0 rfl rfl).trans ?_
        refine (am_e0 rfl rfl).trans ?_
        refine (am_e0 rfl rfl).trans ?_
        refine (am_e0 rfl rfl).trans ?_
        refine (am_e0 rfl rfl).trans ?_
        refine (am_z_eq rfl).trans (am_if_congr (fun c113 => ?_) (fun c113 => ?_))
        · refine (am_e0 rfl rfl).trans ?_
          refine (am_ias rfl).trans (am_g_congr fun h114 => ?_)
          refine am_letm (fun M115 => ?_)
          refine (am_e0 rfl rfl).trans ?_
          refine (am_gf (c := 11) (t := 2) rfl rfl rfl).trans ((am_g_t h105).trans ?_)
          refine (am_e0 rfl rfl).trans ?_
          refine (am_e0 rfl rfl).trans ?_
          refine (am_ial rfl).trans (am_g_congr fun h116 => ?_)
          refine (am_e0 rfl rfl).trans ?_
          refine (am_e0 rfl rfl).trans ?_
          refine (am_ias rfl).trans ((am_g_t h116).trans ?_)
          refine am_letm (fun M117 => ?_)
          refine (am_e0 rfl rfl).trans ?_
          refine (am_gf (c := 11) (t := 2) rfl rfl rfl).trans ((am_g_t h105).trans ?_)
          refine (am_e0 rfl rfl).trans ?_
          refine (am_ial rfl).trans (am_g_congr fun h118 => ?_)
          exact (am_e4i rfl rfl).trans rfl
        · refine (am_e0 rfl rfl).trans ?_
          refine (am_e1 rfl rfl).trans ?_
          refine (am_ias rfl).trans (am_g_congr fun h119 => ?_)
          refine am_letm (fun M120 => ?_)
          refine (am_e0 rfl rfl).trans ?_
          refine (am_gf (c := 11) (t := 2) rfl rfl rfl).trans ((am_g_t h105).trans ?_)
          refine (am_e0 rfl rfl).trans ?_
          refine (am_e0 rfl rfl).trans ?_
          refine (am_ial rfl).trans (am_g_congr fun h121 => ?_)
          refine (am_e0 rfl rfl).trans ?_
          refine (am_e0 rfl rfl).trans ?_
          refine (am_ias rfl).trans ((am_g_t h121).trans ?_)
          refine am_letm (fun M122 => ?_)
          refine (am_e0 rfl rfl).trans ?_
          refine (am_gf (c := 11) (t := 2) rfl rfl rfl).trans ((am_g_t h105).trans ?_)
          refine (am_e0 rfl rfl).trans ?_
          refine (am_ial rfl).trans (am_g_congr fun h123 => ?_)
          exact (am_e4i rfl rfl).trans rfl
-- 200: UnlearnedHandModel.maySet(IZ)Z
set_option maxRecDepth 10000 in
theorem aq_200 (d : Nat) (x0 x1 x2 : Int) (M : am_M) : am_Call d 200 [(2, x0), (0, x1), (0, x2)] M = (am_Ex d 200 3 [(2, x0), (0, x1), (0, x2), (0, 0), am_N] [] M) := by
  show am_Ex d 200 0 [(2, x0), (0, x1), (0, x2), am_N, am_N] [] M = _
  refine (am_e0 rfl rfl).trans ?_
  refine (am_e0 rfl rfl).trans ?_
  exact (am_e5 rfl).trans rfl
set_option maxRecDepth 10000 in
theorem aq_200_3 (d : Nat) (x0 x1 x2 x3 : Int) (M : am_M) : am_Ex d 200 3 [(2, x0), (0, x1), (0, x2), (0, x3), am_N] [] M = (am_g (am_ob x0 11) <| am_g (am_ar (am_rd M x0 0) 20 0) <| if x3 < am_rd M (am_rd M x0 0) 0 then ((am_Call d 65 [(0, x1), (0, x3)] M).bind fun r104 => if r104.1 = 0 then (am_Ex d 200 21 [(2, x0), (0, x1), (0, x2), (0, x3), am_N] [] r104.2) else ((am_Call d 160 [(2, x0), (0, x1), (0, x3)] r104.2).bind fun r106 => if r106.1 = 0 then (some (0, r106.2)) else (am_Ex d 200 21 [(2, x0), (0, x1), (0, x2), (0, x3), am_N] [] r106.2))) else (am_Ex d 200 26 [(2, x0), (0, x1), (0, x2), (0, 0), am_N] [] M)) := by
  refine (am_e0 rfl rfl).trans ?_
  refine (am_e0 rfl rfl).trans ?_
  refine (am_gf (c := 11) (t := 2) rfl rfl rfl).trans (am_g_congr fun h101 => ?_)
  refine (am_e0 rfl rfl).trans ?_
  refine (am_ial rfl).trans (am_g_congr fun h102 => ?_)
  refine (am_i_ge rfl).trans (am_if_congr (fun c103 => ?_) (fun c103 => ?_))
  · refine (am_e0 rfl rfl).trans ?_
    refine (am_e0 rfl rfl).trans ?_
    refine (am_cal3 (z := 65) (k := 2) (c := true) rfl rfl rfl rfl rfl rfl rfl rfl).trans ((am_g_t rfl).trans ?_)
    refine am_bind_congr fun r104 => ?_
    show am_Ex d 200 12 [(2, x0), (0, x1), (0, x2), (0, x3), am_N] [(0, r104.1)] r104.2 = _
    refine (am_z_eq rfl).trans (am_if_congr (fun c105 => ?_) (fun c105 => ?_))
    · exact (am_e5 rfl).trans rfl
    · refine (am_e0 rfl rfl).trans ?_
      refine (am_e0 rfl rfl).trans ?_
      refine (am_e0 rfl rfl).trans ?_
      refine (am_cal3 (z := 160) (k := 3) (c := (am_ob x0 11)) rfl rfl rfl rfl rfl rfl rfl rfl).trans ((am_g_t h101).trans ?_)
      refine am_bind_congr fun r106 => ?_
      show am_Ex d 200 17 [(2, x0), (0, x1), (0, x2), (0, x3), am_N] [(0, r106.1)] r106.2 = _
      refine (am_z_ne rfl).trans (am_if_congr (fun c107 => ?_) (fun c107 => ?_))
      · refine (am_e0 rfl rfl).trans ?_
        exact (am_e4i rfl rfl).trans rfl
      · exact (am_e5 rfl).trans rfl
  · refine (am_e0 rfl rfl).trans ?_
    refine (am_e0 rfl rfl).trans ?_
    exact (am_e5 rfl).trans rfl
set_option maxRecDepth 10000 in
theorem aq_200_21 (d : Nat) (x0 x1 x2 x3 : Int) (M : am_M) : am_Ex d 200 21 [(2, x0), (0, x1), (0, x2), (0, x3), am_N] [] M = (am_let (am_w32 (x3 + 1)) fun v101 => am_Ex d 200 3 [(2, x0), (0, x1), (0, x2), (0, v101), am_N] [] M) := by
  refine (am_e0 rfl rfl).trans ?_
  refine am_lets (L := fun v101 => [(2, x0), (0, x1), (0, x2), (0, v101), am_N]) (fun v101 => ?_)
  refine (am_e1 rfl rfl).trans ?_
  exact (am_e5 rfl).trans rfl
set_option maxRecDepth 10000 in
theorem aq_200_26 (d : Nat) (x0 x1 x2 x3 : Int) (M : am_M) : am_Ex d 200 26 [(2, x0), (0, x1), (0, x2), (0, x3), am_N] [] M = (am_g (am_ob x0 11) <| am_g (am_ar (am_rd M x0 0) 20 6) <| if x3 < am_rd M (am_rd M x0 0) 6 then (am_g (am_ar (am_rd M x0 0) 20 (am_w32 (38 + (am_w32 (2 * x3))))) <| (am_Call d 65 [(0, x1), (0, am_rd M (am_rd M x0 0) (am_w32 (38 + (am_w32 (2 * x3)))))] M).bind fun r105 => am_g (am_ar (am_rd r105.2 x0 0) 20 (am_w32 ((am_w32 (38 + (am_w32 (2 * x3)))) + 1))) <| if am_rd r105.2 (am_rd r105.2 x0 0) (am_w32 ((am_w32 (38 + (am_w32 (2 * x3)))) + 1)) = 1 then (if r105.1 = 0 then (some (0, r105.2)) else (am_Ex d 200 66 [(2, x0), (0, x1), (0, x2), (0, x3), am_N] [] r105.2)) else (if r105.1 = 0 then (am_Ex d 200 66 [(2, x0), (0, x1), (0, x2), (0, x3), am_N] [] r105.2) else (if x2 = 0 then (some (0, r105.2)) else (am_Ex d 200 66 [(2, x0), (0, x1), (0, x2), (0, x3), am_N] [] r105.2)))) else (some (1, M))) := by
  refine (am_e0 rfl rfl).trans ?_
  refine (am_e0 rfl rfl).trans ?_
  refine (am_gf (c := 11) (t := 2) rfl rfl rfl).trans (am_g_congr fun h101 => ?_)
  refine (am_e0 rfl rfl).trans ?_
  refine (am_ial rfl).trans (am_g_congr fun h102 => ?_)
  refine (am_i_ge rfl).trans (am_if_congr (fun c103 => ?_) (fun c103 => ?_))
  · refine (am_e0 rfl rfl).trans ?_
    refine (am_e0 rfl rfl).trans ?_
    refine (am_gf (c := 11) (t := 2) rfl rfl rfl).trans ((am_g_t h101).trans ?_)
    refine (am_e0 rfl rfl).trans ?_
    refine (am_e0 rfl rfl).trans ?_
    refine (am_e0 rfl rfl).trans ?_
    refine (am_e0 rfl rfl).trans ?_
    refine (am_e0 rfl rfl).trans ?_
    refine (am_ial rfl).trans (am_g_congr fun h104 => ?_)
    refine (am_cal3 (z := 65) (k := 2) (c := true) rfl rfl rfl rfl rfl rfl rfl rfl).trans ((am_g_t rfl).trans ?_)
    refine am_bind_congr fun r105 => ?_
    show am_Ex d 200 42 [(2, x0), (0, x1), (0, x2), (0, x3), am_N] [(0, r105.1)] r105.2 = _
    refine (am_e0 rfl rfl).trans ?_
    refine (am_e0 rfl rfl).trans ?_
    refine (am_gf (c := 11) (t := 2) rfl rfl rfl).trans ((am_g_t h101).trans ?_)
    refine (am_e0 rfl rfl).trans ?_
    refine (am_e0 rfl rfl).trans ?_
    refine (am_e0 rfl rfl).trans ?_
    refine (am_e0 rfl rfl).trans ?_
    refine (am_e0 rfl rfl).trans ?_
    refine (am_e0 rfl rfl).trans ?_
    refine (am_e0 rfl rfl).trans ?_
    refine (am_ial rfl).trans (am_g_congr fun h106 => ?_)
    refine (am_e0 rfl rfl).trans ?_
    refine (am_i_ne rfl).trans (am_if_congr (fun c107 => ?_) (fun c107 => ?_))
    · refine (am_e0 rfl rfl).trans ?_
      refine (am_z_ne rfl).trans (am_if_congr (fun c108 => ?_) (fun c108 => ?_))
      · refine (am_e1 rfl rfl).trans ?_
        refine (am_e5 rfl).trans ?_
        show am_Ex d 200 63 [am_N, am_N, am_N, am_N, am_N] [] r105.2 = _
        refine (am_e0 rfl rfl).trans ?_
        exact (am_e4i rfl rfl).trans rfl
      · exact (am_e5 rfl).trans rfl
    · refine (am_e0 rfl rfl).trans ?_
      refine (am_z_eq rfl).trans (am_if_congr (fun c109 => ?_) (fun c109 => ?_))
      · exact (am_e5 rfl).trans rfl
      · refine (am_e0 rfl rfl).trans ?_
        refine (am_z_ne rfl).trans (am_if_congr (fun c110 => ?_) (fun c110 => ?_))
        · refine (am_e5 rfl).trans ?_
          show am_Ex d 200 63 [am_N, am_N, am_N, am_N, am_N] [] r105.2 = _
          refine (am_e0 rfl rfl).trans ?_
          exact (am_e4i rfl rfl).trans rfl
        · exact (am_e5 rfl).trans rfl
  · refine (am_e0 rfl rfl).trans ?_
    exact (am_e4i rfl rfl).trans rfl
set_option maxRecDepth 10000 in
theorem aq_200_66 (d : Nat) (x0 x1 x2 x3 : Int) (M : am_M) : am_Ex d 200 66 [(2, x0), (0, x1), (0, x2), (0, x3), am_N] [] M = (am_let (am_w32 (x3 + 1)) fun v101 => am_Ex d 200 26 [(2, x0), (0, x1), (0, x2), (0, v101), am_N] [] M) := by
  refine (am_e0 rfl rfl).trans ?_
  refine am_lets (L := fun v101 => [(2, x0), (0, x1), (0, x2), (0, v101), am_N]) (fun v101 => ?_)
  refine (am_e1 rfl rfl).trans ?_
  exact (am_e5 rfl).trans rfl
-- 201: UnlearnedHandModel.comesBackBy(I)I
set_option maxRecDepth 10000 in
theorem aq_201 (d : Nat) (x0 x1 : Int) (M : am_M) : am_Call d 201 [(2, x0), (0, x1)] M = (am_Ex d 201 5 [(2, x0), (0, x1), (0, 0), (0, 0)] [] M) := by
  show am_Ex d 201 0 [(2, x0), (0, x1), am_N, am_N] [] M = _
  refine (am_e0 rfl rfl).trans ?_
  refine (am_e0 rfl rfl).trans ?_
  refine (am_e0 rfl rfl).trans ?_
  refine (am_e0 rfl rfl).trans ?_
  exact (am_e5 rfl).trans rfl
set_option maxRecDepth 10000 in
theorem aq_201_5 (d : Nat) (x0 x1 x2 x3 : Int) (M : am_M) : am_Ex d 201 5 [(2, x0), (0, x1), (0, x2), (0, x3)] [] M = (am_g (am_ob x0 11) <| am_g (am_ar (am_rd M x0 0) 20 2) <| if x3 < am_rd M (am_rd M x0 0) 2 then ((am_Call d 65 [(0, x1), (0, x3)] M).bind fun r104 => if r104.1 = 0 then (am_let (am_or x2 0) fun v106 => am_let (am_w32 (x3 + 1)) fun v107 => am_Ex d 201 5 [(2, x0), (0, x1), (0, v106), (0, v107)] [] r104.2) else (am_g (am_ar (am_rd r104.2 x0 0) 20 (am_w32 (32 + x3))) <| am_let (am_or x2 (am_rd r104.2 (am_rd r104.2 x0 0) (am_w32 (32 + x3)))) fun v109 => am_let (am_w32 (x3 + 1)) fun v110 => am_Ex d 201 5 [(2, x0), (0, x1), (0, v109), (0, v110)] [] r104.2)) else ((am_Call d 159 [(2, x0), (0, x2)] M).bind fun r111 => some (r111.1, r111.2))) := by
  refine (am_e0 rfl rfl).trans ?_
  refine (am_e0 rfl rfl).trans ?_
  refine (am_gf (c := 11) (t := 2) rfl rfl rfl).trans (am_g_congr fun h101 => ?_)
  refine (am_e0 rfl rfl).trans ?_
  refine (am_ial rfl).trans (am_g_congr fun h102 => ?_)
  refine (am_i_ge rfl).trans (am_if_congr (fun c103 => ?_) (fun c103 => ?_))
  · refine (am_e0 rfl rfl).trans ?_
    refine (am_e0 rfl rfl).trans ?_
    refine (am_e0 rfl rfl).trans ?_
    refine (am_cal3 (z := 65) (k := 2) (c := true) rfl rfl rfl rfl rfl rfl rfl rfl).trans ((am_g_t rfl).trans ?_)
    refine am_bind_congr fun r104 => ?_
    show am_Ex d 201 15 [(2, x0), (0, x1), (0, x2), (0, x3)] [(0, r104.1), (0, x2)] r104.2 = _
    refine (am_z_eq rfl).trans (am_if_congr (fun c105 => ?_) (fun c105 => ?_))
    · refine (am_e0 rfl rfl).trans ?_
      refine (am_e0 rfl rfl).trans ?_
      refine (am_e0 rfl rfl).trans ?_
      refine am_lets (L := fun v106 => [(2, x0), (0, x1), (0, v106), (0, x3)]) (fun v106 => ?_)
      refine (am_e0 rfl rfl).trans ?_
      refine am_lets (L := fun v107 => [(2, x0), (0, x1), (0, v106), (0, v107)]) (fun v107 => ?_)
      refine (am_e1 rfl rfl).trans ?_
      exact (am_e5 rfl).trans rfl
    · refine (am_e0 rfl rfl).trans ?_
      refine (am_gf (c := 11) (t := 2) rfl rfl rfl).trans ((am_g_t h101).trans ?_)
      refine (am_e0 rfl rfl).trans ?_
      refine (am_e0 rfl rfl).trans ?_
      refine (am_e0 rfl rfl).trans ?_
      refine (am_ial rfl).trans (am_g_congr fun h108 => ?_)
      refine (am_e1 rfl rfl).trans ?_
      refine (am_e0 rfl rfl).trans ?_
      refine (am_e0 rfl rfl).trans ?_
      refine am_lets (L := fun v109 => [(2, x0), (0, x1), (0, v109), (0, x3)]) (fun v109 => ?_)
      refine (am_e0 rfl rfl).trans ?_
      refine am_lets (L := fun v110 => [(2, x0), (0, x1), (0, v109), (0, v110)]) (fun v110 => ?_)
      refine (am_e1 rfl rfl).trans ?_
      exact (am_e5 rfl).trans rfl
  · refine (am_e0 rfl rfl).trans ?_
    refine (am_e0 rfl rfl).trans ?_
    refine (am_cal3 (z := 159) (k := 2) (c := (am_ob x0 11)) rfl rfl rfl rfl rfl rfl rfl rfl).trans ((am_g_t h101).trans ?_)
    refine am_bind_congr fun r111 => ?_
    show am_Ex d 201 31 [(2, x0), (0, x1), (0, x2), (0, x3)] [(0, r111.1)] r111.2 = _
    exact (am_e4i rfl rfl).trans rfl
-- 202: UnlearnedHandModel.trial(III)J
set_option maxRecDepth 10000 in
theorem aq_202 (d : Nat) (x0 x1 x2 x3 : Int) (M : am_M) : am_Call d 202 [(2, x0), (0, x1), (0, x2), (0, x3)] M = (am_g (am_ob x0 11) <| (am_Call d 144 [(2, x0), (0, x1)] M).bind fun r102 => if r102.1 = 0 then (some ((-100), r102.2)) else ((am_Call d 145 [(2, x0), (0, x2)] r102.2).bind fun r104 => if r104.1 = 0 then (some ((-100), r104.2)) else ((am_Call d 66 [(0, x2)] r104.2).bind fun r106 => (am_Call d 64 [(0, r106.1), (0, 1), (0, 5)] r106.2).bind fun r107 => if r107.1 = 0 then (some ((-100), r107.2)) else ((am_Call d 66 [(0, x2)] r107.2).bind fun r109 => (am_Call d 64 [(0, x3), (0, (-2)), (0, am_w32 (r109.1 - 1))] r109.2).bind fun r110 => if r110.1 = 0 then (some ((-100), r110.2)) else ((am_Call d 162 [(2, x0), (0, x2)] r110.2).bind fun r112 => am_Ex d 202 34 [(2, x0), (0, x1), am_N, (0, x3), (0, r112.1), (1, (-1)), am_N, (0, 0), am_N, am_N] [] r112.2))))) := by
  show am_Ex d 202 0 [(2, x0), (0, x1), (0, x2), (0, x3), am_N, am_N, am_N, am_N, am_N, am_N] [] M = _
  refine (am_e0 rfl rfl).trans ?_
  refine (am_e0 rfl rfl).trans ?_
  refine (am_cal3 (z := 144) (k := 2) (c := (am_ob x0 11)) rfl rfl rfl rfl rfl rfl rfl rfl).trans (am_g_congr fun h101 => ?_)
  refine am_bind_congr fun r102 => ?_
  show am_Ex d 202 3 [(2, x0), (0, x1), (0, x2), (0, x3), am_N, am_N, am_N, am_N, am_N, am_N] [(0, r102.1)] r102.2 = _
  refine (am_z_eq rfl).trans (am_if_congr (fun c103 => ?_) (fun c103 => ?_))
  · refine (am_e5 rfl).trans ?_
    show am_Ex d 202 23 [am_N, am_N, am_N, am_N, am_N, am_N, am_N, am_N, am_N, am_N] [] r102.2 = _
    refine (am_e0 rfl rfl).trans ?_
    exact (am_e4l rfl rfl).trans rfl
  · refine (am_e0 rfl rfl).trans ?_
    refine (am_e0 rfl rfl).trans ?_
    refine (am_cal3 (z := 145) (k := 2) (c := (am_ob x0 11)) rfl rfl rfl rfl rfl rfl rfl rfl).trans ((am_g_t h101).trans ?_)
    refine am_bind_congr fun r104 => ?_
    show am_Ex d 202 7 [(2, x0), (0, x1), (0, x2), (0, x3), am_N, am_N, am_N, am_N, am_N, am_N] [(0, r104.1)] r104.2 = _
    refine (am_z_eq rfl).trans (am_if_congr (fun c105 => ?_) (fun c105 => ?_))
    · refine (am_e5 rfl).trans ?_
      show am_Ex d 202 23 [am_N, am_N, am_N, am_N, am_N, am_N, am_N, am_N, am_N, am_N] [] r104.2 = _
      refine (am_e0 rfl rfl).trans ?_
      exact (am_e4l rfl rfl).trans rfl
    · refine (am_e0 rfl rfl).trans ?_
      refine (am_cal3 (z := 66) (k := 1) (c := true) rfl rfl rfl rfl rfl rfl rfl rfl).trans ((am_g_t rfl).trans ?_)
      refine am_bind_congr fun r106 => ?_
      show am_Ex d 202 10 [(2, x0), (0, x1), (0, x2), (0, x3), am_N, am_N, am_N, am_N, am_N, am_N] [(0, r106.1)] r106.2 = _
      refine (am_e0 rfl rfl).trans ?_
      refine (am_e0 rfl rfl).trans ?_
      refine (am_cal3 (z := 64) (k := 3) (c := true) rfl rfl rfl rfl rfl rfl rfl rfl).trans ((am_g_t rfl).trans ?_)
      refine am_bind_congr fun r107 => ?_
      show am_Ex d 202 13 [(2, x0), (0, x1), (0, x2), (0, x3), am_N, am_N, am_N, am_N, am_N, am_N] [(0, r107.1)] r107.2 = _
      refine (am_z_eq rfl).trans (am_if_congr (fun c108 => ?_) (fun c108 => ?_))
      · refine (am_e5 rfl).trans ?_
        show am_Ex d 202 23 [am_N, am_N, am_N, am_N, am_N, am_N, am_N, am_N, am_N, am_N] [] r107.2 = _
        refine (am_e0 rfl rfl).trans ?_
        exact (am_e4l rfl rfl).trans rfl
      · refine (am_e0 rfl rfl).trans ?_
        refine (am_e0 rfl rfl).trans ?_
        refine (am_e0 rfl rfl).trans ?_
        refine (am_cal3 (z := 66) (k := 1) (c := true) rfl rfl rfl rfl rfl rfl rfl rfl).trans ((am_g_t rfl).trans ?_)
        refine am_bind_congr fun r109 => ?_
        show am_Ex d 202 18 [(2, x0), (0, x1), (0, x2), (0, x3), am_N, am_N, am_N, am_N, am_N, am_N] [(0, r109.1), (0, (-2)), (0, x3)] r109.2 = _
        refine (am_e0 rfl rfl).trans ?_
        refine (am_e0 rfl rfl).trans ?_
        refine (am_cal3 (z := 64) (k := 3) (c := true) rfl rfl rfl rfl rfl rfl rfl rfl).trans ((am_g_t rfl).trans ?_)
        refine am_bind_congr fun r110 => ?_
        show am_Ex d 202 21 [(2, x0), (0, x1), (0, x2), (0, x3), am_N, am_N, am_N, am_N, am_N, am_N] [(0, r110.1)] r110.2 = _
        refine (am_z_ne rfl).trans (am_if_congr (fun c111 => ?_) (fun c111 => ?_))
        · refine (am_e5 rfl).trans ?_
          show am_Ex d 202 23 [am_N, am_N, am_N, am_N, am_N, am_N, am_N, am_N, am_N, am_N] [] r110.2 = _
          refine (am_e0 rfl rfl).trans ?_
          exact (am_e4l rfl rfl).trans rfl
        · refine (am_e0 rfl rfl).trans ?_
          refine (am_e0 rfl rfl).trans ?_
          refine (am_cal3 (z := 162) (k := 2) (c := (am_ob x0 11)) rfl rfl rfl rfl rfl rfl rfl rfl).trans ((am_g_t h101).trans ?_)
          refine am_bind_congr fun r112 => ?_
          show am_Ex d 202 28 [(2, x0), (0, x1), (0, x2), (0, x3), am_N, am_N, am_N, am_N, am_N, am_N] [(0, r112.1)] r112.2 = _
          refine (am_e0 rfl rfl).trans ?_
          refine (am_e0 rfl rfl).trans ?_
          refine (am_e0 rfl rfl).trans ?_
          refine (am_e0 rfl rfl).trans ?_
          refine (am_e0 rfl rfl).trans ?_
          exact (am_e5 rfl).trans rfl
set_option maxRecDepth 10000 in
theorem aq_202_34 (d : Nat) (x0 x1 x3 x4 x5 x7 : Int) (M : am_M) : am_Ex d 202 34 [(2, x0), (0, x1), am_N, (0, x3), (0, x4), (1, x5), am_N, (0, x7), am_N, am_N] [] M = ((am_Call d 95 [(0, x4)] M).bind fun r101 => if x7 < r101.1 then (am_g (am_ob x0 11) <| (am_Call d 163 [(2, x0), (0, x7), (0, x4)] r101.2).bind fun r104 => (am_Call d 97 [(2, x0), (0, x1), (0, x4)] r104.2).bind fun r105 => if am_cmp x5 0 < 0 then (am_Ex d 202 56 [(2, x0), (0, x1), am_N, (0, x3), (0, x4), am_N, am_N, (0, x7), (1, r105.1), am_N] [] r105.2) else (if am_cmp r105.1 x5 < 0 then (am_Ex d 202 56 [(2, x0), (0, x1), am_N, (0, x3), (0, x4), am_N, am_N, (0, x7), (1, r105.1), am_N] [] r105.2) else (am_Ex d 202 62 [(2, x0), (0, x1), am_N, (0, x3), (0, x4), (1, x5), am_N, (0, x7), am_N, am_N] [] r105.2))) else (if x3 < 0 then (am_Ex d 202 77 [am_N, am_N, am_N, (0, x3), (0, x4), (1, x5), am_N, (1, 1), am_N, (0, 1)] [] r101.2) else (am_g (am_ob x0 11) <| am_g (am_ar (am_rd r101.2 x0 52) 20 x3) <| some (am_rd r101.2 (am_rd r101.2 x0 52) x3, r101.2)))) := by
  refine (am_e0 rfl rfl).trans ?_
  refine (am_e0 rfl rfl).trans ?_
  refine (am_cal3 (z := 95) (k := 1) (c := true) rfl rfl rfl rfl rfl rfl rfl rfl).trans ((am_g_t rfl).trans ?_)
  refine am_bind_congr fun r101 => ?_
  show am_Ex d 202 37 [(2, x0), (0, x1), am_N, (0, x3), (0, x4), (1, x5), am_N, (0, x7), am_N, am_N] [(0, r101.1), (0, x7)] r101.2 = _
  refine (am_i_ge rfl).trans (am_if_congr (fun c102 => ?_) (fun c102 => ?_))
  · refine (am_e0 rfl rfl).trans ?_
    refine (am_e0 rfl rfl).trans ?_
    refine (am_e0 rfl rfl).trans ?_
    refine (am_cal3 (z := 163) (k := 3) (c := (am_ob x0 11)) rfl rfl rfl rfl rfl rfl rfl rfl).trans (am_g_congr fun h103 => ?_)
    refine am_bind_congr fun r104 => ?_
    show am_Ex d 202 42 [(2, x0), (0, x1), am_N, (0, x3), (0, x4), (1, x5), am_N, (0, x7), am_N, am_N] [] r104.2 = _
    refine (am_e0 rfl rfl).trans ?_
    refine (am_e0 rfl rfl).trans ?_
    refine (am_e0 rfl rfl).trans ?_
    refine (am_cal3 (z := 97) (k := 3) (c := (am_ob x0 11)) rfl rfl rfl rfl rfl rfl rfl rfl).trans ((am_g_t h103).trans ?_)
    refine am_bind_congr fun r105 => ?_
    show am_Ex d 202 46 [(2, x0), (0, x1), am_N, (0, x3), (0, x4), (1, x5), am_N, (0, x7), am_N, am_N] [(1, r105.1)] r105.2 = _
    refine (am_e0 rfl rfl).trans ?_
    refine (am_e0 rfl rfl).trans ?_
    refine (am_e0 rfl rfl).trans ?_
    refine (am_e0 rfl rfl).trans ?_
    refine (am_z_lt rfl).trans (am_if_congr (fun c106 => ?_) (fun c106 => ?_))
    · exact (am_e5 rfl).trans rfl
    · refine (am_e0 rfl rfl).trans ?_
      refine (am_e0 rfl rfl).trans ?_
      refine (am_e0 rfl rfl).trans ?_
      refine (am_z_ge rfl).trans (am_if_congr (fun c107 => ?_) (fun c107 => ?_))
      · exact (am_e5 rfl).trans rfl
      · exact (am_e5 rfl).trans rfl
  · refine (am_e0 rfl rfl).trans ?_
    refine (am_z_lt rfl).trans (am_if_congr (fun c108 => ?_) (fun c108 => ?_))
    · refine (am_e0 rfl rfl).trans ?_
      refine (am_e0 rfl rfl).trans ?_
      refine (am_e0 rfl rfl).trans ?_
      refine (am_e0 rfl rfl).trans ?_
      exact (am_e5 rfl).trans rfl
    · refine (am_e0 rfl rfl).trans ?_
      refine (am_gf (c := 11) (t := 2) rfl rfl rfl).trans (am_g_congr fun h109 => ?_)
      refine (am_e0 rfl rfl).trans ?_
      refine (am_ial rfl).trans (am_g_congr fun h110 => ?_)
      refine (am_e0 rfl rfl).trans ?_
      exact (am_e4l rfl rfl).trans rfl
set_option maxRecDepth 10000 in
theorem aq_202_56 (d : Nat) (x0 x1 x3 x4 x7 x8 : Int) (M : am_M) : am_Ex d 202 56 [(2, x0), (0, x1), am_N, (0, x3), (0, x4), am_N, am_N, (0, x7), (1, x8), am_N] [] M = (am_g (am_ob x0 11) <| (am_Call d 96 [(2, x0), (0, x4)] M).bind fun r102 => am_Ex d 202 62 [(2, x0), (0, x1), am_N, (0, x3), (0, x4), (1, x8), am_N, (0, x7), am_N, am_N] [] r102.2) := by
  refine (am_e0 rfl rfl).trans ?_
  refine (am_e0 rfl rfl).trans ?_
  refine (am_e0 rfl rfl).trans ?_
  refine (am_e0 rfl rfl).trans ?_
  refine (am_cal3 (z := 96) (k := 2) (c := (am_ob x0 11)) rfl rfl rfl rfl rfl rfl rfl rfl).trans (am_g_congr fun h101 => ?_)
  refine am_bind_congr fun r102 => ?_
  show am_Ex d 202 61 [(2, x0), (0, x1), am_N, (0, x3), (0, x4), (1, x8), am_N, (0, x7), (1, x8), am_N] [] r102.2 = _
  exact (am_e5 rfl).trans rfl
set_option maxRecDepth 10000 in
theorem aq_202_62 (d : Nat) (x0 x1 x3 x4 x5 x7 : Int) (M : am_M) : am_Ex d 202 62 [(2, x0), (0, x1), am_N, (0, x3), (0, x4), (1, x5), am_N, (0, x7), am_N, am_N] [] M = (am_let (am_w32 (x7 + 1)) fun v101 => am_Ex d 202 34 [(2, x0), (0, x1), am_N, (0, x3), (0, x4), (1, x5), am_N, (0, v101), am_N, am_N] [] M) := by
  refine (am_e0 rfl rfl).trans ?_
  refine am_lets (L := fun v101 => [(2, x0), (0, x1), am_N, (0, x3), (0, x4), (1, x5), am_N, (0, v101), am_N, am_N]) (fun v101 => ?_)
  refine (am_e1 rfl rfl).trans ?_
  exact (am_e5 rfl).trans rfl
set_option maxRecDepth 10000 in
theorem aq_202_77 (d : Nat) (x3 x4 x5 x7 x9 : Int) (M : am_M) : am_Ex d 202 77 [am_N, am_N, am_N, (0, x3), (0, x4), (1, x5), am_N, (1, x7), am_N, (0, x9)] [] M = (if x9 < x4 then (am_let (am_w64 (x7 * 100)) fun v102 => am_let (am_w32 (x9 + 1)) fun v103 => am_Ex d 202 77 [am_N, am_N, am_N, (0, x3), (0, x4), (1, x5), am_N, (1, v102), am_N, (0, v103)] [] M) else (if x3 = (-1) then ((am_Call d 161 [(1, x5), (1, x7), (0, 1)] M).bind fun r105 => some (r105.1, r105.2)) else ((am_Call d 161 [(1, x5), (1, x7), (0, 0)] M).bind fun r106 => some (r106.1, r106.2)))) := by
  refine (am_e0 rfl rfl).trans ?_
  refine (am_e0 rfl rfl).trans ?_
  refine (am_i_ge rfl).trans (am_if_congr (fun c101 => ?_) (fun c101 => ?_))
  · refine (am_e0 rfl rfl).trans ?_
    refine (am_e0 rfl rfl).trans ?_
    refine (am_e0 rfl rfl).trans ?_
    refine (am_e0 rfl rfl).trans ?_
    refine am_lets (L := fun v102 => [am_N, am_N, am_N, (0, x3), (0, x4), (1, x5), am_N, (1, v102), am_N, (0, x9)]) (fun v102 => ?_)
    refine (am_e0 rfl rfl).trans ?_
    refine am_lets (L := fun v103 => [am_N, am_N, am_N, (0, x3), (0, x4), (1, x5), am_N, (1, v102), am_N, (0, v103)]) (fun v103 => ?_)
    refine (am_e1 rfl rfl).trans ?_
    exact (am_e5 rfl).trans rfl
  · refine (am_e0 rfl rfl).trans ?_
    refine (am_e0 rfl rfl).trans ?_
    refine (am_e0 rfl rfl).trans ?_
    refine (am_e0 rfl rfl).trans ?_
    refine (am_i_ne rfl).trans (am_if_congr (fun c104 => ?_) (fun c104 => ?_))
    · refine (am_e0 rfl rfl).trans ?_
      refine (am_e1 rfl rfl).trans ?_
      refine (am_cal3 (z := 161) (k := 3) (c := true) rfl rfl rfl rfl rfl rfl rfl rfl).trans ((am_g_t rfl).trans ?_)
      refine am_bind_congr fun r105 => ?_
      show am_Ex d 202 95 [am_N, am_N, am_N, (0, x3), (0, x4), (1, x5), am_N, (1, x7), am_N, (0, x9)] [(1, r105.1)] r105.2 = _
      exact (am_e4l rfl rfl).trans rfl
    · refine (am_e0 rfl rfl).trans ?_
      refine (am_cal3 (z := 161) (k := 3) (c := true) rfl rfl rfl rfl rfl rfl rfl rfl).trans ((am_g_t rfl).trans ?_)
      refine am_bind_congr fun r106 => ?_
      show am_Ex d 202 95 [am_N, am_N, am_N, (0, x3), (0, x4), (1, x5), am_N, (1, x7), am_N, (0, x9)] [(1, r106.1)] r106.2 = _
      exact (am_e4l rfl rfl).trans rfl
-- 203: UnlearnedHandModel.told(II)I
set_option maxRecDepth 10000 in
theorem aq_203 (d : Nat) (x0 x1 x2 : Int) (M : am_M) : am_Call d 203 [(2, x0), (0, x1), (0, x2)] M = (am_g (am_ob x0 11) <| (am_Call d 145 [(2, x0), (0, x1)] M).bind fun r102 => if r102.1 = 0 then (some ((-1), r102.2)) else ((am_Call d 66 [(0, x1)] r102.2).bind fun r104 => (am_Call d 64 [(0, r104.1), (0, 1), (0, 6)] r104.2).bind fun r105 => if r105.1 = 0 then (some ((-1), r105.2)) else ((am_Call d 66 [(0, x1)] r105.2).bind fun r107 => (am_Call d 64 [(0, x2), (0, (-1)), (0, am_w32 (r107.1 - 1))] r107.2).bind fun r108 => if r108.1 = 0 then (some ((-1), r108.2)) else ((am_Call d 162 [(2, x0), (0, x1)] r108.2).bind fun r110 => am_Ex d 203 30 [(2, x0), (0, x1), (0, x2), (0, r110.1), (0, 0), (0, 0)] [] r110.2)))) := by
  show am_Ex d 203 0 [(2, x0), (0, x1), (0, x2), am_N, am_N, am_N] [] M = _
  refine (am_e0 rfl rfl).trans ?_
  refine (am_e0 rfl rfl).trans ?_
  refine (am_cal3 (z := 145) (k := 2) (c := (am_ob x0 11)) rfl rfl rfl rfl rfl rfl rfl rfl).trans (am_g_congr fun h101 => ?_)
  refine am_bind_congr fun r102 => ?_
  show am_Ex d 203 3 [(2, x0), (0, x1), (0, x2), am_N, am_N, am_N] [(0, r102.1)] r102.2 = _
  refine (am_z_eq rfl).trans (am_if_congr (fun c103 => ?_) (fun c103 => ?_))
  · refine (am_e5 rfl).trans ?_
    show am_Ex d 203 19 [am_N, am_N, am_N, am_N, am_N, am_N] [] r102.2 = _
    refine (am_e0 rfl rfl).trans ?_
    exact (am_e4i rfl rfl).trans rfl
  · refine (am_e0 rfl rfl).trans ?_
    refine (am_cal3 (z := 66) (k := 1) (c := true) rfl rfl rfl rfl rfl rfl rfl rfl).trans ((am_g_t rfl).trans ?_)
    refine am_bind_congr fun r104 => ?_
    show am_Ex d 203 6 [(2, x0), (0, x1), (0, x2), am_N, am_N, am_N] [(0, r104.1)] r104.2 = _
    refine (am_e0 rfl rfl).trans ?_
    refine (am_e0 rfl rfl).trans ?_
    refine (am_cal3 (z := 64) (k := 3) (c := true) rfl rfl rfl rfl rfl rfl rfl rfl).trans ((am_g_t rfl).trans ?_)
    refine am_bind_congr fun r105 => ?_
    show am_Ex d 203 9 [(2, x0), (0, x1), (0, x2), am_N, am_N, am_N] [(0, r105.1)] r105.2 = _
    refine (am_z_eq rfl).trans (am_if_congr (fun c106 => ?_) (fun c106 => ?_))
    · refine (am_e5 rfl).trans ?_
      show am_Ex d 203 19 [am_N, am_N, am_N, am_N, am_N, am_N] [] r105.2 = _
      refine (am_e0 rfl rfl).trans ?_
      exact (am_e4i rfl rfl).trans rfl
    · refine (am_e0 rfl rfl).trans ?_
      refine (am_e0 rfl rfl).trans ?_
      refine (am_e0 rfl rfl).trans ?_
      refine (am_cal3 (z := 66) (k := 1) (c := true) rfl rfl rfl rfl rfl rfl rfl rfl).trans ((am_g_t rfl).trans ?_)
      refine am_bind_congr fun r107 => ?_
      show am_Ex d 203 14 [(2, x0), (0, x1), (0, x2), am_N, am_N, am_N] [(0, r107.1), (0, (-1)), (0, x2)] r107.2 = _
      refine (am_e0 rfl rfl).trans ?_
      refine (am_e0 rfl rfl).trans ?_
      refine (am_cal3 (z := 64) (k := 3) (c := true) rfl rfl rfl rfl rfl rfl rfl rfl).trans ((am_g_t rfl).trans ?_)
      refine am_bind_congr fun r108 => ?_
      show am_Ex d 203 17 [(2, x0), (0, x1), (0, x2), am_N, am_N, am_N] [(0, r108.1)] r108.2 = _
      refine (am_z_ne rfl).trans (am_if_congr (fun c109 => ?_) (fun c109 => ?_))
      · refine (am_e5 rfl).trans ?_
        show am_Ex d 203 19 [am_N, am_N, am_N, am_N, am_N, am_N] [] r108.2 = _
        refine (am_e0 rfl rfl).trans ?_
        exact (am_e4i rfl rfl).trans rfl
      · refine (am_e0 rfl rfl).trans ?_
        refine (am_e0 rfl rfl).trans ?_
        refine (am_cal3 (z := 162) (k := 2) (c := (am_ob x0 11)) rfl rfl rfl rfl rfl rfl rfl rfl).trans ((am_g_t h101).trans ?_)
        refine am_bind_congr fun r110 => ?_
        show am_Ex d 203 24 [(2, x0), (0, x1), (0, x2), am_N, am_N, am_N] [(0, r110.1)] r110.2 = _
        refine (am_e0 rfl rfl).trans ?_
        refine (am_e0 rfl rfl).trans ?_
        refine (am_e0 rfl rfl).trans ?_
        refine (am_e0 rfl rfl).trans ?_
        refine (am_e0 rfl rfl).trans ?_
        exact (am_e5 rfl).trans rfl
set_option maxRecDepth 10000 in
theorem aq_203_30 (d : Nat) (x0 x1 x2 x3 x4 x5 : Int) (M : am_M) : am_Ex d 203 30 [(2, x0), (0, x1), (0, x2), (0, x3), (0, x4), (0, x5)] [] M = ((am_Call d 95 [(0, x3)] M).bind fun r101 => if x5 < r101.1 then (am_g (am_ob x0 11) <| (am_Call d 163 [(2, x0), (0, x5), (0, x3)] r101.2).bind fun r104 => (am_Call d 164 [(2, x0), (0, x3), (0, x1)] r104.2).bind fun r105 => if r105.1 = 0 then (am_Ex d 203 51 [(2, x0), (0, x1), (0, x2), (0, x3), (0, x4), (0, x5)] [] r105.2) else (if x4 = 0 then ((am_Call d 96 [(2, x0), (0, x3)] r105.2).bind fun r108 => am_Ex d 203 49 [(2, x0), (0, x1), (0, x2), (0, x3), (0, x4), (0, x5)] [] r108.2) else (am_Ex d 203 49 [(2, x0), (0, x1), (0, x2), (0, x3), (0, x4), (0, x5)] [] r105.2))) else (if x2 = (-1) then (some (x4, r101.2)) else (if x4 = 0 then (some ((-1), r101.2)) else (am_g (am_ob x0 11) <| am_g (am_ar (am_rd r101.2 x0 52) 20 x2) <| some (am_rd r101.2 (am_rd r101.2 x0 52) x2, r101.2))))) := by
  refine (am_e0 rfl rfl).trans ?_
  refine (am_e0 rfl rfl).trans ?_
  refine (am_cal3 (z := 95) (k := 1) (c := true) rfl rfl rfl rfl rfl rfl rfl rfl).trans ((am_g_t rfl).trans ?_)
  refine am_bind_congr fun r101 => ?_
  show am_Ex d 203 33 [(2, x0), (0, x1), (0, x2), (0, x3), (0, x4), (0, x5)] [(0, r101.1), (0, x5)] r101.2 = _
  refine (am_i_ge rfl).trans (am_if_congr (fun c102 => ?_) (fun c102 => ?_))
  · refine (am_e0 rfl rfl).trans ?_
    refine (am_e0 rfl rfl).trans ?_
    refine (am_e0 rfl rfl).trans ?_
    refine (am_cal3 (z := 163) (k := 3) (c := (am_ob x0 11)) rfl rfl rfl rfl rfl rfl rfl rfl).trans (am_g_congr fun h103 => ?_)
    refine am_bind_congr fun r104 => ?_
    show am_Ex d 203 38 [(2, x0), (0, x1), (0, x2), (0, x3), (0, x4), (0, x5)] [] r104.2 = _
    refine (am_e0 rfl rfl).trans ?_
    refine (am_e0 rfl rfl).trans ?_
    refine (am_e0 rfl rfl).trans ?_
    refine (am_cal3 (z := 164) (k := 3) (c := (am_ob x0 11)) rfl rfl rfl rfl rfl rfl rfl rfl).trans ((am_g_t h103).trans ?_)
    refine am_bind_congr fun r105 => ?_
    show am_Ex d 203 42 [(2, x0), (0, x1), (0, x2), (0, x3), (0, x4), (0, x5)] [(0, r105.1)] r105.2 = _
    refine (am_z_eq rfl).trans (am_if_congr (fun c106 => ?_) (fun c106 => ?_))
    · exact (am_e5 rfl).trans rfl
    · refine (am_e0 rfl rfl).trans ?_
      refine (am_z_ne rfl).trans (am_if_congr (fun c107 => ?_) (fun c107 => ?_))
      · refine (am_e0 rfl rfl).trans ?_
        refine (am_e0 rfl rfl).trans ?_
        refine (am_cal3 (z := 96) (k := 2) (c := (am_ob x0 11)) rfl rfl rfl rfl rfl rfl rfl rfl).trans ((am_g_t h103).trans ?_)
        refine am_bind_congr fun r108 => ?_
        show am_Ex d 203 48 [(2, x0), (0, x1), (0, x2), (0, x3), (0, x4), (0, x5)] [] r108.2 = _
        exact (am_e5 rfl).trans rfl
      · exact (am_e5 rfl).trans rfl
  · refine (am_e0 rfl rfl).trans ?_
    refine (am_e0 rfl rfl).trans ?_
    refine (am_i_ne rfl).trans (am_if_congr (fun c109 => ?_) (fun c109 => ?_))
    · refine (am_e0 rfl rfl).trans ?_
      refine (am_e1 rfl rfl).trans ?_
      exact (am_e4i rfl rfl).trans rfl
    · refine (am_e0 rfl rfl).trans ?_
      refine (am_z_ne rfl).trans (am_if_congr (fun c110 => ?_) (fun c110 => ?_))
      · refine (am_e0 rfl rfl).trans ?_
        refine (am_e1 rfl rfl).trans ?_
        exact (am_e4i rfl rfl).trans rfl
      · refine (am_e0 rfl rfl).trans ?_
        refine (am_gf (c := 11) (t := 2) rfl rfl rfl).trans (am_g_congr fun h111 => ?_)
        refine (am_e0 rfl rfl).trans ?_
        refine (am_ial rfl).trans (am_g_congr fun h112 => ?_)
        exact (am_e4i rfl rfl).trans rfl
set_option maxRecDepth 10000 in
theorem aq_203_51 (d : Nat) (x0 x1 x2 x3 x4 x5 : Int) (M : am_M) : am_Ex d 203 51 [(2, x0), (0, x1), (0, x2), (0, x3), (0, x4), (0, x5)] [] M = (am_let (am_w32 (x5 + 1)) fun v101 => am_Ex d 203 30 [(2, x0), (0, x1), (0, x2), (0, x3), (0, x4), (0, v101)] [] M) := by
  refine (am_e0 rfl rfl).trans ?_
  refine am_lets (L := fun v101 => [(2, x0), (0, x1), (0, x2), (0, x3), (0, x4), (0, v101)]) (fun v101 => ?_)
  refine (am_e1 rfl rfl).trans ?_
  exact (am_e5 rfl).trans rfl
set_option maxRecDepth 10000 in
theorem aq_203_49 (d : Nat) (x0 x1 x2 x3 x4 x5 : Int) (M : am_M) : am_Ex d 203 49 [(2, x0), (0, x1), (0, x2), (0, x3), (0, x4), (0, x5)] [] M = (am_let (am_w32 (x4 + 1)) fun v101 => am_Ex d 203 51 [(2, x0), (0, x1), (0, x2), (0, x3), (0, v101), (0, x5)] [] M) := by
  refine (am_e0 rfl rfl).trans ?_
  refine am_lets (L := fun v101 => [(2, x0), (0, x1), (0, x2), (0, x3), (0, v101), (0, x5)]) (fun v101 => ?_)
  exact (am_e5 rfl).trans rfl
-- 204: UnlearnedHandModel.worthByEach(I)I
set_option maxRecDepth 10000 in
theorem aq_204 (d : Nat) (x0 x1 : Int) (M : am_M) : am_Call d 204 [(2, x0), (0, x1)] M = (am_Ex d 204 5 [(2, x0), (0, x1), (0, 0), (0, 0)] [] M) := by
  show am_Ex d 204 0 [(2, x0), (0, x1), am_N, am_N] [] M = _
  refine (am_e0 rfl rfl).trans ?_
  refine (am_e0 rfl rfl).trans ?_
  refine (am_e0 rfl rfl).trans ?_
  refine (am_e0 rfl rfl).trans ?_
  exact (am_e5 rfl).trans rfl
set_option maxRecDepth 10000 in
theorem aq_204_5 (d : Nat) (x0 x1 x2 x3 : Int) (M : am_M) : am_Ex d 204 5 [(2, x0), (0, x1), (0, x2), (0, x3)] [] M = (am_g (am_ob x0 11) <| am_g (am_ar (am_rd M x0 0) 20 1) <| if x3 < am_rd M (am_rd M x0 0) 1 then ((am_Call d 65 [(0, x1), (0, x3)] M).bind fun r104 => if r104.1 = 0 then (am_let (am_w32 (x2 + 0)) fun v106 => am_let (am_w32 (x3 + 1)) fun v107 => am_Ex d 204 5 [(2, x0), (0, x1), (0, v106), (0, v107)] [] r104.2) else (am_g (am_ar (am_rd r104.2 x0 53) 20 x3) <| (am_Call d 165 [(2, x0), (0, am_rd r104.2 (am_rd r104.2 x0 53) x3)] r104.2).bind fun r109 => am_let (am_w32 (x2 + r109.1)) fun v110 => am_let (am_w32 (x3 + 1)) fun v111 => am_Ex d 204 5 [(2, x0), (0, x1), (0, v110), (0, v111)] [] r109.2)) else (some (x2, M))) := by
  refine (am_e0 rfl rfl).trans ?_
  refine (am_e0 rfl rfl).trans ?_
  refine (am_gf (c := 11) (t := 2) rfl rfl rfl).trans (am_g_congr fun h101 => ?_)
  refine (am_e0 rfl rfl).trans ?_
  refine (am_ial rfl).trans (am_g_congr fun h102 => ?_)
  refine (am_i_ge rfl).trans (am_if_congr (fun c103 => ?_) (fun c103 => ?_))
  · refine (am_e0 rfl rfl).trans ?_
    refine (am_e0 rfl rfl).trans ?_
    refine (am_e0 rfl rfl).trans ?_
    refine (am_cal3 (z := 65) (k := 2) (c := true) rfl rfl rfl rfl rfl rfl rfl rfl).trans ((am_g_t rfl).trans ?_)
    refine am_bind_congr fun r104 => ?_
    show am_Ex d 204 15 [(2, x0), (0, x1), (0, x2), (0, x3)] [(0, r104.1), (0, x2)] r104.2 = _
    refine (am_z_eq rfl).trans (am_if_congr (fun c105 => ?_) (fun c105 => ?_))
    · refine (am_e0 rfl rfl).trans ?_
      refine (am_e0 rfl rfl).trans ?_
      refine (am_e0 rfl rfl).trans ?_
      refine am_lets (L := fun v106 => [(2, x0), (0, x1), (0, v106), (0, x3)]) (fun v106 => ?_)
      refine (am_e0 rfl rfl).trans ?_
      refine am_lets (L := fun v107 => [(2, x0), (0, x1), (0, v106), (0, v107)]) (fun v107 => ?_)
      refine (am_e1 rfl rfl).trans ?_
      exact (am_e5 rfl).trans rfl
    · refine (am_e0 rfl rfl).trans ?_
      refine (am_e0 rfl rfl).trans ?_
      refine (am_gf (c := 11) (t := 2) rfl rfl rfl).trans ((am_g_t h101).trans ?_)
      refine (am_e0 rfl rfl).trans ?_
      refine (am_ial rfl).trans (am_g_congr fun h108 => ?_)
      refine (am_cal3 (z := 165) (k := 2) (c := (am_ob x0 11)) rfl rfl rfl rfl rfl rfl rfl rfl).trans ((am_g_t h101).trans ?_)
      refine am_bind_congr fun r109 => ?_
      show am_Ex d 204 22 [(2, x0), (0, x1), (0, x2), (0, x3)] [(0, r109.1), (0, x2)] r109.2 = _
      refine (am_e1 rfl rfl).trans ?_
      refine (am_e0 rfl rfl).trans ?_
      refine (am_e0 rfl rfl).trans ?_
      refine am_lets (L := fun v110 => [(2, x0), (0, x1), (0, v110), (0, x3)]) (fun v110 => ?_)
      refine (am_e0 rfl rfl).trans ?_
      refine am_lets (L := fun v111 => [(2, x0), (0, x1), (0, v110), (0, v111)]) (fun v111 => ?_)
      refine (am_e1 rfl rfl).trans ?_
      exact (am_e5 rfl).trans rfl
  · refine (am_e0 rfl rfl).trans ?_
    exact (am_e4i rfl rfl).trans rfl
-- 205: java/lang/String.indexOf(II)I
set_option maxRecDepth 10000 in
theorem aq_205 (d : Nat) (x0 x1 x2 : Int) (M : am_M) : am_Call d 205 [(2, x0), (0, x1), (0, x2)] M = (am_g (decide (x0 = -2) || decide (x0 = -3)) <| (am_Call d 101 [(2, x0)] M).bind fun r102 => if r102.1 = 0 then ((am_Call d 169 [(2, x0)] r102.2).bind fun r104 => none) else ((am_Call d 169 [(2, x0)] r102.2).bind fun r105 => (am_Call d 171 [(2, x0 - 3), (0, x1), (0, x2), (0, r105.1)] r105.2).bind fun r106 => some (r106.1, r106.2))) := by
  show am_Ex d 205 0 [(2, x0), (0, x1), (0, x2)] [] M = _
  refine (am_e0 rfl rfl).trans ?_
  refine (am_cal3 (z := 101) (k := 1) (c := (decide (x0 = -2) || decide (x0 = -3))) rfl rfl rfl rfl rfl rfl rfl rfl).trans (am_g_congr fun h101 => ?_)
  refine am_bind_congr fun r102 => ?_
  show am_Ex d 205 2 [(2, x0), (0, x1), (0, x2)] [(0, r102.1)] r102.2 = _
  refine (am_z_eq rfl).trans (am_if_congr (fun c103 => ?_) (fun c103 => ?_))
  · refine (am_e0 rfl rfl).trans ?_
    refine (am_rgv rfl).trans ((am_g_t h101).trans ?_)
    refine (am_e0 rfl rfl).trans ?_
    refine (am_e0 rfl rfl).trans ?_
    refine (am_e0 rfl rfl).trans ?_
    refine (am_cal3 (z := 169) (k := 1) (c := (decide (x0 = -2) || decide (x0 = -3))) rfl rfl rfl rfl rfl rfl rfl rfl).trans ((am_g_t h101).trans ?_)
    refine am_bind_congr fun r104 => ?_
    show am_Ex d 205 17 [(2, x0), (0, x1), (0, x2)] [(0, r104.1), (0, x2), (0, x1), (2, x0 - 3)] r104.2 = _
    exact (am_e99 rfl).trans rfl
  · refine (am_e0 rfl rfl).trans ?_
    refine (am_rgv rfl).trans ((am_g_t h101).trans ?_)
    refine (am_e0 rfl rfl).trans ?_
    refine (am_e0 rfl rfl).trans ?_
    refine (am_e0 rfl rfl).trans ?_
    refine (am_cal3 (z := 169) (k := 1) (c := (decide (x0 = -2) || decide (x0 = -3))) rfl rfl rfl rfl rfl rfl rfl rfl).trans ((am_g_t h101).trans ?_)
    refine am_bind_congr fun r105 => ?_
    show am_Ex d 205 9 [(2, x0), (0, x1), (0, x2)] [(0, r105.1), (0, x2), (0, x1), (2, x0 - 3)] r105.2 = _
    refine (am_cal3 (z := 171) (k := 4) (c := true) rfl rfl rfl rfl rfl rfl rfl rfl).trans ((am_g_t rfl).trans ?_)
    refine am_bind_congr fun r106 => ?_
    show am_Ex d 205 10 [(2, x0), (0, x1), (0, x2)] [(0, r106.1)] r106.2 = _
    refine (am_e1 rfl rfl).trans ?_
    exact (am_e4i rfl rfl).trans rfl
-- 206: java/lang/StringLatin1.charAt([BI)C
set_option maxRecDepth 10000 in
theorem aq_206 (d : Nat) (x0 x1 : Int) (M : am_M) : am_Call d 206 [(2, x0), (0, x1)] M = (am_g (decide (x0 = -5) || decide (x0 = -6)) <| (am_Call d 170 [(0, x1), (0, ((am_str (-5 - x0).toNat).length : Int))] M).bind fun r102 => am_g ((decide (x0 = -5) || decide (x0 = -6)) && (decide (0 ≤ x1) && decide (x1 < ((am_str (-5 - x0).toNat).length : Int)))) <| am_g (decide (0 ≤ am_u16 (am_and ((am_str (-5 - x0).toNat).getD (x1).toNat 0) 255)) && decide (am_u16 (am_and ((am_str (-5 - x0).toNat).getD (x1).toNat 0) 255) < 65536)) (some (am_u16 (am_and ((am_str (-5 - x0).toNat).getD (x1).toNat 0) 255), r102.2))) := by
  show am_Ex d 206 0 [(2, x0), (0, x1)] [] M = _
  refine (am_e0 rfl rfl).trans ?_
  refine (am_e0 rfl rfl).trans ?_
  refine (am_rln rfl).trans (am_g_congr fun h101 => ?_)
  refine (am_cal3 (z := 170) (k := 2) (c := true) rfl rfl rfl rfl rfl rfl rfl rfl).trans ((am_g_t rfl).trans ?_)
  refine am_bind_congr fun r102 => ?_
  show am_Ex d 206 4 [(2, x0), (0, x1)] [] r102.2 = _
  refine (am_e0 rfl rfl).trans ?_
  refine (am_e0 rfl rfl).trans ?_
  refine (am_rbl rfl).trans (am_g_congr fun h103 => ?_)
  refine (am_e0 rfl rfl).trans ?_
  refine (am_e0 rfl rfl).trans ?_
  refine (am_e0 rfl rfl).trans ?_
  exact (am_e4z rfl rfl).trans rfl
-- 207: UnlearnedHand$Deeds.misleadMan(LUnlearnedHand$Hands;III)V
set_option maxRecDepth 10000 in
theorem aq_207 (d : Nat) (x0 x1 x2 x3 x4 : Int) (M : am_M) : am_Call d 207 [(2, x0), (2, x1), (0, x2), (0, x3), (0, x4)] M = (am_g (am_ob x1 3) <| (am_Call d 115 [(2, x1), (0, x2), (0, x3)] M).bind fun r102 => (am_Call d 120 [(2, x1), (0, x2), (0, x3), (0, am_w32 (r102.1 + x4))] r102.2).bind fun r103 => (am_Call d 117 [(2, x1), (0, x2), (0, x3)] r103.2).bind fun r104 => if r104.1 = 0 then (am_g (am_ob x0 0) <| am_g (am_ob (am_rd r104.2 x0 1) 4) <| (am_Call d 174 [(2, am_rd r104.2 x0 1), (0, 3), (2, x1), (0, x2), (0, x3), (0, x4)] r104.2).bind fun r108 => (am_Call d 114 [(2, x1), (0, x2), (0, x3)] r108.2).bind fun r109 => (am_Call d 119 [(2, x1), (0, x2), (0, x3), (0, am_w32 (r109.1 - r108.1))] r109.2).bind fun r110 => some (0, r110.2)) else (some (0, r104.2))) := by
  show am_Ex d 207 0 [(2, x0), (2, x1), (0, x2), (0, x3), (0, x4), am_N] [] M = _
  refine (am_e0 rfl rfl).trans ?_
  refine (am_e0 rfl rfl).trans ?_
  refine (am_e0 rfl rfl).trans ?_
  refine (am_e0 rfl rfl).trans ?_
  refine (am_e0 rfl rfl).trans ?_
  refine (am_e0 rfl rfl).trans ?_
  refine (am_cal3 (z := 115) (k := 3) (c := (am_ob x1 3)) rfl rfl rfl rfl rfl rfl rfl rfl).trans (am_g_congr fun h101 => ?_)
  refine am_bind_congr fun r102 => ?_
  show am_Ex d 207 7 [(2, x0), (2, x1), (0, x2), (0, x3), (0, x4), am_N] [(0, r102.1), (0, x3), (0, x2), (2, x1)] r102.2 = _
  refine (am_e0 rfl rfl).trans ?_
  refine (am_e0 rfl rfl).trans ?_
  refine (am_cal3 (z := 120) (k := 4) (c := (am_ob x1 3)) rfl rfl rfl rfl rfl rfl rfl rfl).trans ((am_g_t h101).trans ?_)
  refine am_bind_congr fun r103 => ?_
  show am_Ex d 207 10 [(2, x0), (2, x1), (0, x2), (0, x3), (0, x4), am_N] [] r103.2 = _
  refine (am_e0 rfl rfl).trans ?_
  refine (am_e0 rfl rfl).trans ?_
  refine (am_e0 rfl rfl).trans ?_
  refine (am_cal3 (z := 117) (k := 3) (c := (am_ob x1 3)) rfl rfl rfl rfl rfl rfl rfl rfl).trans ((am_g_t h101).trans ?_)
  refine am_bind_congr fun r104 => ?_
  show am_Ex d 207 14 [(2, x0), (2, x1), (0, x2), (0, x3), (0, x4), am_N] [(0, r104.1)] r104.2 = _
  refine (am_z_ne rfl).trans (am_if_congr (fun c105 => ?_) (fun c105 => ?_))
  · refine (am_e0 rfl rfl).trans ?_
    refine (am_gf (c := 0) (t := 2) rfl rfl rfl).trans (am_g_congr fun h106 => ?_)
    refine (am_e0 rfl rfl).trans ?_
    refine (am_e0 rfl rfl).trans ?_
    refine (am_e0 rfl rfl).trans ?_
    refine (am_e0 rfl rfl).trans ?_
    refine (am_e0 rfl rfl).trans ?_
    refine (am_cal3 (z := 174) (k := 6) (c := (am_ob (am_rd r104.2 x0 1) 4)) rfl rfl rfl rfl rfl rfl rfl rfl).trans (am_g_congr fun h107 => ?_)
    refine am_bind_congr fun r108 => ?_
    show am_Ex d 207 23 [(2, x0), (2, x1), (0, x2), (0, x3), (0, x4), am_N] [(0, r108.1)] r108.2 = _
    refine (am_e0 rfl rfl).trans ?_
    refine (am_e0 rfl rfl).trans ?_
    refine (am_e0 rfl rfl).trans ?_
    refine (am_e0 rfl rfl).trans ?_
    refine (am_e0 rfl rfl).trans ?_
    refine (am_e0 rfl rfl).trans ?_
    refine (am_e0 rfl rfl).trans ?_
    refine (am_cal3 (z := 114) (k := 3) (c := (am_ob x1 3)) rfl rfl rfl rfl rfl rfl rfl rfl).trans ((am_g_t h101).trans ?_)
    refine am_bind_congr fun r109 => ?_
    show am_Ex d 207 31 [(2, x0), (2, x1), (0, x2), (0, x3), (0, x4), (0, r108.1)] [(0, r109.1), (0, x3), (0, x2), (2, x1)] r109.2 = _
    refine (am_e0 rfl rfl).trans ?_
    refine (am_e0 rfl rfl).trans ?_
    refine (am_cal3 (z := 119) (k := 4) (c := (am_ob x1 3)) rfl rfl rfl rfl rfl rfl rfl rfl).trans ((am_g_t h101).trans ?_)
    refine am_bind_congr fun r110 => ?_
    show am_Ex d 207 34 [(2, x0), (2, x1), (0, x2), (0, x3), (0, x4), (0, r108.1)] [] r110.2 = _
    refine (am_e5 rfl).trans ?_
    show am_Ex d 207 35 [am_N, am_N, am_N, am_N, am_N, am_N] [] r110.2 = _
    exact (am_e4v rfl rfl).trans rfl
  · refine (am_e5 rfl).trans ?_
    show am_Ex d 207 35 [am_N, am_N, am_N, am_N, am_N, am_N] [] r104.2 = _
    exact (am_e4v rfl rfl).trans rfl
-- 208: UnlearnedHand$Deeds.fade(LUnlearnedHand$Hands;II)V
set_option maxRecDepth 10000 in
theorem aq_208 (d : Nat) (x0 x1 x2 x3 : Int) (M : am_M) : am_Call d 208 [(2, x0), (2, x1), (0, x2), (0, x3)] M = (am_g (am_ob x1 3) <| (am_Call d 117 [(2, x1), (0, x2), (0, x3)] M).bind fun r102 => if r102.1 = 0 then (am_g (am_ob x0 0) <| am_g (am_ob (am_rd r102.2 x0 1) 4) <| (am_Call d 174 [(2, am_rd r102.2 x0 1), (0, 1), (2, x1), (0, x2), (0, x3), (0, 0)] r102.2).bind fun r106 => am_g (am_ob (am_rd r106.2 x0 1) 4) <| (am_Call d 174 [(2, am_rd r106.2 x0 1), (0, 2), (2, x1), (0, x2), (0, x3), (0, 0)] r106.2).bind fun r108 => (am_Call d 114 [(2, x1), (0, x2), (0, x3)] r108.2).bind fun r109 => (am_Call d 119 [(2, x1), (0, x2), (0, x3), (0, am_w32 (r109.1 - r106.1))] r109.2).bind fun r110 => (am_Call d 115 [(2, x1), (0, x2), (0, x3)] r110.2).bind fun r111 => (am_Call d 120 [(2, x1), (0, x2), (0, x3), (0, am_w32 (r111.1 - r108.1))] r111.2).bind fun r112 => some (0, r112.2)) else (am_g (am_ob x0 0) <| am_g (am_ob (am_rd r102.2 x0 1) 4) <| (am_Call d 174 [(2, am_rd r102.2 x0 1), (0, 2), (2, x1), (0, x2), (0, x3), (0, 0)] r102.2).bind fun r115 => (am_Call d 114 [(2, x1), (0, x2), (0, x3)] r115.2).bind fun r116 => (am_Call d 119 [(2, x1), (0, x2), (0, x3), (0, am_w32 (r116.1 - 0))] r116.2).bind fun r117 => (am_Call d 115 [(2, x1), (0, x2), (0, x3)] r117.2).bind fun r118 => (am_Call d 120 [(2, x1), (0, x2), (0, x3), (0, am_w32 (r118.1 - r115.1))] r118.2).bind fun r119 => some (0, r119.2))) := by
  show am_Ex d 208 0 [(2, x0), (2, x1), (0, x2), (0, x3), am_N, am_N] [] M = _
  refine (am_e0 rfl rfl).trans ?_
  refine (am_e0 rfl rfl).trans ?_
  refine (am_e0 rfl rfl).trans ?_
  refine (am_cal3 (z := 117) (k := 3) (c := (am_ob x1 3)) rfl rfl rfl rfl rfl rfl rfl rfl).trans (am_g_congr fun h101 => ?_)
  refine am_bind_congr fun r102 => ?_
  show am_Ex d 208 4 [(2, x0), (2, x1), (0, x2), (0, x3), am_N, am_N] [(0, r102.1)] r102.2 = _
  refine (am_z_eq rfl).trans (am_if_congr (fun c103 => ?_) (fun c103 => ?_))
  · refine (am_e0 rfl rfl).trans ?_
    refine (am_gf (c := 0) (t := 2) rfl rfl rfl).trans (am_g_congr fun h104 => ?_)
    refine (am_e0 rfl rfl).trans ?_
    refine (am_e0 rfl rfl).trans ?_
    refine (am_e0 rfl rfl).trans ?_
    refine (am_e0 rfl rfl).trans ?_
    refine (am_e0 rfl rfl).trans ?_
    refine (am_cal3 (z := 174) (k := 6) (c := (am_ob (am_rd r102.2 x0 1) 4)) rfl rfl rfl rfl rfl rfl rfl rfl).trans (am_g_congr fun h105 => ?_)
    refine am_bind_congr fun r106 => ?_
    show am_Ex d 208 15 [(2, x0), (2, x1), (0, x2), (0, x3), am_N, am_N] [(0, r106.1)] r106.2 = _
    refine (am_e0 rfl rfl).trans ?_
    refine (am_e0 rfl rfl).trans ?_
    refine (am_gf (c := 0) (t := 2) rfl rfl rfl).trans ((am_g_t h104).trans ?_)
    refine (am_e0 rfl rfl).trans ?_
    refine (am_e0 rfl rfl).trans ?_
    refine (am_e0 rfl rfl).trans ?_
    refine (am_e0 rfl rfl).trans ?_
    refine (am_e0 rfl rfl).trans ?_
    refine (am_cal3 (z := 174) (k := 6) (c := (am_ob (am_rd r106.2 x0 1) 4)) rfl rfl rfl rfl rfl rfl rfl rfl).trans (am_g_congr fun h107 => ?_)
    refine am_bind_congr fun r108 => ?_
    show am_Ex d 208 24 [(2, x0), (2, x1), (0, x2), (0, x3), (0, r106.1), am_N] [(0, r108.1)] r108.2 = _
    refine (am_e0 rfl rfl).trans ?_
    refine (am_e0 rfl rfl).trans ?_
    refine (am_e0 rfl rfl).trans ?_
    refine (am_e0 rfl rfl).trans ?_
    refine (am_e0 rfl rfl).trans ?_
    refine (am_e0 rfl rfl).trans ?_
    refine (am_e0 rfl rfl).trans ?_
    refine (am_cal3 (z := 114) (k := 3) (c := (am_ob x1 3)) rfl rfl rfl rfl rfl rfl rfl rfl).trans ((am_g_t h101).trans ?_)
    refine am_bind_congr fun r109 => ?_
    show am_Ex d 208 32 [(2, x0), (2, x1), (0, x2), (0, x3), (0, r106.1), (0, r108.1)] [(0, r109.1), (0, x3), (0, x2), (2, x1)] r109.2 = _
    refine (am_e0 rfl rfl).trans ?_
    refine (am_e0 rfl rfl).trans ?_
    refine (am_cal3 (z := 119) (k := 4) (c := (am_ob x1 3)) rfl rfl rfl rfl rfl rfl rfl rfl).trans ((am_g_t h101).trans ?_)
    refine am_bind_congr fun r110 => ?_
    show am_Ex d 208 35 [(2, x0), (2, x1), (0, x2), (0, x3), (0, r106.1), (0, r108.1)] [] r110.2 = _
    refine (am_e0 rfl rfl).trans ?_
    refine (am_e0 rfl rfl).trans ?_
    refine (am_e0 rfl rfl).trans ?_
    refine (am_e0 rfl rfl).trans ?_
    refine (am_e0 rfl rfl).trans ?_
    refine (am_e0 rfl rfl).trans ?_
    refine (am_cal3 (z := 115) (k := 3) (c := (am_ob x1 3)) rfl rfl rfl rfl rfl rfl rfl rfl).trans ((am_g_t h101).trans ?_)
    refine am_bind_congr fun r111 => ?_
    show am_Ex d 208 42 [(2, x0), (2, x1), (0, x2), (0, x3), (0, r106.1), (0, r108.1)] [(0, r111.1), (0, x3), (0, x2), (2, x1)] r111.2 = _
    refine (am_e0 rfl rfl).trans ?_
    refine (am_e0 rfl rfl).trans ?_
    refine (am_cal3 (z := 120) (k := 4) (c := (am_ob x1 3)) rfl rfl rfl rfl rfl rfl rfl rfl).trans ((am_g_t h101).trans ?_)
    refine am_bind_congr fun r112 => ?_
    show am_Ex d 208 45 [(2, x0), (2, x1), (0, x2), (0, x3), (0, r106.1), (0, r108.1)] [] r112.2 = _
    exact (am_e4v rfl rfl).trans rfl
  · refine (am_e0 rfl rfl).trans ?_
    refine (am_e1 rfl rfl).trans ?_
    refine (am_e0 rfl rfl).trans ?_
    refine (am_e0 rfl rfl).trans ?_
    refine (am_gf (c := 0) (t := 2) rfl rfl rfl).trans (am_g_congr fun h113 => ?_)
    refine (am_e0 rfl rfl).trans ?_
    refine (am_e0 rfl rfl).trans ?_
    refine (am_e0 rfl rfl).trans ?_
    refine (am_e0 rfl rfl).trans ?_
    refine (am_e0 rfl rfl).trans ?_
    refine (am_cal3 (z := 174) (k := 6) (c := (am_ob (am_rd r102.2 x0 1) 4)) rfl rfl rfl rfl rfl rfl rfl rfl).trans (am_g_congr fun h114 => ?_)
    refine am_bind_congr fun r115 => ?_
    show am_Ex d 208 24 [(2, x0), (2, x1), (0, x2), (0, x3), (0, 0), am_N] [(0, r115.1)] r115.2 = _
    refine (am_e0 rfl rfl).trans ?_
    refine (am_e0 rfl rfl).trans ?_
    refine (am_e0 rfl rfl).trans ?_
    refine (am_e0 rfl rfl).trans ?_
    refine (am_e0 rfl rfl).trans ?_
    refine (am_e0 rfl rfl).trans ?_
    refine (am_e0 rfl rfl).trans ?_
    refine (am_cal3 (z := 114) (k := 3) (c := (am_ob x1 3)) rfl rfl rfl rfl rfl rfl rfl rfl).trans ((am_g_t h101).trans ?_)
    refine am_bind_congr fun r116 => ?_
    show am_Ex d 208 32 [(2, x0), (2, x1), (0, x2), (0, x3), (0, 0), (0, r115.1)] [(0, r116.1), (0, x3), (0, x2), (2, x1)] r116.2 = _
    refine (am_e0 rfl rfl).trans ?_
    refine (am_e0 rfl rfl).trans ?_
    refine (am_cal3 (z := 119) (k := 4) (c := (am_ob x1 3)) rfl rfl rfl rfl rfl rfl rfl rfl).trans ((am_g_t h101).trans ?_)
    refine am_bind_congr fun r117 => ?_
    show am_Ex d 208 35 [(2, x0), (2, x1), (0, x2), (0, x3), (0, 0), (0, r115.1)] [] r117.2 = _
    refine (am_e0 rfl rfl).trans ?_
    refine (am_e0 rfl rfl).trans ?_
    refine (am_e0 rfl rfl).trans ?_
    refine (am_e0 rfl rfl).trans ?_
    refine (am_e0 rfl rfl).trans ?_
    refine (am_e0 rfl rfl).trans ?_
    refine (am_cal3 (z := 115) (k := 3) (c := (am_ob x1 3)) rfl rfl rfl rfl rfl rfl rfl rfl).trans ((am_g_t h101).trans ?_)
    refine am_bind_congr fun r118 => ?_
    show am_Ex d 208 42 [(2, x0), (2, x1), (0, x2), (0, x3), (0, 0), (0, r115.1)] [(0, r118.1), (0, x3), (0, x2), (2, x1)] r118.2 = _
    refine (am_e0 rfl rfl).trans ?_
    refine (am_e0 rfl rfl).trans ?_
    refine (am_cal3 (z := 120) (k := 4) (c := (am_ob x1 3)) rfl rfl rfl rfl rfl rfl rfl rfl).trans ((am_g_t h101).trans ?_)
    refine am_bind_congr fun r119 => ?_
    show am_Ex d 208 45 [(2, x0), (2, x1), (0, x2), (0, x3), (0, 0), (0, r115.1)] [] r119.2 = _
    exact (am_e4v rfl rfl).trans rfl
-- 209: UnlearnedHand$Laws.turnsOf(LUnlearnedHand$Hands;I)I
set_option maxRecDepth 10000 in
theorem aq_209 (d : Nat) (x0 x1 x2 : Int) (M : am_M) : am_Call d 209 [(2, x0), (2, x1), (0, x2)] M = (am_Ex d 209 5 [(2, x0), (2, x1), (0, x2), (0, 0), (0, 0)] [] M) := by
  show am_Ex d 209 0 [(2, x0), (2, x1), (0, x2), am_N, am_N] [] M = _
  refine (am_e0 rfl rfl).trans ?_
  refine (am_e0 rfl rfl).trans ?_
  refine (am_e0 rfl rfl).trans ?_
  refine (am_e0 rfl rfl).trans ?_
  exact (am_e5 rfl).trans rfl
set_option maxRecDepth 10000 in
theorem aq_209_5 (d : Nat) (x0 x1 x2 x3 x4 : Int) (M : am_M) : am_Ex d 209 5 [(2, x0), (2, x1), (0, x2), (0, x3), (0, x4)] [] M = (am_g (am_ob x0 4) <| am_g (am_ob (am_rd M x0 0) 2) <| if x4 < am_rd M (am_rd M x0 0) 5 then ((am_Call d 174 [(2, x0), (0, 0), (2, x1), (0, x2), (0, x4), (0, 0)] M).bind fun r104 => if r104.1 = 0 then (am_let (am_or x3 0) fun v106 => am_let (am_w32 (x4 + 1)) fun v107 => am_Ex d 209 5 [(2, x0), (2, x1), (0, x2), (0, v106), (0, v107)] [] r104.2) else (am_let (am_or x3 (am_shl 1 x4)) fun v108 => am_let (am_w32 (x4 + 1)) fun v109 => am_Ex d 209 5 [(2, x0), (2, x1), (0, x2), (0, v108), (0, v109)] [] r104.2)) else (some (x3, M))) := by
  refine (am_e0 rfl rfl).trans ?_
  refine (am_e0 rfl rfl).trans ?_
  refine (am_gf (c := 4) (t := 2) rfl rfl rfl).trans (am_g_congr fun h101 => ?_)
  refine (am_gf (c := 2) (t := 0) rfl rfl rfl).trans (am_g_congr fun h102 => ?_)
  refine (am_i_ge rfl).trans (am_if_congr (fun c103 => ?_) (fun c103 => ?_))
  · refine (am_e0 rfl rfl).trans ?_
    refine (am_e0 rfl rfl).trans ?_
    refine (am_e0 rfl rfl).trans ?_
    refine (am_e0 rfl rfl).trans ?_
    refine (am_e0 rfl rfl).trans ?_
    refine (am_e0 rfl rfl).trans ?_
    refine (am_e0 rfl rfl).trans ?_
    refine (am_cal3 (z := 174) (k := 6) (c := (am_ob x0 4)) rfl rfl rfl rfl rfl rfl rfl rfl).trans ((am_g_t h101).trans ?_)
    refine am_bind_congr fun r104 => ?_
    show am_Ex d 209 18 [(2, x0), (2, x1), (0, x2), (0, x3), (0, x4)] [(0, r104.1), (0, x3)] r104.2 = _
    refine (am_z_eq rfl).trans (am_if_congr (fun c105 => ?_) (fun c105 => ?_))
    · refine (am_e0 rfl rfl).trans ?_
      refine (am_e0 rfl rfl).trans ?_
      refine (am_e0 rfl rfl).trans ?_
      refine am_lets (L := fun v106 => [(2, x0), (2, x1), (0, x2), (0, v106), (0, x4)]) (fun v106 => ?_)
      refine (am_e0 rfl rfl).trans ?_
      refine am_lets (L := fun v107 => [(2, x0), (2, x1), (0, x2), (0, v106), (0, v107)]) (fun v107 => ?_)
      refine (am_e1 rfl rfl).trans ?_
      exact (am_e5 rfl).trans rfl
    · refine (am_e0 rfl rfl).trans ?_
      refine (am_e0 rfl rfl).trans ?_
      refine (am_e0 rfl rfl).trans ?_
      refine (am_e1 rfl rfl).trans ?_
      refine (am_e0 rfl rfl).trans ?_
      refine (am_e0 rfl rfl).trans ?_
      refine am_lets (L := fun v108 => [(2, x0), (2, x1), (0, x2), (0, v108), (0, x4)]) (fun v108 => ?_)
      refine (am_e0 rfl rfl).trans ?_
      refine am_lets (L := fun v109 => [(2, x0), (2, x1), (0, x2), (0, v108), (0, v109)]) (fun v109 => ?_)
      refine (am_e1 rfl rfl).trans ?_
      exact (am_e5 rfl).trans rfl
  · refine (am_e0 rfl rfl).trans ?_
    exact (am_e4i rfl rfl).trans rfl
-- 210: UnlearnedHand$Orders.cheapestTrial(III)J
set_option maxRecDepth 10000 in
theorem aq_210 (d : Nat) (x0 x1 x2 x3 : Int) (M : am_M) : am_Call d 210 [(2, x0), (0, x1), (0, x2), (0, x3)] M = (am_g (am_ob x0 5) <| (am_Call d 36 [(2, x0), (0, x2)] M).bind fun r102 => am_Ex d 210 9 [(2, x0), (0, x1), am_N, (0, x3), (1, (-1)), am_N, (0, r102.1), (0, 0), am_N, am_N, am_N] [] r102.2) := by
  show am_Ex d 210 0 [(2, x0), (0, x1), (0, x2), (0, x3), am_N, am_N, am_N, am_N, am_N, am_N, am_N] [] M = _
  refine (am_e0 rfl rfl).trans ?_
  refine (am_e0 rfl rfl).trans ?_
  refine (am_e0 rfl rfl).trans ?_
  refine (am_e0 rfl rfl).trans ?_
  refine (am_cal3 (z := 36) (k := 2) (c := (am_ob x0 5)) rfl rfl rfl rfl rfl rfl rfl rfl).trans (am_g_congr fun h101 => ?_)
  refine am_bind_congr fun r102 => ?_
  show am_Ex d 210 5 [(2, x0), (0, x1), (0, x2), (0, x3), (1, (-1)), am_N, am_N, am_N, am_N, am_N, am_N] [(0, r102.1)] r102.2 = _
  refine (am_e0 rfl rfl).trans ?_
  refine (am_e0 rfl rfl).trans ?_
  refine (am_e0 rfl rfl).trans ?_
  exact (am_e5 rfl).trans rfl
set_option maxRecDepth 10000 in
theorem aq_210_9 (d : Nat) (x0 x1 x3 x4 x6 x7 : Int) (M : am_M) : am_Ex d 210 9 [(2, x0), (0, x1), am_N, (0, x3), (1, x4), am_N, (0, x6), (0, x7), am_N, am_N, am_N] [] M = (if x7 < 720 then (if x6 = 0 then (am_Ex d 210 44 [(2, x0), am_N, am_N, (0, x3), (1, x4), am_N, am_N, am_N, am_N, am_N, am_N] [] M) else (am_g (am_ob x0 5) <| (am_Call d 175 [(2, x0), (0, x1)] M).bind fun r104 => if am_cmp x4 0 < 0 then (am_Ex d 210 27 [(2, x0), (0, x1), am_N, (0, x3), am_N, am_N, am_N, (0, x7), (1, r104.1), am_N, am_N] [] r104.2) else (if am_cmp r104.1 x4 < 0 then (am_Ex d 210 27 [(2, x0), (0, x1), am_N, (0, x3), am_N, am_N, am_N, (0, x7), (1, r104.1), am_N, am_N] [] r104.2) else (am_Ex d 210 38 [(2, x0), (0, x1), am_N, (0, x3), (1, x4), am_N, am_N, (0, x7), am_N, am_N, am_N] [] r104.2)))) else (am_Ex d 210 44 [(2, x0), am_N, am_N, (0, x3), (1, x4), am_N, am_N, am_N, am_N, am_N, am_N] [] M)) := by
  refine (am_e0 rfl rfl).trans ?_
  refine (am_e0 rfl rfl).trans ?_
  refine (am_i_ge rfl).trans (am_if_congr (fun c101 => ?_) (fun c101 => ?_))
  · refine (am_e0 rfl rfl).trans ?_
    refine (am_z_eq rfl).trans (am_if_congr (fun c102 => ?_) (fun c102 => ?_))
    · exact (am_e5 rfl).trans rfl
    · refine (am_e0 rfl rfl).trans ?_
      refine (am_e0 rfl rfl).trans ?_
      refine (am_cal3 (z := 175) (k := 2) (c := (am_ob x0 5)) rfl rfl rfl rfl rfl rfl rfl rfl).trans (am_g_congr fun h103 => ?_)
      refine am_bind_congr fun r104 => ?_
      show am_Ex d 210 17 [(2, x0), (0, x1), am_N, (0, x3), (1, x4), am_N, (0, x6), (0, x7), am_N, am_N, am_N] [(1, r104.1)] r104.2 = _
      refine (am_e0 rfl rfl).trans ?_
      refine (am_e0 rfl rfl).trans ?_
      refine (am_e0 rfl rfl).trans ?_
      refine (am_e0 rfl rfl).trans ?_
      refine (am_z_lt rfl).trans (am_if_congr (fun c105 => ?_) (fun c105 => ?_))
      · exact (am_e5 rfl).trans rfl
      · refine (am_e0 rfl rfl).trans ?_
        refine (am_e0 rfl rfl).trans ?_
        refine (am_e0 rfl rfl).trans ?_
        refine (am_z_ge rfl).trans (am_if_congr (fun c106 => ?_) (fun c106 => ?_))
        · exact (am_e5 rfl).trans rfl
        · exact (am_e5 rfl).trans rfl
  · exact (am_e5 rfl).trans rfl
set_option maxRecDepth 10000 in
theorem aq_210_44 (d : Nat) (x0 x3 x4 : Int) (M : am_M) : am_Ex d 210 44 [(2, x0), am_N, am_N, (0, x3), (1, x4), am_N, am_N, am_N, am_N, am_N, am_N] [] M = (if x3 < 0 then (am_Ex d 210 67 [(2, x0), am_N, am_N, (0, x3), (1, x4), am_N, am_N, (1, 1), am_N, (0, 1), am_N] [] M) else (am_g (am_ob x0 5) <| if x3 < am_rd M x0 4 then (if x3 < 6 then (am_g (am_ar (am_rd M x0 3) 20 x3) <| some (am_rd M (am_rd M x0 3) x3, M)) else (some ((-100), M))) else (some ((-100), M)))) := by
  refine (am_e0 rfl rfl).trans ?_
  refine (am_z_lt rfl).trans (am_if_congr (fun c101 => ?_) (fun c101 => ?_))
  · refine (am_e0 rfl rfl).trans ?_
    refine (am_e0 rfl rfl).trans ?_
    refine (am_e0 rfl rfl).trans ?_
    refine (am_e0 rfl rfl).trans ?_
    exact (am_e5 rfl).trans rfl
  · refine (am_e0 rfl rfl).trans ?_
    refine (am_e0 rfl rfl).trans ?_
    refine (am_gf (c := 5) (t := 0) rfl rfl rfl).trans (am_g_congr fun h102 => ?_)
    refine (am_i_ge rfl).trans (am_if_congr (fun c103 => ?_) (fun c103 => ?_))
    · refine (am_e0 rfl rfl).trans ?_
      refine (am_e0 rfl rfl).trans ?_
      refine (am_i_ge rfl).trans (am_if_congr (fun c104 => ?_) (fun c104 => ?_))
      · refine (am_e0 rfl rfl).trans ?_
        refine (am_gf (c := 5) (t := 2) rfl rfl rfl).trans ((am_g_t h102).trans ?_)
        refine (am_e0 rfl rfl).trans ?_
        refine (am_ial rfl).trans (am_g_congr fun h105 => ?_)
        refine (am_e0 rfl rfl).trans ?_
        refine (am_e1 rfl rfl).trans ?_
        exact (am_e4l rfl rfl).trans rfl
      · refine (am_e5 rfl).trans ?_
        show am_Ex d 210 60 [am_N, am_N, am_N, am_N, am_N, am_N, am_N, am_N, am_N, am_N, am_N] [] M = _
        refine (am_e0 rfl rfl).trans ?_
        exact (am_e4l rfl rfl).trans rfl
    · refine (am_e5 rfl).trans ?_
      show am_Ex d 210 60 [am_N, am_N, am_N, am_N, am_N, am_N, am_N, am_N, am_N, am_N, am_N] [] M = _
      refine (am_e0 rfl rfl).trans ?_
      exact (am_e4l rfl rfl).trans rfl
set_option maxRecDepth 10000 in
theorem aq_210_27 (d : Nat) (x0 x1 x3 x7 x8 : Int) (M : am_M) : am_Ex d 210 27 [(2, x0), (0, x1), am_N, (0, x3), am_N, am_N, am_N, (0, x7), (1, x8), am_N, am_N] [] M = (am_g (am_ob x0 5) <| am_g (am_ob (am_rd M x0 2) 20 && am_ob (am_rd M x0 3) 20 && (decide (0 ≤ 6) && (decide (0 ≤ 0) && (decide (0 ≤ 0) && (decide (0 + 6 ≤ am_ln (am_rd M x0 2)) && decide (0 + 6 ≤ am_ln (am_rd M x0 3))))))) <| am_let (am_cpy M (am_rd M x0 2) 0 (am_rd M x0 3) 0 6) fun M103 => am_Ex d 210 38 [(2, x0), (0, x1), am_N, (0, x3), (1, x8), am_N, am_N, (0, x7), am_N, am_N, am_N] [] M103) := by
  refine (am_e0 rfl rfl).trans ?_
  refine (am_e0 rfl rfl).trans ?_
  refine (am_e0 rfl rfl).trans ?_
  refine (am_gf (c := 5) (t := 2) rfl rfl rfl).trans (am_g_congr fun h101 => ?_)
  refine (am_e0 rfl rfl).trans ?_
  refine (am_e0 rfl rfl).trans ?_
  refine (am_gf (c := 5) (t := 2) rfl rfl rfl).trans ((am_g_t h101).trans ?_)
  refine (am_e0 rfl rfl).trans ?_
  refine (am_e0 rfl rfl).trans ?_
  refine (am_e9 rfl rfl).trans (am_g_congr fun h102 => ?_)
  refine am_letm (fun M103 => ?_)
  exact (am_e5 rfl).trans rfl
set_option maxRecDepth 10000 in
theorem aq_210_38 (d : Nat) (x0 x1 x3 x4 x7 : Int) (M : am_M) : am_Ex d 210 38 [(2, x0), (0, x1), am_N, (0, x3), (1, x4), am_N, am_N, (0, x7), am_N, am_N, am_N] [] M = (am_g (am_ob x0 5) <| (am_Call d 125 [(2, x0)] M).bind fun r102 => am_let (am_w32 (x7 + 1)) fun v103 => am_Ex d 210 9 [(2, x0), (0, x1), am_N, (0, x3), (1, x4), am_N, (0, r102.1), (0, v103), am_N, am_N, am_N] [] r102.2) := by
  refine (am_e0 rfl rfl).trans ?_
  refine (am_cal3 (z := 125) (k := 1) (c := (am_ob x0 5)) rfl rfl rfl rfl rfl rfl rfl rfl).trans (am_g_congr fun h101 => ?_)
  refine am_bind_congr fun r102 => ?_
  show am_Ex d 210 40 [(2, x0), (0, x1), am_N, (0, x3), (1, x4), am_N, am_N, (0, x7), am_N, am_N, am_N] [(0, r102.1)] r102.2 = _
  refine (am_e0 rfl rfl).trans ?_
  refine (am_e0 rfl rfl).trans ?_
  refine am_lets (L := fun v103 => [(2, x0), (0, x1), am_N, (0, x3), (1, x4), am_N, (0, r102.1), (0, v103), am_N, am_N, am_N]) (fun v103 => ?_)
  refine (am_e1 rfl rfl).trans ?_
  exact (am_e5 rfl).trans rfl
set_option maxRecDepth 10000 in
theorem aq_210_67 (d : Nat) (x0 x3 x4 x7 x9 : Int) (M : am_M) : am_Ex d 210 67 [(2, x0), am_N, am_N, (0, x3), (1, x4), am_N, am_N, (1, x7), am_N, (0, x9), am_N] [] M = (am_g (am_ob x0 5) <| if x9 < am_rd M x0 4 then (am_let (am_w64 (x7 * 100)) fun v103 => am_let (am_w32 (x9 + 1)) fun v104 => am_Ex d 210 67 [(2, x0), am_N, am_N, (0, x3), (1, x4), am_N, am_N, (1, v103), am_N, (0, v104), am_N] [] M) else ((am_Call d 35 [(1, x4), (1, x7)] M).bind fun r105 => if am_cmp r105.1 0 = 0 then (some ((-100), r105.2)) else (if x3 = (-2) then (if (r105.1 : Int) = 0 then none else some (am_ldiv x4 r105.1, r105.2)) else (if (r105.1 : Int) = 0 then none else some (am_ldiv x7 r105.1, r105.2))))) := by
  refine (am_e0 rfl rfl).trans ?_
  refine (am_e0 rfl rfl).trans ?_
  refine (am_gf (c := 5) (t := 0) rfl rfl rfl).trans (am_g_congr fun h101 => ?_)
  refine (am_i_ge rfl).trans (am_if_congr (fun c102 => ?_) (fun c102 => ?_))
  · refine (am_e0 rfl rfl).trans ?_
    refine (am_e0 rfl rfl).trans ?_
    refine (am_e0 rfl rfl).trans ?_
    refine (am_e0 rfl rfl).trans ?_
    refine am_lets (L := fun v103 => [(2, x0), am_N, am_N, (0, x3), (1, x4), am_N, am_N, (1, v103), am_N, (0, x9), am_N]) (fun v103 => ?_)
    refine (am_e0 rfl rfl).trans ?_
    refine am_lets (L := fun v104 => [(2, x0), am_N, am_N, (0, x3), (1, x4), am_N, am_N, (1, v103), am_N, (0, v104), am_N]) (fun v104 => ?_)
    refine (am_e1 rfl rfl).trans ?_
    exact (am_e5 rfl).trans rfl
  · refine (am_e0 rfl rfl).trans ?_
    refine (am_e0 rfl rfl).trans ?_
    refine (am_cal3 (z := 35) (k := 2) (c := true) rfl rfl rfl rfl rfl rfl rfl rfl).trans ((am_g_t rfl).trans ?_)
    refine am_bind_congr fun r105 => ?_
    show am_Ex d 210 80 [(2, x0), am_N, am_N, (0, x3), (1, x4), am_N, am_N, (1, x7), am_N, (0, x9), am_N] [(1, r105.1)] r105.2 = _
    refine (am_e0 rfl rfl).trans ?_
    refine (am_e0 rfl rfl).trans ?_
    refine (am_e0 rfl rfl).trans ?_
    refine (am_e0 rfl rfl).trans ?_
    refine (am_z_ne rfl).trans (am_if_congr (fun c106 => ?_) (fun c106 => ?_))
    · refine (am_e0 rfl rfl).trans ?_
      exact (am_e4l rfl rfl).trans rfl
    · refine (am_e0 rfl rfl).trans ?_
      refine (am_e0 rfl rfl).trans ?_
      refine (am_i_ne rfl).trans (am_if_congr (fun c107 => ?_) (fun c107 => ?_))
      · refine (am_e0 rfl rfl).trans ?_
        refine (am_e0 rfl rfl).trans ?_
        refine (am_dvl rfl).trans (am_if_congr (fun _ => rfl) (fun c108 => ?_))
        refine (am_e1 rfl rfl).trans ?_
        exact (am_e4l rfl rfl).trans rfl
      · refine (am_e0 rfl rfl).trans ?_
        refine (am_e0 rfl rfl).trans ?_
        refine (am_dvl rfl).trans (am_if_congr (fun _ => rfl) (fun c109 => ?_))
        exact (am_e4l rfl rfl).trans rfl
-- 211: UnlearnedHand$Reader.readAsk()V
set_option maxRecDepth 10000 in
theorem aq_211 (d : Nat) (x0 : Int) (M : am_M) : am_Call d 211 [(2, x0)] M = (am_Ex d 211 3 [(2, x0), (0, 0), am_N, am_N] [] M) := by
  show am_Ex d 211 0 [(2, x0), am_N, am_N, am_N] [] M = _
  refine (am_e0 rfl rfl).trans ?_
  refine (am_e0 rfl rfl).trans ?_
  exact (am_e5 rfl).trans rfl
set_option maxRecDepth 10000 in
theorem aq_211_3 (d : Nat) (x0 x1 : Int) (M : am_M) : am_Ex d 211 3 [(2, x0), (0, x1), am_N, am_N] [] M = (if x1 < 8 then (am_g (am_ob x0 6) <| (am_Call d 43 [(2, x0)] M).bind fun r103 => if r103.1 = 23 then (am_let (am_w32 (x1 + 1)) fun v105 => am_let (am_wr r103.2 x0 4 (am_w32 ((am_rd r103.2 x0 4) + 1))) fun M106 => am_Ex d 211 3 [(2, x0), (0, v105), am_N, am_N] [] M106) else (am_Ex d 211 19 [(2, x0), (0, x1), am_N, am_N] [] r103.2)) else (am_Ex d 211 19 [(2, x0), (0, x1), am_N, am_N] [] M)) := by
  refine (am_e0 rfl rfl).trans ?_
  refine (am_e0 rfl rfl).trans ?_
  refine (am_i_ge rfl).trans (am_if_congr (fun c101 => ?_) (fun c101 => ?_))
  · refine (am_e0 rfl rfl).trans ?_
    refine (am_cal3 (z := 43) (k := 1) (c := (am_ob x0 6)) rfl rfl rfl rfl rfl rfl rfl rfl).trans (am_g_congr fun h102 => ?_)
    refine am_bind_congr fun r103 => ?_
    show am_Ex d 211 8 [(2, x0), (0, x1), am_N, am_N] [(0, r103.1)] r103.2 = _
    refine (am_e0 rfl rfl).trans ?_
    refine (am_i_ne rfl).trans (am_if_congr (fun c104 => ?_) (fun c104 => ?_))
    · refine (am_e0 rfl rfl).trans ?_
      refine am_lets (L := fun v105 => [(2, x0), (0, v105), am_N, am_N]) (fun v105 => ?_)
      refine (am_e0 rfl rfl).trans ?_
      refine (am_e0 rfl rfl).trans ?_
      refine (am_gf (c := 6) (t := 0) rfl rfl rfl).trans ((am_g_t h102).trans ?_)
      refine (am_e0 rfl rfl).trans ?_
      refine (am_e0 rfl rfl).trans ?_
      refine (am_pf (c := 6) rfl rfl rfl).trans ((am_g_t h102).trans ?_)
      refine am_letm (fun M106 => ?_)
      refine (am_e1 rfl rfl).trans ?_
      exact (am_e5 rfl).trans rfl
    · exact (am_e5 rfl).trans rfl
  · exact (am_e5 rfl).trans rfl
set_option maxRecDepth 10000 in
theorem aq_211_19 (d : Nat) (x0 x1 : Int) (M : am_M) : am_Ex d 211 19 [(2, x0), (0, x1), am_N, am_N] [] M = (am_g (am_ob x0 6) <| (am_Call d 43 [(2, x0)] M).bind fun r102 => if r102.1 = 23 then ((am_Call d 44 [(2, x0), (0, 3)] r102.2).bind fun r104 => am_Ex d 211 27 [(2, x0), (0, x1), am_N, am_N] [] r104.2) else (am_Ex d 211 27 [(2, x0), (0, x1), am_N, am_N] [] r102.2)) := by
  refine (am_e0 rfl rfl).trans ?_
  refine (am_cal3 (z := 43) (k := 1) (c := (am_ob x0 6)) rfl rfl rfl rfl rfl rfl rfl rfl).trans (am_g_congr fun h101 => ?_)
  refine am_bind_congr fun r102 => ?_
  show am_Ex d 211 21 [(2, x0), (0, x1), am_N, am_N] [(0, r102.1)] r102.2 = _
  refine (am_e0 rfl rfl).trans ?_
  refine (am_i_ne rfl).trans (am_if_congr (fun c103 => ?_) (fun c103 => ?_))
  · refine (am_e0 rfl rfl).trans ?_
    refine (am_e0 rfl rfl).trans ?_
    refine (am_cal3 (z := 44) (k := 2) (c := (am_ob x0 6)) rfl rfl rfl rfl rfl rfl rfl rfl).trans ((am_g_t h101).trans ?_)
    refine am_bind_congr fun r104 => ?_
    show am_Ex d 211 26 [(2, x0), (0, x1), am_N, am_N] [] r104.2 = _
    exact (am_e5 rfl).trans rfl
  · exact (am_e5 rfl).trans rfl
set_option maxRecDepth 10000 in
theorem aq_211_27 (d : Nat) (x0 x1 : Int) (M : am_M) : am_Ex d 211 27 [(2, x0), (0, x1), am_N, am_N] [] M = (am_g (am_ob x0 6) <| (am_Call d 178 [(2, x0), (0, x1)] M).bind fun r102 => (am_Call d 43 [(2, x0)] r102.2).bind fun r103 => if r103.1 < 29 then (am_Ex d 211 40 [(2, x0), (0, x1), (0, r103.1), am_N] [] r103.2) else (if r103.1 ≤ 32 then (am_Ex d 211 47 [(2, x0), (0, x1), (0, r103.1), am_N] [] r103.2) else (am_Ex d 211 40 [(2, x0), (0, x1), (0, r103.1), am_N] [] r103.2))) := by
  refine (am_e0 rfl rfl).trans ?_
  refine (am_e0 rfl rfl).trans ?_
  refine (am_cal3 (z := 178) (k := 2) (c := (am_ob x0 6)) rfl rfl rfl rfl rfl rfl rfl rfl).trans (am_g_congr fun h101 => ?_)
  refine am_bind_congr fun r102 => ?_
  show am_Ex d 211 30 [(2, x0), (0, x1), am_N, am_N] [] r102.2 = _
  refine (am_e0 rfl rfl).trans ?_
  refine (am_cal3 (z := 43) (k := 1) (c := (am_ob x0 6)) rfl rfl rfl rfl rfl rfl rfl rfl).trans ((am_g_t h101).trans ?_)
  refine am_bind_congr fun r103 => ?_
  show am_Ex d 211 32 [(2, x0), (0, x1), am_N, am_N] [(0, r103.1)] r103.2 = _
  refine (am_e0 rfl rfl).trans ?_
  refine (am_e0 rfl rfl).trans ?_
  refine (am_e0 rfl rfl).trans ?_
  refine (am_i_lt rfl).trans (am_if_congr (fun c104 => ?_) (fun c104 => ?_))
  · exact (am_e5 rfl).trans rfl
  · refine (am_e0 rfl rfl).trans ?_
    refine (am_e0 rfl rfl).trans ?_
    refine (am_i_le rfl).trans (am_if_congr (fun c105 => ?_) (fun c105 => ?_))
    · exact (am_e5 rfl).trans rfl
    · exact (am_e5 rfl).trans rfl
set_option maxRecDepth 10000 in
theorem aq_211_40 (d : Nat) (x0 x1 x2 : Int) (M : am_M) : am_Ex d 211 40 [(2, x0), (0, x1), (0, x2), am_N] [] M = (if x2 = 40 then (am_Ex d 211 47 [(2, x0), (0, x1), (0, x2), am_N] [] M) else (if x2 = 41 then (am_Ex d 211 47 [(2, x0), (0, x1), (0, x2), am_N] [] M) else (am_g (am_ob x0 6) <| (am_Call d 44 [(2, x0), (0, 1)] M).bind fun r104 => am_Ex d 211 66 [(2, x0), (0, x1), am_N, am_N] [] r104.2))) := by
  refine (am_e0 rfl rfl).trans ?_
  refine (am_e0 rfl rfl).trans ?_
  refine (am_i_eq rfl).trans (am_if_congr (fun c101 => ?_) (fun c101 => ?_))
  · exact (am_e5 rfl).trans rfl
  · refine (am_e0 rfl rfl).trans ?_
    refine (am_e0 rfl rfl).trans ?_
    refine (am_i_ne rfl).trans (am_if_congr (fun c102 => ?_) (fun c102 => ?_))
    · exact (am_e5 rfl).trans rfl
    · refine (am_e0 rfl rfl).trans ?_
      refine (am_e0 rfl rfl).trans ?_
      refine (am_cal3 (z := 44) (k := 2) (c := (am_ob x0 6)) rfl rfl rfl rfl rfl rfl rfl rfl).trans (am_g_congr fun h103 => ?_)
      refine am_bind_congr fun r104 => ?_
      show am_Ex d 211 65 [(2, x0), (0, x1), (0, x2), am_N] [] r104.2 = _
      exact (am_e5 rfl).trans rfl
set_option maxRecDepth 10000 in
theorem aq_211_47 (d : Nat) (x0 x1 x2 : Int) (M : am_M) : am_Ex d 211 47 [(2, x0), (0, x1), (0, x2), am_N] [] M = (am_g (am_ob x0 6) <| am_let (am_wr M x0 4 (am_w32 ((am_rd M x0 4) + 1))) fun M102 => (am_Call d 178 [(2, x0), (0, x1)] M102).bind fun r103 => am_g (am_ob (am_rd r103.2 x0 6) 8) <| (am_Call d 54 [(2, am_rd r103.2 x0 6), (0, am_w32 (-x2))] r103.2).bind fun r105 => am_Ex d 211 66 [(2, x0), (0, x1), am_N, am_N] [] r105.2) := by
  refine (am_e0 rfl rfl).trans ?_
  refine (am_e0 rfl rfl).trans ?_
  refine (am_gf (c := 6) (t := 0) rfl rfl rfl).trans (am_g_congr fun h101 => ?_)
  refine (am_e0 rfl rfl).trans ?_
  refine (am_e0 rfl rfl).trans ?_
  refine (am_pf (c := 6) rfl rfl rfl).trans ((am_g_t h101).trans ?_)
  refine am_letm (fun M102 => ?_)
  refine (am_e0 rfl rfl).trans ?_
  refine (am_e0 rfl rfl).trans ?_
  refine (am_cal3 (z := 178) (k := 2) (c := (am_ob x0 6)) rfl rfl rfl rfl rfl rfl rfl rfl).trans ((am_g_t h101).trans ?_)
  refine am_bind_congr fun r103 => ?_
  show am_Ex d 211 56 [(2, x0), (0, x1), (0, x2), am_N] [] r103.2 = _
  refine (am_e0 rfl rfl).trans ?_
  refine (am_gf (c := 6) (t := 2) rfl rfl rfl).trans ((am_g_t h101).trans ?_)
  refine (am_e0 rfl rfl).trans ?_
  refine (am_e0 rfl rfl).trans ?_
  refine (am_cal3 (z := 54) (k := 2) (c := (am_ob (am_rd r103.2 x0 6) 8)) rfl rfl rfl rfl rfl rfl rfl rfl).trans (am_g_congr fun h104 => ?_)
  refine am_bind_congr fun r105 => ?_
  show am_Ex d 211 61 [(2, x0), (0, x1), (0, x2), am_N] [] r105.2 = _
  refine (am_e1 rfl rfl).trans ?_
  exact (am_e5 rfl).trans rfl
set_option maxRecDepth 10000 in
theorem aq_211_66 (d : Nat) (x0 x1 : Int) (M : am_M) : am_Ex d 211 66 [(2, x0), (0, x1), am_N, am_N] [] M = (am_Ex d 211 69 [(2, x0), (0, x1), am_N, (0, 0)] [] M) := by
  refine (am_e0 rfl rfl).trans ?_
  refine (am_e0 rfl rfl).trans ?_
  exact (am_e5 rfl).trans rfl
set_option maxRecDepth 10000 in
theorem aq_211_69 (d : Nat) (x0 x1 x3 : Int) (M : am_M) : am_Ex d 211 69 [(2, x0), (0, x1), am_N, (0, x3)] [] M = (if x3 < x1 then (am_g (am_ob x0 6) <| am_g (am_ob (am_rd M x0 6) 8) <| (am_Call d 54 [(2, am_rd M x0 6), (0, (-23))] M).bind fun r104 => am_let (am_w32 (x3 + 1)) fun v105 => am_Ex d 211 69 [(2, x0), (0, x1), am_N, (0, v105)] [] r104.2) else (some (0, M))) := by
  refine (am_e0 rfl rfl).trans ?_
  refine (am_e0 rfl rfl).trans ?_
  refine (am_i_ge rfl).trans (am_if_congr (fun c101 => ?_) (fun c101 => ?_))
  · refine (am_e0 rfl rfl).trans ?_
    refine (am_gf (c := 6) (t := 2) rfl rfl rfl).trans (am_g_congr fun h102 => ?_)
    refine (am_e0 rfl rfl).trans ?_
    refine (am_cal3 (z := 54) (k := 2) (c := (am_ob (am_rd M x0 6) 8)) rfl rfl rfl rfl rfl rfl rfl rfl).trans (am_g_congr fun h103 => ?_)
    refine am_bind_congr fun r104 => ?_
    show am_Ex d 211 76 [(2, x0), (0, x1), am_N, (0, x3)] [] r104.2 = _
    refine (am_e0 rfl rfl).trans ?_
    refine am_lets (L := fun v105 => [(2, x0), (0, x1), am_N, (0, v105)]) (fun v105 => ?_)
    refine (am_e1 rfl rfl).trans ?_
    exact (am_e5 rfl).trans rfl
  · exact (am_e4v rfl rfl).trans rfl
-- 212: UnlearnedHand.drink(I)Z
set_option maxRecDepth 10000 in
theorem aq_212 (d : Nat) (x0 x1 : Int) (M : am_M) : am_Call d 212 [(2, x0), (0, x1)] M = (am_g (am_ob x0 10) <| am_g (am_ob (am_rd M x0 0) 2) <| (am_Call d 8 [(2, am_rd M x0 0), (0, x1)] M).bind fun r103 => if r103.1 = 0 then (some (0, r103.2)) else (am_g (am_ob (am_rd r103.2 x0 2) 3) <| (am_Call d 25 [(2, am_rd r103.2 x0 2), (0, x1)] r103.2).bind fun r106 => if r106.1 = 0 then (am_g (am_ob (am_rd r106.2 x0 4) 9) <| (am_Call d 134 [(2, am_rd r106.2 x0 4), (2, am_rd r106.2 x0 2)] r106.2).bind fun r109 => am_g (am_ob (am_rd r109.2 x0 2) 3) <| (am_Call d 172 [(2, am_rd r109.2 x0 2), (0, x1)] r109.2).bind fun r111 => some (1, r111.2)) else (some (0, r106.2)))) := by
  show am_Ex d 212 0 [(2, x0), (0, x1)] [] M = _
  refine (am_e0 rfl rfl).trans ?_
  refine (am_gf (c := 10) (t := 2) rfl rfl rfl).trans (am_g_congr fun h101 => ?_)
  refine (am_e0 rfl rfl).trans ?_
  refine (am_cal3 (z := 8) (k := 2) (c := (am_ob (am_rd M x0 0) 2)) rfl rfl rfl rfl rfl rfl rfl rfl).trans (am_g_congr fun h102 => ?_)
  refine am_bind_congr fun r103 => ?_
  show am_Ex d 212 4 [(2, x0), (0, x1)] [(0, r103.1)] r103.2 = _
  refine (am_z_eq rfl).trans (am_if_congr (fun c104 => ?_) (fun c104 => ?_))
  · refine (am_e5 rfl).trans ?_
    show am_Ex d 212 11 [am_N, am_N] [] r103.2 = _
    refine (am_e0 rfl rfl).trans ?_
    exact (am_e4i rfl rfl).trans rfl
  · refine (am_e0 rfl rfl).trans ?_
    refine (am_gf (c := 10) (t := 2) rfl rfl rfl).trans ((am_g_t h101).trans ?_)
    refine (am_e0 rfl rfl).trans ?_
    refine (am_cal3 (z := 25) (k := 2) (c := (am_ob (am_rd r103.2 x0 2) 3)) rfl rfl rfl rfl rfl rfl rfl rfl).trans (am_g_congr fun h105 => ?_)
    refine am_bind_congr fun r106 => ?_
    show am_Ex d 212 9 [(2, x0), (0, x1)] [(0, r106.1)] r106.2 = _
    refine (am_z_eq rfl).trans (am_if_congr (fun c107 => ?_) (fun c107 => ?_))
    · refine (am_e0 rfl rfl).trans ?_
      refine (am_gf (c := 10) (t := 2) rfl rfl rfl).trans ((am_g_t h101).trans ?_)
      refine (am_e0 rfl rfl).trans ?_
      refine (am_gf (c := 10) (t := 2) rfl rfl rfl).trans ((am_g_t h101).trans ?_)
      refine (am_cal3 (z := 134) (k := 2) (c := (am_ob (am_rd r106.2 x0 4) 9)) rfl rfl rfl rfl rfl rfl rfl rfl).trans (am_g_congr fun h108 => ?_)
      refine am_bind_congr fun r109 => ?_
      show am_Ex d 212 18 [(2, x0), (0, x1)] [] r109.2 = _
      refine (am_e0 rfl rfl).trans ?_
      refine (am_gf (c := 10) (t := 2) rfl rfl rfl).trans ((am_g_t h101).trans ?_)
      refine (am_e0 rfl rfl).trans ?_
      refine (am_cal3 (z := 172) (k := 2) (c := (am_ob (am_rd r109.2 x0 2) 3)) rfl rfl rfl rfl rfl rfl rfl rfl).trans (am_g_congr fun h110 => ?_)
      refine am_bind_congr fun r111 => ?_
      show am_Ex d 212 22 [(2, x0), (0, x1)] [] r111.2 = _
      refine (am_e0 rfl rfl).trans ?_
      exact (am_e4i rfl rfl).trans rfl
    · refine (am_e5 rfl).trans ?_
      show am_Ex d 212 11 [am_N, am_N] [] r106.2 = _
      refine (am_e0 rfl rfl).trans ?_
      exact (am_e4i rfl rfl).trans rfl
-- 213: UnlearnedHand.smelt(II)I
set_option maxRecDepth 10000 in
theorem aq_213 (d : Nat) (x0 x1 x2 : Int) (M : am_M) : am_Call d 213 [(2, x0), (0, x1), (0, x2)] M = (am_g (am_ob x0 10) <| am_g (am_ob (am_rd M x0 0) 2) <| (am_Call d 8 [(2, am_rd M x0 0), (0, x1)] M).bind fun r103 => if r103.1 = 0 then (some ((-1), r103.2)) else (am_g (am_ob (am_rd r103.2 x0 0) 2) <| (am_Call d 9 [(2, am_rd r103.2 x0 0), (0, x2)] r103.2).bind fun r106 => if r106.1 = 0 then (some ((-1), r106.2)) else (am_g (am_ob (am_rd r106.2 x0 2) 3) <| (am_Call d 25 [(2, am_rd r106.2 x0 2), (0, x1)] r106.2).bind fun r109 => if r109.1 = 0 then (am_g (am_ob (am_rd r109.2 x0 4) 9) <| (am_Call d 134 [(2, am_rd r109.2 x0 4), (2, am_rd r109.2 x0 2)] r109.2).bind fun r112 => am_g (am_ob (am_rd r112.2 x0 0) 2) <| (am_Call d 20 [(2, am_rd r112.2 x0 0), (0, am_shl 1 x2)] r112.2).bind fun r114 => am_g (am_ob (am_rd r114.2 x0 2) 3) <| (am_Call d 173 [(2, am_rd r114.2 x0 2), (0, x1), (0, r114.1)] r114.2).bind fun r116 => some (r114.1, r116.2)) else (some ((-1), r109.2))))) := by
  show am_Ex d 213 0 [(2, x0), (0, x1), (0, x2), am_N] [] M = _
  refine (am_e0 rfl rfl).trans ?_
  refine (am_gf (c := 10) (t := 2) rfl rfl rfl).trans (am_g_congr fun h101 => ?_)
  refine (am_e0 rfl rfl).trans ?_
  refine (am_cal3 (z := 8) (k := 2) (c := (am_ob (am_rd M x0 0) 2)) rfl rfl rfl rfl rfl rfl rfl rfl).trans (am_g_congr fun h102 => ?_)
  refine am_bind_congr fun r103 => ?_
  show am_Ex d 213 4 [(2, x0), (0, x1), (0, x2), am_N] [(0, r103.1)] r103.2 = _
  refine (am_z_eq rfl).trans (am_if_congr (fun c104 => ?_) (fun c104 => ?_))
  · refine (am_e5 rfl).trans ?_
    show am_Ex d 213 16 [am_N, am_N, am_N, am_N] [] r103.2 = _
    refine (am_e0 rfl rfl).trans ?_
    exact (am_e4i rfl rfl).trans rfl
  · refine (am_e0 rfl rfl).trans ?_
    refine (am_gf (c := 10) (t := 2) rfl rfl rfl).trans ((am_g_t h101).trans ?_)
    refine (am_e0 rfl rfl).trans ?_
    refine (am_cal3 (z := 9) (k := 2) (c := (am_ob (am_rd r103.2 x0 0) 2)) rfl rfl rfl rfl rfl rfl rfl rfl).trans (am_g_congr fun h105 => ?_)
    refine am_bind_congr fun r106 => ?_
    show am_Ex d 213 9 [(2, x0), (0, x1), (0, x2), am_N] [(0, r106.1)] r106.2 = _
    refine (am_z_eq rfl).trans (am_if_congr (fun c107 => ?_) (fun c107 => ?_))
    · refine (am_e5 rfl).trans ?_
      show am_Ex d 213 16 [am_N, am_N, am_N, am_N] [] r106.2 = _
      refine (am_e0 rfl rfl).trans ?_
      exact (am_e4i rfl rfl).trans rfl
    · refine (am_e0 rfl rfl).trans ?_
      refine (am_gf (c := 10) (t := 2) rfl rfl rfl).trans ((am_g_t h101).trans ?_)
      refine (am_e0 rfl rfl).trans ?_
      refine (am_cal3 (z := 25) (k := 2) (c := (am_ob (am_rd r106.2 x0 2) 3)) rfl rfl rfl rfl rfl rfl rfl rfl).trans (am_g_congr fun h108 => ?_)
      refine am_bind_congr fun r109 => ?_
      show am_Ex d 213 14 [(2, x0), (0, x1), (0, x2), am_N] [(0, r109.1)] r109.2 = _
      refine (am_z_eq rfl).trans (am_if_congr (fun c110 => ?_) (fun c110 => ?_))
      · refine (am_e0 rfl rfl).trans ?_
        refine (am_gf (c := 10) (t := 2) rfl rfl rfl).trans ((am_g_t h101).trans ?_)
        refine (am_e0 rfl rfl).trans ?_
        refine (am_gf (c := 10) (t := 2) rfl rfl rfl).trans ((am_g_t h101).trans ?_)
        refine (am_cal3 (z := 134) (k := 2) (c := (am_ob (am_rd r109.2 x0 4) 9)) rfl rfl rfl rfl rfl rfl rfl rfl).trans (am_g_congr fun h111 => ?_)
        refine am_bind_congr fun r112 => ?_
        show am_Ex d 213 23 [(2, x0), (0, x1), (0, x2), am_N] [] r112.2 = _
        refine (am_e0 rfl rfl).trans ?_
        refine (am_gf (c := 10) (t := 2) rfl rfl rfl).trans ((am_g_t h101).trans ?_)
        refine (am_e0 rfl rfl).trans ?_
        refine (am_e0 rfl rfl).trans ?_
        refine (am_e0 rfl rfl).trans ?_
        refine (am_cal3 (z := 20) (k := 2) (c := (am_ob (am_rd r112.2 x0 0) 2)) rfl rfl rfl rfl rfl rfl rfl rfl).trans (am_g_congr fun h113 => ?_)
        refine am_bind_congr fun r114 => ?_
        show am_Ex d 213 29 [(2, x0), (0, x1), (0, x2), am_N] [(0, r114.1)] r114.2 = _
        refine (am_e0 rfl rfl).trans ?_
        refine (am_e0 rfl rfl).trans ?_
        refine (am_gf (c := 10) (t := 2) rfl rfl rfl).trans ((am_g_t h101).trans ?_)
        refine (am_e0 rfl rfl).trans ?_
        refine (am_e0 rfl rfl).trans ?_
        refine (am_cal3 (z := 173) (k := 3) (c := (am_ob (am_rd r114.2 x0 2) 3)) rfl rfl rfl rfl rfl rfl rfl rfl).trans (am_g_congr fun h115 => ?_)
        refine am_bind_congr fun r116 => ?_
        show am_Ex d 213 35 [(2, x0), (0, x1), (0, x2), (0, r114.1)] [] r116.2 = _
        refine (am_e0 rfl rfl).trans ?_
        exact (am_e4i rfl rfl).trans rfl
      · refine (am_e5 rfl).trans ?_
        show am_Ex d 213 16 [am_N, am_N, am_N, am_N] [] r109.2 = _
        refine (am_e0 rfl rfl).trans ?_
        exact (am_e4i rfl rfl).trans rfl
-- 214: UnlearnedHand.hand(III)I
set_option maxRecDepth 10000 in
theorem aq_214 (d : Nat) (x0 x1 x2 x3 : Int) (M : am_M) : am_Call d 214 [(2, x0), (0, x1), (0, x2), (0, x3)] M = (am_g (am_ob x0 10) <| am_g (am_ob (am_rd M x0 0) 2) <| (am_Call d 107 [(2, am_rd M x0 0), (0, x1), (0, x2)] M).bind fun r103 => if r103.1 = 0 then (some ((-100), r103.2)) else (if x3 = 0 then (am_g (am_ob (am_rd r103.2 x0 2) 3) <| (am_Call d 114 [(2, am_rd r103.2 x0 2), (0, x1), (0, x2)] r103.2).bind fun r107 => some (r107.1, r107.2)) else if x3 = 1 then (am_g (am_ob (am_rd r103.2 x0 2) 3) <| (am_Call d 115 [(2, am_rd r103.2 x0 2), (0, x1), (0, x2)] r103.2).bind fun r110 => some (r110.1, r110.2)) else if x3 = 2 then (am_g (am_ob (am_rd r103.2 x0 2) 3) <| (am_Call d 116 [(2, am_rd r103.2 x0 2), (0, x1), (0, x2)] r103.2).bind fun r113 => some (r113.1, r113.2)) else if x3 = 3 then (am_g (am_ob (am_rd r103.2 x0 10) 4) <| (am_Call d 174 [(2, am_rd r103.2 x0 10), (0, 1), (2, am_rd r103.2 x0 2), (0, x1), (0, x2), (0, 0)] r103.2).bind fun r116 => some (r116.1, r116.2)) else if x3 = 4 then (am_g (am_ob (am_rd r103.2 x0 10) 4) <| (am_Call d 174 [(2, am_rd r103.2 x0 10), (0, 2), (2, am_rd r103.2 x0 2), (0, x1), (0, x2), (0, 0)] r103.2).bind fun r119 => some (r119.1, r119.2)) else (some ((-100), r103.2)))) := by
  show am_Ex d 214 0 [(2, x0), (0, x1), (0, x2), (0, x3)] [] M = _
  refine (am_e0 rfl rfl).trans ?_
  refine (am_gf (c := 10) (t := 2) rfl rfl rfl).trans (am_g_congr fun h101 => ?_)
  refine (am_e0 rfl rfl).trans ?_
  refine (am_e0 rfl rfl).trans ?_
  refine (am_cal3 (z := 107) (k := 3) (c := (am_ob (am_rd M x0 0) 2)) rfl rfl rfl rfl rfl rfl rfl rfl).trans (am_g_congr fun h102 => ?_)
  refine am_bind_congr fun r103 => ?_
  show am_Ex d 214 5 [(2, x0), (0, x1), (0, x2), (0, x3)] [(0, r103.1)] r103.2 = _
  refine (am_z_ne rfl).trans (am_if_congr (fun c104 => ?_) (fun c104 => ?_))
  · refine (am_e0 rfl rfl).trans ?_
    exact (am_e4i rfl rfl).trans rfl
  · refine (am_e0 rfl rfl).trans ?_
    refine (am_tsw rfl).trans ?_
    refine (am_sw_c).trans (am_if_congr (fun c105 => ?_) (fun c105 => ?_))
    · refine (am_e0 rfl rfl).trans ?_
      refine (am_gf (c := 10) (t := 2) rfl rfl rfl).trans ((am_g_t h101).trans ?_)
      refine (am_e0 rfl rfl).trans ?_
      refine (am_e0 rfl rfl).trans ?_
      refine (am_cal3 (z := 114) (k := 3) (c := (am_ob (am_rd r103.2 x0 2) 3)) rfl rfl rfl rfl rfl rfl rfl rfl).trans (am_g_congr fun h106 => ?_)
      refine am_bind_congr fun r107 => ?_
      show am_Ex d 214 15 [(2, x0), (0, x1), (0, x2), (0, x3)] [(0, r107.1)] r107.2 = _
      exact (am_e4i rfl rfl).trans rfl
    refine (am_sw_c).trans (am_if_congr (fun c108 => ?_) (fun c108 => ?_))
    · refine (am_e0 rfl rfl).trans ?_
      refine (am_gf (c := 10) (t := 2) rfl rfl rfl).trans ((am_g_t h101).trans ?_)
      refine (am_e0 rfl rfl).trans ?_
      refine (am_e0 rfl rfl).trans ?_
      refine (am_cal3 (z := 115) (k := 3) (c := (am_ob (am_rd r103.2 x0 2) 3)) rfl rfl rfl rfl rfl rfl rfl rfl).trans (am_g_congr fun h109 => ?_)
      refine am_bind_congr fun r110 => ?_
      show am_Ex d 214 21 [(2, x0), (0, x1), (0, x2), (0, x3)] [(0, r110.1)] r110.2 = _
      exact (am_e4i rfl rfl).trans rfl
    refine (am_sw_c).trans (am_if_congr (fun c111 => ?_) (fun c111 => ?_))
    · refine (am_e0 rfl rfl).trans ?_
      refine (am_gf (c := 10) (t := 2) rfl rfl rfl).trans ((am_g_t h101).trans ?_)
      refine (am_e0 rfl rfl).trans ?_
      refine (am_e0 rfl rfl).trans ?_
      refine (am_cal3 (z := 116) (k := 3) (c := (am_ob (am_rd r103.2 x0 2) 3)) rfl rfl rfl rfl rfl rfl rfl rfl).trans (am_g_congr fun h112 => ?_)
      refine am_bind_congr fun r113 => ?_
      show am_Ex d 214 27 [(2, x0), (0, x1), (0, x2), (0, x3)] [(0, r113.1)] r113.2 = _
      exact (am_e4i rfl rfl).trans rfl
    refine (am_sw_c).trans (am_if_congr (fun c114 => ?_) (fun c114 => ?_))
    · refine (am_e0 rfl rfl).trans ?_
      refine (am_gf (c := 10) (t := 2) rfl rfl rfl).trans ((am_g_t h101).trans ?_)
      refine (am_e0 rfl rfl).trans ?_
      refine (am_e0 rfl rfl).trans ?_
      refine (am_gf (c := 10) (t := 2) rfl rfl rfl).trans ((am_g_t h101).trans ?_)
      refine (am_e0 rfl rfl).trans ?_
      refine (am_e0 rfl rfl).trans ?_
      refine (am_e0 rfl rfl).trans ?_
      refine (am_cal3 (z := 174) (k := 6) (c := (am_ob (am_rd r103.2 x0 10) 4)) rfl rfl rfl rfl rfl rfl rfl rfl).trans (am_g_congr fun h115 => ?_)
      refine am_bind_congr fun r116 => ?_
      show am_Ex d 214 37 [(2, x0), (0, x1), (0, x2), (0, x3)] [(0, r116.1)] r116.2 = _
      exact (am_e4i rfl rfl).trans rfl
    refine (am_sw_c).trans (am_if_congr (fun c117 => ?_) (fun c117 => ?_))
    · refine (am_e0 rfl rfl).trans ?_
      refine (am_gf (c := 10) (t := 2) rfl rfl rfl).trans ((am_g_t h101).trans ?_)
      refine (am_e0 rfl rfl).trans ?_
      refine (am_e0 rfl rfl).trans ?_
      refine (am_gf (c := 10) (t := 2) rfl rfl rfl).trans ((am_g_t h101).trans ?_)
      refine (am_e0 rfl rfl).trans ?_
      refine (am_e0 rfl rfl).trans ?_
      refine (am_e0 rfl rfl).trans ?_
      refine (am_cal3 (z := 174) (k := 6) (c := (am_ob (am_rd r103.2 x0 10) 4)) rfl rfl rfl rfl rfl rfl rfl rfl).trans (am_g_congr fun h118 => ?_)
      refine am_bind_congr fun r119 => ?_
      show am_Ex d 214 47 [(2, x0), (0, x1), (0, x2), (0, x3)] [(0, r119.1)] r119.2 = _
      exact (am_e4i rfl rfl).trans rfl
    refine (am_sw_n).trans ?_
    refine (am_e0 rfl rfl).trans ?_
    exact (am_e4i rfl rfl).trans rfl
-- 215: UnlearnedHand.sets(ZI)I
set_option maxRecDepth 10000 in
theorem aq_215 (d : Nat) (x0 x1 x2 : Int) (M : am_M) : am_Call d 215 [(2, x0), (0, x1), (0, x2)] M = (am_g (am_ob x0 10) <| am_g (am_ob (am_rd M x0 13) 7) <| (am_Call d 179 [(2, am_rd M x0 13), (0, x1), (0, x2)] M).bind fun r103 => some (r103.1, r103.2)) := by
  show am_Ex d 215 0 [(2, x0), (0, x1), (0, x2)] [] M = _
  refine (am_e0 rfl rfl).trans ?_
  refine (am_gf (c := 10) (t := 2) rfl rfl rfl).trans (am_g_congr fun h101 => ?_)
  refine (am_e0 rfl rfl).trans ?_
  refine (am_e0 rfl rfl).trans ?_
  refine (am_cal3 (z := 179) (k := 3) (c := (am_ob (am_rd M x0 13) 7)) rfl rfl rfl rfl rfl rfl rfl rfl).trans (am_g_congr fun h102 => ?_)
  refine am_bind_congr fun r103 => ?_
  show am_Ex d 215 5 [(2, x0), (0, x1), (0, x2)] [(0, r103.1)] r103.2 = _
  exact (am_e4i rfl rfl).trans rfl
