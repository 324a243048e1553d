/-! equations of the methods 153 .. 177 -/
-- 153: UnlearnedHandModel.oneIsOver()V
set_option maxRecDepth 10000 in
theorem aq_153 (d : Nat) (x0 : Int) (M : am_M) : am_Call d 153 [(2, x0)] M = (am_Ex d 153 1 [(2, x0)] [] M) := by
  show am_Ex d 153 0 [(2, x0)] [] M = _
  exact (am_e5 rfl).trans rfl
set_option maxRecDepth 10000 in
theorem aq_153_1 (d : Nat) (x0 : Int) (M : am_M) : am_Ex d 153 1 [(2, x0)] [] M = (am_g (am_ob x0 11) <| (am_Call d 77 [(2, x0)] M).bind fun r102 => if r102.1 = 7 then (am_Ex d 153 10 [(2, x0)] [] r102.2) else ((am_Call d 77 [(2, x0)] r102.2).bind fun r104 => if r104.1 = 8 then (am_Ex d 153 10 [(2, x0)] [] r104.2) else (am_let (am_wr r104.2 x0 28 2) fun M106 => some (0, M106)))) := by
  refine (am_e0 rfl rfl).trans ?_
  refine (am_cal3 (z := 77) (k := 1) (c := (am_ob x0 11)) rfl rfl rfl rfl rfl rfl rfl rfl).trans (am_g_congr fun h101 => ?_)
  refine am_bind_congr fun r102 => ?_
  show am_Ex d 153 3 [(2, x0)] [(0, r102.1)] r102.2 = _
  refine (am_e0 rfl rfl).trans ?_
  refine (am_i_eq rfl).trans (am_if_congr (fun c103 => ?_) (fun c103 => ?_))
  · exact (am_e5 rfl).trans rfl
  · refine (am_e0 rfl rfl).trans ?_
    refine (am_cal3 (z := 77) (k := 1) (c := (am_ob x0 11)) rfl rfl rfl rfl rfl rfl rfl rfl).trans ((am_g_t h101).trans ?_)
    refine am_bind_congr fun r104 => ?_
    show am_Ex d 153 7 [(2, x0)] [(0, r104.1)] r104.2 = _
    refine (am_e0 rfl rfl).trans ?_
    refine (am_i_ne rfl).trans (am_if_congr (fun c105 => ?_) (fun c105 => ?_))
    · exact (am_e5 rfl).trans rfl
    · refine (am_e0 rfl rfl).trans ?_
      refine (am_e0 rfl rfl).trans ?_
      refine (am_pf (c := 11) rfl rfl rfl).trans ((am_g_t h101).trans ?_)
      refine am_letm (fun M106 => ?_)
      exact (am_e4v rfl rfl).trans rfl
set_option maxRecDepth 10000 in
theorem aq_153_10 (d : Nat) (x0 : Int) (M : am_M) : am_Ex d 153 10 [(2, x0)] [] M = (am_g (am_ob x0 11) <| (am_Call d 77 [(2, x0)] M).bind fun r102 => if r102.1 = 7 then ((am_Call d 75 [(2, x0), (0, 402), (0, 0)] r102.2).bind fun r104 => am_let (am_wr r104.2 x0 22 (am_w32 ((am_rd r104.2 x0 22) - 1))) fun M105 => am_let (am_wr M105 x0 21 (am_w32 ((am_rd M105 x0 21) - 1))) fun M106 => am_Ex d 153 1 [(2, x0)] [] M106) else ((am_Call d 75 [(2, x0), (0, 403), (0, 0)] r102.2).bind fun r107 => am_let (am_wr r107.2 x0 22 (am_w32 ((am_rd r107.2 x0 22) - 1))) fun M108 => am_let (am_wr M108 x0 21 (am_w32 ((am_rd M108 x0 21) - 1))) fun M109 => am_Ex d 153 1 [(2, x0)] [] M109)) := by
  refine (am_e0 rfl rfl).trans ?_
  refine (am_e0 rfl rfl).trans ?_
  refine (am_cal3 (z := 77) (k := 1) (c := (am_ob x0 11)) rfl rfl rfl rfl rfl rfl rfl rfl).trans (am_g_congr fun h101 => ?_)
  refine am_bind_congr fun r102 => ?_
  show am_Ex d 153 13 [(2, x0)] [(0, r102.1), (2, x0)] r102.2 = _
  refine (am_e0 rfl rfl).trans ?_
  refine (am_i_ne rfl).trans (am_if_congr (fun c103 => ?_) (fun c103 => ?_))
  · refine (am_e0 rfl rfl).trans ?_
    refine (am_e1 rfl rfl).trans ?_
    refine (am_e0 rfl rfl).trans ?_
    refine (am_cal3 (z := 75) (k := 3) (c := (am_ob x0 11)) rfl rfl rfl rfl rfl rfl rfl rfl).trans ((am_g_t h101).trans ?_)
    refine am_bind_congr fun r104 => ?_
    show am_Ex d 153 20 [(2, x0)] [] r104.2 = _
    refine (am_e0 rfl rfl).trans ?_
    refine (am_e0 rfl rfl).trans ?_
    refine (am_gf (c := 11) (t := 0) rfl rfl rfl).trans ((am_g_t h101).trans ?_)
    refine (am_e0 rfl rfl).trans ?_
    refine (am_e0 rfl rfl).trans ?_
    refine (am_pf (c := 11) rfl rfl rfl).trans ((am_g_t h101).trans ?_)
    refine am_letm (fun M105 => ?_)
    refine (am_e0 rfl rfl).trans ?_
    refine (am_e0 rfl rfl).trans ?_
    refine (am_gf (c := 11) (t := 0) rfl rfl rfl).trans ((am_g_t h101).trans ?_)
    refine (am_e0 rfl rfl).trans ?_
    refine (am_e0 rfl rfl).trans ?_
    refine (am_pf (c := 11) rfl rfl rfl).trans ((am_g_t h101).trans ?_)
    refine am_letm (fun M106 => ?_)
    refine (am_e1 rfl rfl).trans ?_
    exact (am_e5 rfl).trans rfl
  · refine (am_e0 rfl rfl).trans ?_
    refine (am_e0 rfl rfl).trans ?_
    refine (am_cal3 (z := 75) (k := 3) (c := (am_ob x0 11)) rfl rfl rfl rfl rfl rfl rfl rfl).trans ((am_g_t h101).trans ?_)
    refine am_bind_congr fun r107 => ?_
    show am_Ex d 153 20 [(2, x0)] [] r107.2 = _
    refine (am_e0 rfl rfl).trans ?_
    refine (am_e0 rfl rfl).trans ?_
    refine (am_gf (c := 11) (t := 0) rfl rfl rfl).trans ((am_g_t h101).trans ?_)
    refine (am_e0 rfl rfl).trans ?_
    refine (am_e0 rfl rfl).trans ?_
    refine (am_pf (c := 11) rfl rfl rfl).trans ((am_g_t h101).trans ?_)
    refine am_letm (fun M108 => ?_)
    refine (am_e0 rfl rfl).trans ?_
    refine (am_e0 rfl rfl).trans ?_
    refine (am_gf (c := 11) (t := 0) rfl rfl rfl).trans ((am_g_t h101).trans ?_)
    refine (am_e0 rfl rfl).trans ?_
    refine (am_e0 rfl rfl).trans ?_
    refine (am_pf (c := 11) rfl rfl rfl).trans ((am_g_t h101).trans ?_)
    refine am_letm (fun M109 => ?_)
    refine (am_e1 rfl rfl).trans ?_
    exact (am_e5 rfl).trans rfl
-- 154: UnlearnedHandModel.askIsOver()V
set_option maxRecDepth 10000 in
theorem aq_154 (d : Nat) (x0 : Int) (M : am_M) : am_Call d 154 [(2, x0)] M = (am_Ex d 154 1 [(2, x0)] [] M) := by
  show am_Ex d 154 0 [(2, x0)] [] M = _
  exact (am_e5 rfl).trans rfl
set_option maxRecDepth 10000 in
theorem aq_154_1 (d : Nat) (x0 : Int) (M : am_M) : am_Ex d 154 1 [(2, x0)] [] M = (am_g (am_ob x0 11) <| (am_Call d 77 [(2, x0)] M).bind fun r102 => if r102.1 = 3 then (am_let (am_wr r102.2 x0 22 (am_w32 ((am_rd r102.2 x0 22) - 1))) fun M104 => am_let (am_wr M104 x0 21 (am_w32 ((am_rd M104 x0 21) - 1))) fun M105 => (am_Call d 75 [(2, x0), (0, 405), (0, 0)] M105).bind fun r106 => am_Ex d 154 1 [(2, x0)] [] r106.2) else (am_let (am_wr r102.2 x0 28 3) fun M107 => some (0, M107))) := by
  refine (am_e0 rfl rfl).trans ?_
  refine (am_cal3 (z := 77) (k := 1) (c := (am_ob x0 11)) rfl rfl rfl rfl rfl rfl rfl rfl).trans (am_g_congr fun h101 => ?_)
  refine am_bind_congr fun r102 => ?_
  show am_Ex d 154 3 [(2, x0)] [(0, r102.1)] r102.2 = _
  refine (am_e0 rfl rfl).trans ?_
  refine (am_i_ne rfl).trans (am_if_congr (fun c103 => ?_) (fun c103 => ?_))
  · refine (am_e0 rfl rfl).trans ?_
    refine (am_e0 rfl rfl).trans ?_
    refine (am_gf (c := 11) (t := 0) rfl rfl rfl).trans ((am_g_t h101).trans ?_)
    refine (am_e0 rfl rfl).trans ?_
    refine (am_e0 rfl rfl).trans ?_
    refine (am_pf (c := 11) rfl rfl rfl).trans ((am_g_t h101).trans ?_)
    refine am_letm (fun M104 => ?_)
    refine (am_e0 rfl rfl).trans ?_
    refine (am_e0 rfl rfl).trans ?_
    refine (am_gf (c := 11) (t := 0) rfl rfl rfl).trans ((am_g_t h101).trans ?_)
    refine (am_e0 rfl rfl).trans ?_
    refine (am_e0 rfl rfl).trans ?_
    refine (am_pf (c := 11) rfl rfl rfl).trans ((am_g_t h101).trans ?_)
    refine am_letm (fun M105 => ?_)
    refine (am_e0 rfl rfl).trans ?_
    refine (am_e0 rfl rfl).trans ?_
    refine (am_e0 rfl rfl).trans ?_
    refine (am_cal3 (z := 75) (k := 3) (c := (am_ob x0 11)) rfl rfl rfl rfl rfl rfl rfl rfl).trans ((am_g_t h101).trans ?_)
    refine am_bind_congr fun r106 => ?_
    show am_Ex d 154 21 [(2, x0)] [] r106.2 = _
    refine (am_e1 rfl rfl).trans ?_
    exact (am_e5 rfl).trans rfl
  · refine (am_e0 rfl rfl).trans ?_
    refine (am_e0 rfl rfl).trans ?_
    refine (am_pf (c := 11) rfl rfl rfl).trans ((am_g_t h101).trans ?_)
    refine am_letm (fun M107 => ?_)
    exact (am_e4v rfl rfl).trans rfl
-- 155: UnlearnedHandModel.worked(IJJ)J
set_option maxRecDepth 10000 in
theorem aq_155 (d : Nat) (x0 x1 x2 : Int) (M : am_M) : am_Call d 155 [(0, x0), (1, x1), (1, x2)] M = (if x0 = 35 then (if am_cmp x1 x2 = 0 then (some (0, M)) else (some (1, M))) else if x0 = 42 then ((am_Call d 84 [(1, am_w64 (x1 * x2))] M).bind fun r104 => some (r104.1, r104.2)) else if x0 = 43 then ((am_Call d 84 [(1, am_w64 (x1 + x2))] M).bind fun r106 => some (r106.1, r106.2)) else if x0 = 45 then ((am_Call d 84 [(1, am_w64 (x1 - x2))] M).bind fun r108 => some (r108.1, r108.2)) else if x0 = 47 then (if am_cmp x2 0 = 0 then (some (0, M)) else (if (x2 : Int) = 0 then none else some (am_ldiv x1 x2, M))) else if x0 = 60 then (if am_cmp x1 x2 < 0 then (some (1, M)) else (some (0, M))) else if x0 = 61 then (if am_cmp x1 x2 = 0 then (some (1, M)) else (some (0, M))) else if x0 = 62 then (if am_cmp x1 x2 ≤ 0 then (some (0, M)) else (some (1, M))) else if x0 = 300 then (if am_cmp x1 x2 ≤ 0 then (some (1, M)) else (some (0, M))) else if x0 = 301 then (if am_cmp x1 x2 < 0 then (some (0, M)) else (some (1, M))) else if x0 = 406 then (some (am_w64 (x1 * x2), M)) else (if am_cmp (am_w64 (x1 + x2)) 0 ≤ 0 then (some (0, M)) else (some (1, M)))) := by
  show am_Ex d 155 0 [(0, x0), (1, x1), am_N, (1, x2), am_N] [] M = _
  refine (am_e0 rfl rfl).trans ?_
  refine (am_lsws rfl).trans ?_
  refine (am_ls_c).trans (am_if_congr (fun c101 => ?_) (fun c101 => ?_))
  · refine (am_e0 rfl rfl).trans ?_
    refine (am_e0 rfl rfl).trans ?_
    refine (am_e0 rfl rfl).trans ?_
    refine (am_z_eq rfl).trans (am_if_congr (fun c102 => ?_) (fun c102 => ?_))
    · refine (am_e0 rfl rfl).trans ?_
      exact (am_e4l rfl rfl).trans rfl
    · refine (am_e0 rfl rfl).trans ?_
      refine (am_e1 rfl rfl).trans ?_
      exact (am_e4l rfl rfl).trans rfl
  refine (am_ls_c).trans (am_if_congr (fun c103 => ?_) (fun c103 => ?_))
  · refine (am_e0 rfl rfl).trans ?_
    refine (am_e0 rfl rfl).trans ?_
    refine (am_e0 rfl rfl).trans ?_
    refine (am_cal3 (z := 84) (k := 1) (c := true) rfl rfl rfl rfl rfl rfl rfl rfl).trans ((am_g_t rfl).trans ?_)
    refine am_bind_congr fun r104 => ?_
    show am_Ex d 155 16 [(0, x0), (1, x1), am_N, (1, x2), am_N] [(1, r104.1)] r104.2 = _
    exact (am_e4l rfl rfl).trans rfl
  refine (am_ls_c).trans (am_if_congr (fun c105 => ?_) (fun c105 => ?_))
  · refine (am_e0 rfl rfl).trans ?_
    refine (am_e0 rfl rfl).trans ?_
    refine (am_e0 rfl rfl).trans ?_
    refine (am_cal3 (z := 84) (k := 1) (c := true) rfl rfl rfl rfl rfl rfl rfl rfl).trans ((am_g_t rfl).trans ?_)
    refine am_bind_congr fun r106 => ?_
    show am_Ex d 155 6 [(0, x0), (1, x1), am_N, (1, x2), am_N] [(1, r106.1)] r106.2 = _
    exact (am_e4l rfl rfl).trans rfl
  refine (am_ls_c).trans (am_if_congr (fun c107 => ?_) (fun c107 => ?_))
  · refine (am_e0 rfl rfl).trans ?_
    refine (am_e0 rfl rfl).trans ?_
    refine (am_e0 rfl rfl).trans ?_
    refine (am_cal3 (z := 84) (k := 1) (c := true) rfl rfl rfl rfl rfl rfl rfl rfl).trans ((am_g_t rfl).trans ?_)
    refine am_bind_congr fun r108 => ?_
    show am_Ex d 155 11 [(0, x0), (1, x1), am_N, (1, x2), am_N] [(1, r108.1)] r108.2 = _
    exact (am_e4l rfl rfl).trans rfl
  refine (am_ls_c).trans (am_if_congr (fun c109 => ?_) (fun c109 => ?_))
  · refine (am_e0 rfl rfl).trans ?_
    refine (am_e0 rfl rfl).trans ?_
    refine (am_e0 rfl rfl).trans ?_
    refine (am_z_ne rfl).trans (am_if_congr (fun c110 => ?_) (fun c110 => ?_))
    · refine (am_e0 rfl rfl).trans ?_
      refine (am_e1 rfl rfl).trans ?_
      exact (am_e4l rfl rfl).trans rfl
    · refine (am_e0 rfl rfl).trans ?_
      refine (am_e0 rfl rfl).trans ?_
      refine (am_dvl rfl).trans (am_if_congr (fun _ => rfl) (fun c111 => ?_))
      exact (am_e4l rfl rfl).trans rfl
  refine (am_ls_c).trans (am_if_congr (fun c112 => ?_) (fun c112 => ?_))
  · refine (am_e0 rfl rfl).trans ?_
    refine (am_e0 rfl rfl).trans ?_
    refine (am_e0 rfl rfl).trans ?_
    refine (am_z_ge rfl).trans (am_if_congr (fun c113 => ?_) (fun c113 => ?_))
    · refine (am_e0 rfl rfl).trans ?_
      refine (am_e1 rfl rfl).trans ?_
      exact (am_e4l rfl rfl).trans rfl
    · refine (am_e0 rfl rfl).trans ?_
      exact (am_e4l rfl rfl).trans rfl
  refine (am_ls_c).trans (am_if_congr (fun c114 => ?_) (fun c114 => ?_))
  · refine (am_e0 rfl rfl).trans ?_
    refine (am_e0 rfl rfl).trans ?_
    refine (am_e0 rfl rfl).trans ?_
    refine (am_z_ne rfl).trans (am_if_congr (fun c115 => ?_) (fun c115 => ?_))
    · refine (am_e0 rfl rfl).trans ?_
      refine (am_e1 rfl rfl).trans ?_
      exact (am_e4l rfl rfl).trans rfl
    · refine (am_e0 rfl rfl).trans ?_
      exact (am_e4l rfl rfl).trans rfl
  refine (am_ls_c).trans (am_if_congr (fun c116 => ?_) (fun c116 => ?_))
  · refine (am_e0 rfl rfl).trans ?_
    refine (am_e0 rfl rfl).trans ?_
    refine (am_e0 rfl rfl).trans ?_
    refine (am_z_le rfl).trans (am_if_congr (fun c117 => ?_) (fun c117 => ?_))
    · refine (am_e0 rfl rfl).trans ?_
      exact (am_e4l rfl rfl).trans rfl
    · refine (am_e0 rfl rfl).trans ?_
      refine (am_e1 rfl rfl).trans ?_
      exact (am_e4l rfl rfl).trans rfl
  refine (am_ls_c).trans (am_if_congr (fun c118 => ?_) (fun c118 => ?_))
  · refine (am_e0 rfl rfl).trans ?_
    refine (am_e0 rfl rfl).trans ?_
    refine (am_e0 rfl rfl).trans ?_
    refine (am_z_gt rfl).trans (am_if_congr (fun c119 => ?_) (fun c119 => ?_))
    · refine (am_e0 rfl rfl).trans ?_
      refine (am_e1 rfl rfl).trans ?_
      exact (am_e4l rfl rfl).trans rfl
    · refine (am_e0 rfl rfl).trans ?_
      exact (am_e4l rfl rfl).trans rfl
  refine (am_ls_c).trans (am_if_congr (fun c120 => ?_) (fun c120 => ?_))
  · refine (am_e0 rfl rfl).trans ?_
    refine (am_e0 rfl rfl).trans ?_
    refine (am_e0 rfl rfl).trans ?_
    refine (am_z_lt rfl).trans (am_if_congr (fun c121 => ?_) (fun c121 => ?_))
    · refine (am_e0 rfl rfl).trans ?_
      exact (am_e4l rfl rfl).trans rfl
    · refine (am_e0 rfl rfl).trans ?_
      refine (am_e1 rfl rfl).trans ?_
      exact (am_e4l rfl rfl).trans rfl
  refine (am_ls_c).trans (am_if_congr (fun c122 => ?_) (fun c122 => ?_))
  · refine (am_e0 rfl rfl).trans ?_
    refine (am_e0 rfl rfl).trans ?_
    refine (am_e0 rfl rfl).trans ?_
    exact (am_e4l rfl rfl).trans rfl
  refine (am_ls_n).trans ?_
  refine (am_e0 rfl rfl).trans ?_
  refine (am_e0 rfl rfl).trans ?_
  refine (am_e0 rfl rfl).trans ?_
  refine (am_e0 rfl rfl).trans ?_
  refine (am_e0 rfl rfl).trans ?_
  refine (am_z_le rfl).trans (am_if_congr (fun c123 => ?_) (fun c123 => ?_))
  · refine (am_e0 rfl rfl).trans ?_
    exact (am_e4l rfl rfl).trans rfl
  · refine (am_e0 rfl rfl).trans ?_
    refine (am_e1 rfl rfl).trans ?_
    exact (am_e4l rfl rfl).trans rfl
-- 156: UnlearnedHandModel.by(I)Z
set_option maxRecDepth 10000 in
theorem aq_156 (d : Nat) (x0 x1 : Int) (M : am_M) : am_Call d 156 [(2, x0), (0, x1)] M = (if x1 = (-1) then (am_Ex d 156 16 [(2, x0), (0, x1)] [] M) else (am_g (am_ob x0 11) <| am_g (am_ar (am_rd M x0 0) 20 3) <| (am_Call d 64 [(0, x1), (0, 0), (0, am_w32 ((am_rd M (am_rd M x0 0) 3) - 1))] M).bind fun r104 => if r104.1 = 0 then (some (0, r104.2)) else (am_Ex d 156 16 [(2, x0), (0, x1)] [] r104.2))) := by
  show am_Ex d 156 0 [(2, x0), (0, x1)] [] M = _
  refine (am_e0 rfl rfl).trans ?_
  refine (am_e0 rfl rfl).trans ?_
  refine (am_i_eq rfl).trans (am_if_congr (fun c101 => ?_) (fun c101 => ?_))
  · exact (am_e5 rfl).trans rfl
  · refine (am_e0 rfl rfl).trans ?_
    refine (am_e0 rfl rfl).trans ?_
    refine (am_e0 rfl rfl).trans ?_
    refine (am_gf (c := 11) (t := 2) rfl rfl rfl).trans (am_g_congr fun h102 => ?_)
    refine (am_e0 rfl rfl).trans ?_
    refine (am_ial rfl).trans (am_g_congr fun h103 => ?_)
    refine (am_e0 rfl rfl).trans ?_
    refine (am_e0 rfl rfl).trans ?_
    refine (am_cal3 (z := 64) (k := 3) (c := true) rfl rfl rfl rfl rfl rfl rfl rfl).trans ((am_g_t rfl).trans ?_)
    refine am_bind_congr fun r104 => ?_
    show am_Ex d 156 12 [(2, x0), (0, x1)] [(0, r104.1)] r104.2 = _
    refine (am_z_ne rfl).trans (am_if_congr (fun c105 => ?_) (fun c105 => ?_))
    · refine (am_e0 rfl rfl).trans ?_
      exact (am_e4i rfl rfl).trans rfl
    · exact (am_e5 rfl).trans rfl
set_option maxRecDepth 10000 in
theorem aq_156_16 (d : Nat) (x0 x1 : Int) (M : am_M) : am_Ex d 156 16 [(2, x0), (0, x1)] [] M = (am_g (am_ob x0 11) <| am_g (am_ar (am_rd M x0 0) 20 4) <| am_let (am_wr M (am_rd M x0 0) 4 x1) fun M103 => some (1, M103)) := by
  refine (am_e0 rfl rfl).trans ?_
  refine (am_gf (c := 11) (t := 2) rfl rfl rfl).trans (am_g_congr fun h101 => ?_)
  refine (am_e0 rfl rfl).trans ?_
  refine (am_e0 rfl rfl).trans ?_
  refine (am_ias rfl).trans (am_g_congr fun h102 => ?_)
  refine am_letm (fun M103 => ?_)
  refine (am_e0 rfl rfl).trans ?_
  exact (am_e4i rfl rfl).trans rfl
-- 157: UnlearnedHandModel.setsRight(III)V
set_option maxRecDepth 10000 in
theorem aq_157 (d : Nat) (x0 x1 x2 x3 : Int) (M : am_M) : am_Call d 157 [(2, x0), (0, x1), (0, x2), (0, x3)] M = (am_let (am_w32 ((am_w32 (8 * x1)) + x2)) fun v101 => am_g (am_ob x0 11) <| (am_Call d 87 [(1, x3), (0, 0), (0, 99)] M).bind fun r103 => am_g (am_ar (am_rd M x0 41) 20 v101) <| am_let (am_wr r103.2 (am_rd M x0 41) v101 r103.1) fun M105 => am_g (am_ar (am_rd M105 x0 41) 20 v101) <| am_g (am_ar (am_rd M105 x0 43) 20 v101) <| if am_rd M105 (am_rd M105 x0 41) v101 ≤ am_rd M105 (am_rd M105 x0 43) v101 then (am_let (am_wr M105 (am_rd M105 x0 43) v101 (am_rd M105 (am_rd M105 x0 43) v101)) fun M109 => some (0, M109)) else (am_let (am_wr M105 (am_rd M105 x0 43) v101 (am_rd M105 (am_rd M105 x0 41) v101)) fun M110 => some (0, M110))) := by
  show am_Ex d 157 0 [(2, x0), (0, x1), (0, x2), (0, x3), am_N] [] M = _
  refine (am_e0 rfl rfl).trans ?_
  refine (am_e0 rfl rfl).trans ?_
  refine (am_e0 rfl rfl).trans ?_
  refine (am_e0 rfl rfl).trans ?_
  refine (am_e0 rfl rfl).trans ?_
  refine (am_e0 rfl rfl).trans ?_
  refine am_lets (L := fun v101 => [(2, x0), (0, x1), (0, x2), (0, x3), (0, v101)]) (fun v101 => ?_)
  refine (am_e0 rfl rfl).trans ?_
  refine (am_gf (c := 11) (t := 2) rfl rfl rfl).trans (am_g_congr fun h102 => ?_)
  refine (am_e0 rfl rfl).trans ?_
  refine (am_e0 rfl rfl).trans ?_
  refine (am_e0 rfl rfl).trans ?_
  refine (am_e0 rfl rfl).trans ?_
  refine (am_e0 rfl rfl).trans ?_
  refine (am_cal3 (z := 87) (k := 3) (c := true) rfl rfl rfl rfl rfl rfl rfl rfl).trans ((am_g_t rfl).trans ?_)
  refine am_bind_congr fun r103 => ?_
  show am_Ex d 157 14 [(2, x0), (0, x1), (0, x2), (0, x3), (0, v101)] [(0, r103.1), (0, v101), (2, am_rd M x0 41)] r103.2 = _
  refine (am_ias rfl).trans (am_g_congr fun h104 => ?_)
  refine am_letm (fun M105 => ?_)
  refine (am_e0 rfl rfl).trans ?_
  refine (am_gf (c := 11) (t := 2) rfl rfl rfl).trans ((am_g_t h102).trans ?_)
  refine (am_e0 rfl rfl).trans ?_
  refine (am_e0 rfl rfl).trans ?_
  refine (am_gf (c := 11) (t := 2) rfl rfl rfl).trans ((am_g_t h102).trans ?_)
  refine (am_e0 rfl rfl).trans ?_
  refine (am_ial rfl).trans (am_g_congr fun h106 => ?_)
  refine (am_e0 rfl rfl).trans ?_
  refine (am_gf (c := 11) (t := 2) rfl rfl rfl).trans ((am_g_t h102).trans ?_)
  refine (am_e0 rfl rfl).trans ?_
  refine (am_ial rfl).trans (am_g_congr fun h107 => ?_)
  refine (am_i_le rfl).trans (am_if_congr (fun c108 => ?_) (fun c108 => ?_))
  · refine (am_e0 rfl rfl).trans ?_
    refine (am_gf (c := 11) (t := 2) rfl rfl rfl).trans ((am_g_t h102).trans ?_)
    refine (am_e0 rfl rfl).trans ?_
    refine (am_ial rfl).trans ((am_g_t h107).trans ?_)
    refine (am_ias rfl).trans ((am_g_t h107).trans ?_)
    refine am_letm (fun M109 => ?_)
    exact (am_e4v rfl rfl).trans rfl
  · refine (am_e0 rfl rfl).trans ?_
    refine (am_gf (c := 11) (t := 2) rfl rfl rfl).trans ((am_g_t h102).trans ?_)
    refine (am_e0 rfl rfl).trans ?_
    refine (am_ial rfl).trans ((am_g_t h106).trans ?_)
    refine (am_e1 rfl rfl).trans ?_
    refine (am_ias rfl).trans ((am_g_t h107).trans ?_)
    refine am_letm (fun M110 => ?_)
    exact (am_e4v rfl rfl).trans rfl
-- 158: UnlearnedHandModel.drinks(I)V
set_option maxRecDepth 10000 in
theorem aq_158 (d : Nat) (x0 x1 : Int) (M : am_M) : am_Call d 158 [(2, x0), (0, x1)] M = (am_Ex d 158 3 [(2, x0), (0, x1), (0, 0), am_N] [] M) := by
  show am_Ex d 158 0 [(2, x0), (0, x1), am_N, am_N] [] M = _
  refine (am_e0 rfl rfl).trans ?_
  refine (am_e0 rfl rfl).trans ?_
  exact (am_e5 rfl).trans rfl
set_option maxRecDepth 10000 in
theorem aq_158_3 (d : Nat) (x0 x1 x2 : Int) (M : am_M) : am_Ex d 158 3 [(2, x0), (0, x1), (0, x2), am_N] [] M = (am_g (am_ob x0 11) <| am_g (am_ar (am_rd M x0 0) 20 0) <| if x2 < am_rd M (am_rd M x0 0) 0 then (am_let (am_w32 ((am_w32 (60 + (am_w32 (8 * x1)))) + x2)) fun v104 => am_g (am_ar (am_rd M x0 0) 20 (am_w32 (204 + x1))) <| (am_Call d 65 [(0, am_rd M (am_rd M x0 0) (am_w32 (204 + x1))), (0, x2)] M).bind fun r106 => if r106.1 = 0 then (am_g (am_ar (am_rd r106.2 x0 0) 20 v104) <| if am_rd r106.2 (am_rd r106.2 x0 0) v104 < 3 then (am_g (am_ar (am_rd M x0 0) 20 v104) <| am_let (am_wr r106.2 (am_rd M x0 0) v104 0) fun M111 => am_let (am_w32 (x2 + 1)) fun v112 => am_Ex d 158 3 [(2, x0), (0, x1), (0, v112), am_N] [] M111) else (am_g (am_ar (am_rd M x0 0) 20 v104) <| am_let (am_wr r106.2 (am_rd M x0 0) v104 (am_w32 ((am_rd r106.2 (am_rd r106.2 x0 0) v104) - 3))) fun M114 => am_let (am_w32 (x2 + 1)) fun v115 => am_Ex d 158 3 [(2, x0), (0, x1), (0, v115), am_N] [] M114)) else (am_g (am_ar (am_rd r106.2 x0 0) 20 v104) <| am_g (am_ar (am_rd M x0 0) 20 v104) <| am_let (am_wr r106.2 (am_rd M x0 0) v104 (am_rd r106.2 (am_rd r106.2 x0 0) v104)) fun M118 => am_let (am_w32 (x2 + 1)) fun v119 => am_Ex d 158 3 [(2, x0), (0, x1), (0, v119), am_N] [] M118)) else (some (0, M))) := by
  refine (am_e0 rfl rfl).trans ?_
  refine (am_e0 rfl rfl).trans ?_
  refine (am_gf (c := 11) (t := 2) rfl rfl rfl).trans (am_g_congr fun h101 => ?_)
  refine (am_e0 rfl rfl).trans ?_
  refine (am_ial rfl).trans (am_g_congr fun h102 => ?_)
  refine (am_i_ge rfl).trans (am_if_congr (fun c103 => ?_) (fun c103 => ?_))
  · refine (am_e0 rfl rfl).trans ?_
    refine (am_e0 rfl rfl).trans ?_
    refine (am_e0 rfl rfl).trans ?_
    refine (am_e0 rfl rfl).trans ?_
    refine (am_e0 rfl rfl).trans ?_
    refine (am_e0 rfl rfl).trans ?_
    refine (am_e0 rfl rfl).trans ?_
    refine (am_e0 rfl rfl).trans ?_
    refine am_lets (L := fun v104 => [(2, x0), (0, x1), (0, x2), (0, v104)]) (fun v104 => ?_)
    refine (am_e0 rfl rfl).trans ?_
    refine (am_gf (c := 11) (t := 2) rfl rfl rfl).trans ((am_g_t h101).trans ?_)
    refine (am_e0 rfl rfl).trans ?_
    refine (am_e0 rfl rfl).trans ?_
    refine (am_gf (c := 11) (t := 2) rfl rfl rfl).trans ((am_g_t h101).trans ?_)
    refine (am_e0 rfl rfl).trans ?_
    refine (am_e0 rfl rfl).trans ?_
    refine (am_e0 rfl rfl).trans ?_
    refine (am_ial rfl).trans (am_g_congr fun h105 => ?_)
    refine (am_e0 rfl rfl).trans ?_
    refine (am_cal3 (z := 65) (k := 2) (c := true) rfl rfl rfl rfl rfl rfl rfl rfl).trans ((am_g_t rfl).trans ?_)
    refine am_bind_congr fun r106 => ?_
    show am_Ex d 158 28 [(2, x0), (0, x1), (0, x2), (0, v104)] [(0, r106.1), (0, v104), (2, am_rd M x0 0)] r106.2 = _
    refine (am_z_eq rfl).trans (am_if_congr (fun c107 => ?_) (fun c107 => ?_))
    · refine (am_e0 rfl rfl).trans ?_
      refine (am_gf (c := 11) (t := 2) rfl rfl rfl).trans ((am_g_t h101).trans ?_)
      refine (am_e0 rfl rfl).trans ?_
      refine (am_ial rfl).trans (am_g_congr fun h108 => ?_)
      refine (am_e0 rfl rfl).trans ?_
      refine (am_i_ge rfl).trans (am_if_congr (fun c109 => ?_) (fun c109 => ?_))
      · refine (am_e0 rfl rfl).trans ?_
        refine (am_e1 rfl rfl).trans ?_
        refine (am_ias rfl).trans (am_g_congr fun h110 => ?_)
        refine am_letm (fun M111 => ?_)
        refine (am_e0 rfl rfl).trans ?_
        refine am_lets (L := fun v112 => [(2, x0), (0, x1), (0, v112), (0, v104)]) (fun v112 => ?_)
        refine (am_e1 rfl rfl).trans ?_
        exact (am_e5 rfl).trans rfl
      · refine (am_e0 rfl rfl).trans ?_
        refine (am_gf (c := 11) (t := 2) rfl rfl rfl).trans ((am_g_t h101).trans ?_)
        refine (am_e0 rfl rfl).trans ?_
        refine (am_ial rfl).trans ((am_g_t h108).trans ?_)
        refine (am_e0 rfl rfl).trans ?_
        refine (am_e0 rfl rfl).trans ?_
        refine (am_ias rfl).trans (am_g_congr fun h113 => ?_)
        refine am_letm (fun M114 => ?_)
        refine (am_e0 rfl rfl).trans ?_
        refine am_lets (L := fun v115 => [(2, x0), (0, x1), (0, v115), (0, v104)]) (fun v115 => ?_)
        refine (am_e1 rfl rfl).trans ?_
        exact (am_e5 rfl).trans rfl
    · refine (am_e0 rfl rfl).trans ?_
      refine (am_gf (c := 11) (t := 2) rfl rfl rfl).trans ((am_g_t h101).trans ?_)
      refine (am_e0 rfl rfl).trans ?_
      refine (am_ial rfl).trans (am_g_congr fun h116 => ?_)
      refine (am_e1 rfl rfl).trans ?_
      refine (am_ias rfl).trans (am_g_congr fun h117 => ?_)
      refine am_letm (fun M118 => ?_)
      refine (am_e0 rfl rfl).trans ?_
      refine am_lets (L := fun v119 => [(2, x0), (0, x1), (0, v119), (0, v104)]) (fun v119 => ?_)
      refine (am_e1 rfl rfl).trans ?_
      exact (am_e5 rfl).trans rfl
  · exact (am_e4v rfl rfl).trans rfl
-- 159: UnlearnedHandModel.comesBack(I)I
set_option maxRecDepth 10000 in
theorem aq_159 (d : Nat) (x0 x1 : Int) (M : am_M) : am_Call d 159 [(2, x0), (0, x1)] M = (am_Ex d 159 5 [(2, x0), am_N, (0, x1), (0, 0), am_N] [] M) := by
  show am_Ex d 159 0 [(2, x0), (0, x1), am_N, am_N, am_N] [] M = _
  refine (am_e0 rfl rfl).trans ?_
  refine (am_e0 rfl rfl).trans ?_
  refine (am_e0 rfl rfl).trans ?_
  refine (am_e0 rfl rfl).trans ?_
  exact (am_e5 rfl).trans rfl
set_option maxRecDepth 10000 in
theorem aq_159_5 (d : Nat) (x0 x2 x3 : Int) (M : am_M) : am_Ex d 159 5 [(2, x0), am_N, (0, x2), (0, x3), am_N] [] M = (if x3 < 8 then (am_Ex d 159 11 [(2, x0), am_N, (0, x2), (0, x3), (0, 0)] [] M) else (some (x2, M))) := by
  refine (am_e0 rfl rfl).trans ?_
  refine (am_e0 rfl rfl).trans ?_
  refine (am_i_ge rfl).trans (am_if_congr (fun c101 => ?_) (fun c101 => ?_))
  · refine (am_e0 rfl rfl).trans ?_
    refine (am_e0 rfl rfl).trans ?_
    exact (am_e5 rfl).trans rfl
  · refine (am_e0 rfl rfl).trans ?_
    exact (am_e4i rfl rfl).trans rfl
set_option maxRecDepth 10000 in
theorem aq_159_11 (d : Nat) (x0 x2 x3 x4 : Int) (M : am_M) : am_Ex d 159 11 [(2, x0), am_N, (0, x2), (0, x3), (0, x4)] [] M = (am_g (am_ob x0 11) <| am_g (am_ar (am_rd M x0 0) 20 0) <| if x4 < am_rd M (am_rd M x0 0) 0 then ((am_Call d 65 [(0, x2), (0, x4)] M).bind fun r104 => if r104.1 = 0 then (am_let (am_or x2 0) fun v106 => am_let (am_w32 (x4 + 1)) fun v107 => am_Ex d 159 11 [(2, x0), am_N, (0, v106), (0, x3), (0, v107)] [] r104.2) else (am_g (am_ar (am_rd r104.2 x0 0) 20 (am_w32 (18 + x4))) <| am_let (am_or x2 (am_rd r104.2 (am_rd r104.2 x0 0) (am_w32 (18 + x4)))) fun v109 => am_let (am_w32 (x4 + 1)) fun v110 => am_Ex d 159 11 [(2, x0), am_N, (0, v109), (0, x3), (0, v110)] [] r104.2)) else (am_let (am_w32 (x3 + 1)) fun v111 => am_Ex d 159 5 [(2, x0), am_N, (0, x2), (0, v111), am_N] [] M)) := by
  refine (am_e0 rfl rfl).trans ?_
  refine (am_e0 rfl rfl).trans ?_
  refine (am_gf (c := 11) (t := 2) rfl rfl rfl).trans (am_g_congr fun h101 => ?_)
  refine (am_e0 rfl rfl).trans ?_
  refine (am_ial rfl).trans (am_g_congr fun h102 => ?_)
  refine (am_i_ge rfl).trans (am_if_congr (fun c103 => ?_) (fun c103 => ?_))
  · refine (am_e0 rfl rfl).trans ?_
    refine (am_e0 rfl rfl).trans ?_
    refine (am_e0 rfl rfl).trans ?_
    refine (am_cal3 (z := 65) (k := 2) (c := true) rfl rfl rfl rfl rfl rfl rfl rfl).trans ((am_g_t rfl).trans ?_)
    refine am_bind_congr fun r104 => ?_
    show am_Ex d 159 21 [(2, x0), am_N, (0, x2), (0, x3), (0, x4)] [(0, r104.1), (0, x2)] r104.2 = _
    refine (am_z_eq rfl).trans (am_if_congr (fun c105 => ?_) (fun c105 => ?_))
    · refine (am_e0 rfl rfl).trans ?_
      refine (am_e0 rfl rfl).trans ?_
      refine (am_e0 rfl rfl).trans ?_
      refine am_lets (L := fun v106 => [(2, x0), am_N, (0, v106), (0, x3), (0, x4)]) (fun v106 => ?_)
      refine (am_e0 rfl rfl).trans ?_
      refine am_lets (L := fun v107 => [(2, x0), am_N, (0, v106), (0, x3), (0, v107)]) (fun v107 => ?_)
      refine (am_e1 rfl rfl).trans ?_
      exact (am_e5 rfl).trans rfl
    · refine (am_e0 rfl rfl).trans ?_
      refine (am_gf (c := 11) (t := 2) rfl rfl rfl).trans ((am_g_t h101).trans ?_)
      refine (am_e0 rfl rfl).trans ?_
      refine (am_e0 rfl rfl).trans ?_
      refine (am_e0 rfl rfl).trans ?_
      refine (am_ial rfl).trans (am_g_congr fun h108 => ?_)
      refine (am_e1 rfl rfl).trans ?_
      refine (am_e0 rfl rfl).trans ?_
      refine (am_e0 rfl rfl).trans ?_
      refine am_lets (L := fun v109 => [(2, x0), am_N, (0, v109), (0, x3), (0, x4)]) (fun v109 => ?_)
      refine (am_e0 rfl rfl).trans ?_
      refine am_lets (L := fun v110 => [(2, x0), am_N, (0, v109), (0, x3), (0, v110)]) (fun v110 => ?_)
      refine (am_e1 rfl rfl).trans ?_
      exact (am_e5 rfl).trans rfl
  · refine (am_e0 rfl rfl).trans ?_
    refine am_lets (L := fun v111 => [(2, x0), am_N, (0, x2), (0, v111), (0, x4)]) (fun v111 => ?_)
    refine (am_e1 rfl rfl).trans ?_
    exact (am_e5 rfl).trans rfl
-- 160: UnlearnedHandModel.isLedTo(II)Z
set_option maxRecDepth 10000 in
theorem aq_160 (d : Nat) (x0 x1 x2 : Int) (M : am_M) : am_Call d 160 [(2, x0), (0, x1), (0, x2)] M = (am_Ex d 160 7 [(2, x0), (0, x1), (0, x2), (0, 0), (0, 0), (0, 0)] [] M) := by
  show am_Ex d 160 0 [(2, x0), (0, x1), (0, x2), am_N, am_N, am_N] [] M = _
  refine (am_e0 rfl rfl).trans ?_
  refine (am_e0 rfl rfl).trans ?_
  refine (am_e0 rfl rfl).trans ?_
  refine (am_e0 rfl rfl).trans ?_
  refine (am_e0 rfl rfl).trans ?_
  refine (am_e0 rfl rfl).trans ?_
  exact (am_e5 rfl).trans rfl
set_option maxRecDepth 10000 in
theorem aq_160_7 (d : Nat) (x0 x1 x2 x3 x4 x5 : Int) (M : am_M) : am_Ex d 160 7 [(2, x0), (0, x1), (0, x2), (0, x3), (0, x4), (0, x5)] [] M = (am_g (am_ob x0 11) <| am_g (am_ar (am_rd M x0 0) 20 0) <| if x5 < am_rd M (am_rd M x0 0) 0 then (if x3 = 0 then (am_g (am_ar (am_rd M x0 0) 20 (am_w32 (18 + x5))) <| (am_Call d 65 [(0, am_rd M (am_rd M x0 0) (am_w32 (18 + x5))), (0, x2)] M).bind fun r106 => if r106.1 = 0 then (if x4 = 0 then (am_g (am_ar (am_rd r106.2 x0 0) 20 (am_w32 (18 + x5))) <| (am_Call d 65 [(0, am_rd r106.2 (am_rd r106.2 x0 0) (am_w32 (18 + x5))), (0, x2)] r106.2).bind fun r110 => if r110.1 = 0 then (am_Ex d 160 48 [(2, x0), (0, x1), (0, x2), (0, 0), am_N, (0, x5)] [] r110.2) else ((am_Call d 65 [(0, x1), (0, x5)] r110.2).bind fun r112 => if r112.1 = 0 then (am_Ex d 160 48 [(2, x0), (0, x1), (0, x2), (0, 0), am_N, (0, x5)] [] r112.2) else (am_Ex d 160 45 [(2, x0), (0, x1), (0, x2), (0, 0), am_N, (0, x5)] [] r112.2))) else (am_Ex d 160 45 [(2, x0), (0, x1), (0, x2), (0, 0), am_N, (0, x5)] [] r106.2)) else (am_Ex d 160 25 [(2, x0), (0, x1), (0, x2), am_N, (0, x4), (0, x5)] [] r106.2)) else (am_Ex d 160 25 [(2, x0), (0, x1), (0, x2), am_N, (0, x4), (0, x5)] [] M)) else (if x3 = 0 then (am_Ex d 160 57 [am_N, am_N, am_N, am_N, am_N, am_N] [] M) else (if x4 = 0 then (some (0, M)) else (am_Ex d 160 57 [am_N, am_N, am_N, am_N, am_N, am_N] [] M)))) := by
  refine (am_e0 rfl rfl).trans ?_
  refine (am_e0 rfl rfl).trans ?_
  refine (am_gf (c := 11) (t := 2) rfl rfl rfl).trans (am_g_congr fun h101 => ?_)
  refine (am_e0 rfl rfl).trans ?_
  refine (am_ial rfl).trans (am_g_congr fun h102 => ?_)
  refine (am_i_ge rfl).trans (am_if_congr (fun c103 => ?_) (fun c103 => ?_))
  · refine (am_e0 rfl rfl).trans ?_
    refine (am_z_ne rfl).trans (am_if_congr (fun c104 => ?_) (fun c104 => ?_))
    · refine (am_e0 rfl rfl).trans ?_
      refine (am_gf (c := 11) (t := 2) rfl rfl rfl).trans ((am_g_t h101).trans ?_)
      refine (am_e0 rfl rfl).trans ?_
      refine (am_e0 rfl rfl).trans ?_
      refine (am_e0 rfl rfl).trans ?_
      refine (am_ial rfl).trans (am_g_congr fun h105 => ?_)
      refine (am_e0 rfl rfl).trans ?_
      refine (am_cal3 (z := 65) (k := 2) (c := true) rfl rfl rfl rfl rfl rfl rfl rfl).trans ((am_g_t rfl).trans ?_)
      refine am_bind_congr fun r106 => ?_
      show am_Ex d 160 23 [(2, x0), (0, x1), (0, x2), (0, x3), (0, x4), (0, x5)] [(0, r106.1)] r106.2 = _
      refine (am_z_eq rfl).trans (am_if_congr (fun c107 => ?_) (fun c107 => ?_))
      · refine (am_e0 rfl rfl).trans ?_
        refine (am_e0 rfl rfl).trans ?_
        refine (am_e0 rfl rfl).trans ?_
        refine (am_z_ne rfl).trans (am_if_congr (fun c108 => ?_) (fun c108 => ?_))
        · refine (am_e0 rfl rfl).trans ?_
          refine (am_gf (c := 11) (t := 2) rfl rfl rfl).trans ((am_g_t h101).trans ?_)
          refine (am_e0 rfl rfl).trans ?_
          refine (am_e0 rfl rfl).trans ?_
          refine (am_e0 rfl rfl).trans ?_
          refine (am_ial rfl).trans (am_g_congr fun h109 => ?_)
          refine (am_e0 rfl rfl).trans ?_
          refine (am_cal3 (z := 65) (k := 2) (c := true) rfl rfl rfl rfl rfl rfl rfl rfl).trans ((am_g_t rfl).trans ?_)
          refine am_bind_congr fun r110 => ?_
          show am_Ex d 160 39 [(2, x0), (0, x1), (0, x2), (0, 0), (0, x4), (0, x5)] [(0, r110.1)] r110.2 = _
          refine (am_z_eq rfl).trans (am_if_congr (fun c111 => ?_) (fun c111 => ?_))
          · exact (am_e5 rfl).trans rfl
          · refine (am_e0 rfl rfl).trans ?_
            refine (am_e0 rfl rfl).trans ?_
            refine (am_cal3 (z := 65) (k := 2) (c := true) rfl rfl rfl rfl rfl rfl rfl rfl).trans ((am_g_t rfl).trans ?_)
            refine am_bind_congr fun r112 => ?_
            show am_Ex d 160 43 [(2, x0), (0, x1), (0, x2), (0, 0), (0, x4), (0, x5)] [(0, r112.1)] r112.2 = _
            refine (am_z_eq rfl).trans (am_if_congr (fun c113 => ?_) (fun c113 => ?_))
            · exact (am_e5 rfl).trans rfl
            · exact (am_e5 rfl).trans rfl
        · exact (am_e5 rfl).trans rfl
      · exact (am_e5 rfl).trans rfl
    · exact (am_e5 rfl).trans rfl
  · refine (am_e0 rfl rfl).trans ?_
    refine (am_z_eq rfl).trans (am_if_congr (fun c114 => ?_) (fun c114 => ?_))
    · exact (am_e5 rfl).trans rfl
    · refine (am_e0 rfl rfl).trans ?_
      refine (am_z_eq rfl).trans (am_if_congr (fun c115 => ?_) (fun c115 => ?_))
      · refine (am_e0 rfl rfl).trans ?_
        exact (am_e4i rfl rfl).trans rfl
      · exact (am_e5 rfl).trans rfl
set_option maxRecDepth 10000 in
theorem aq_160_48 (d : Nat) (x0 x1 x2 x3 x5 : Int) (M : am_M) : am_Ex d 160 48 [(2, x0), (0, x1), (0, x2), (0, x3), am_N, (0, x5)] [] M = (am_let (am_w32 (x5 + 1)) fun v101 => am_Ex d 160 7 [(2, x0), (0, x1), (0, x2), (0, x3), (0, 0), (0, v101)] [] M) := by
  refine (am_e0 rfl rfl).trans ?_
  refine (am_e0 rfl rfl).trans ?_
  refine (am_e0 rfl rfl).trans ?_
  refine am_lets (L := fun v101 => [(2, x0), (0, x1), (0, x2), (0, x3), (0, 0), (0, v101)]) (fun v101 => ?_)
  refine (am_e1 rfl rfl).trans ?_
  exact (am_e5 rfl).trans rfl
set_option maxRecDepth 10000 in
theorem aq_160_45 (d : Nat) (x0 x1 x2 x3 x5 : Int) (M : am_M) : am_Ex d 160 45 [(2, x0), (0, x1), (0, x2), (0, x3), am_N, (0, x5)] [] M = (am_let (am_w32 (x5 + 1)) fun v101 => am_Ex d 160 7 [(2, x0), (0, x1), (0, x2), (0, x3), (0, 1), (0, v101)] [] M) := by
  refine (am_e0 rfl rfl).trans ?_
  refine (am_e1 rfl rfl).trans ?_
  refine (am_e0 rfl rfl).trans ?_
  refine (am_e0 rfl rfl).trans ?_
  refine am_lets (L := fun v101 => [(2, x0), (0, x1), (0, x2), (0, x3), (0, 1), (0, v101)]) (fun v101 => ?_)
  refine (am_e1 rfl rfl).trans ?_
  exact (am_e5 rfl).trans rfl
set_option maxRecDepth 10000 in
theorem aq_160_25 (d : Nat) (x0 x1 x2 x4 x5 : Int) (M : am_M) : am_Ex d 160 25 [(2, x0), (0, x1), (0, x2), am_N, (0, x4), (0, x5)] [] M = (if x4 = 0 then (am_g (am_ob x0 11) <| am_g (am_ar (am_rd M x0 0) 20 (am_w32 (18 + x5))) <| (am_Call d 65 [(0, am_rd M (am_rd M x0 0) (am_w32 (18 + x5))), (0, x2)] M).bind fun r104 => if r104.1 = 0 then (am_Ex d 160 48 [(2, x0), (0, x1), (0, x2), (0, 1), am_N, (0, x5)] [] r104.2) else ((am_Call d 65 [(0, x1), (0, x5)] r104.2).bind fun r106 => if r106.1 = 0 then (am_Ex d 160 48 [(2, x0), (0, x1), (0, x2), (0, 1), am_N, (0, x5)] [] r106.2) else (am_Ex d 160 45 [(2, x0), (0, x1), (0, x2), (0, 1), am_N, (0, x5)] [] r106.2))) else (am_Ex d 160 45 [(2, x0), (0, x1), (0, x2), (0, 1), am_N, (0, x5)] [] M)) := by
  refine (am_e0 rfl rfl).trans ?_
  refine (am_e1 rfl rfl).trans ?_
  refine (am_e0 rfl rfl).trans ?_
  refine (am_e0 rfl rfl).trans ?_
  refine (am_z_ne rfl).trans (am_if_congr (fun c101 => ?_) (fun c101 => ?_))
  · refine (am_e0 rfl rfl).trans ?_
    refine (am_gf (c := 11) (t := 2) rfl rfl rfl).trans (am_g_congr fun h102 => ?_)
    refine (am_e0 rfl rfl).trans ?_
    refine (am_e0 rfl rfl).trans ?_
    refine (am_e0 rfl rfl).trans ?_
    refine (am_ial rfl).trans (am_g_congr fun h103 => ?_)
    refine (am_e0 rfl rfl).trans ?_
    refine (am_cal3 (z := 65) (k := 2) (c := true) rfl rfl rfl rfl rfl rfl rfl rfl).trans ((am_g_t rfl).trans ?_)
    refine am_bind_congr fun r104 => ?_
    show am_Ex d 160 39 [(2, x0), (0, x1), (0, x2), (0, 1), (0, x4), (0, x5)] [(0, r104.1)] r104.2 = _
    refine (am_z_eq rfl).trans (am_if_congr (fun c105 => ?_) (fun c105 => ?_))
    · exact (am_e5 rfl).trans rfl
    · refine (am_e0 rfl rfl).trans ?_
      refine (am_e0 rfl rfl).trans ?_
      refine (am_cal3 (z := 65) (k := 2) (c := true) rfl rfl rfl rfl rfl rfl rfl rfl).trans ((am_g_t rfl).trans ?_)
      refine am_bind_congr fun r106 => ?_
      show am_Ex d 160 43 [(2, x0), (0, x1), (0, x2), (0, 1), (0, x4), (0, x5)] [(0, r106.1)] r106.2 = _
      refine (am_z_eq rfl).trans (am_if_congr (fun c107 => ?_) (fun c107 => ?_))
      · exact (am_e5 rfl).trans rfl
      · exact (am_e5 rfl).trans rfl
  · exact (am_e5 rfl).trans rfl
set_option maxRecDepth 10000 in
theorem aq_160_57 (d : Nat) (M : am_M) : am_Ex d 160 57 [am_N, am_N, am_N, am_N, am_N, am_N] [] M = (some (1, M)) := by
  refine (am_e0 rfl rfl).trans ?_
  refine (am_e1 rfl rfl).trans ?_
  exact (am_e4i rfl rfl).trans rfl
-- 161: UnlearnedHandModel.inLowest(JJZ)J
set_option maxRecDepth 10000 in
theorem aq_161 (d : Nat) (x0 x1 x2 : Int) (M : am_M) : am_Call d 161 [(1, x0), (1, x1), (0, x2)] M = ((am_Call d 94 [(1, x1), (1, x0)] M).bind fun r101 => if x2 = 0 then (if (r101.1 : Int) = 0 then none else some (am_ldiv x0 r101.1, r101.2)) else (if (r101.1 : Int) = 0 then none else some (am_ldiv x1 r101.1, r101.2))) := by
  show am_Ex d 161 0 [(1, x0), am_N, (1, x1), am_N, (0, x2), am_N, am_N] [] M = _
  refine (am_e0 rfl rfl).trans ?_
  refine (am_e0 rfl rfl).trans ?_
  refine (am_cal3 (z := 94) (k := 2) (c := true) rfl rfl rfl rfl rfl rfl rfl rfl).trans ((am_g_t rfl).trans ?_)
  refine am_bind_congr fun r101 => ?_
  show am_Ex d 161 3 [(1, x0), am_N, (1, x1), am_N, (0, x2), am_N, am_N] [(1, r101.1)] r101.2 = _
  refine (am_e0 rfl rfl).trans ?_
  refine (am_e0 rfl rfl).trans ?_
  refine (am_z_eq rfl).trans (am_if_congr (fun c102 => ?_) (fun c102 => ?_))
  · refine (am_e0 rfl rfl).trans ?_
    refine (am_e0 rfl rfl).trans ?_
    refine (am_dvl rfl).trans (am_if_congr (fun _ => rfl) (fun c103 => ?_))
    exact (am_e4l rfl rfl).trans rfl
  · refine (am_e0 rfl rfl).trans ?_
    refine (am_e0 rfl rfl).trans ?_
    refine (am_dvl rfl).trans (am_if_congr (fun _ => rfl) (fun c104 => ?_))
    refine (am_e1 rfl rfl).trans ?_
    exact (am_e4l rfl rfl).trans rfl
-- 162: UnlearnedHandModel.laysTurns(I)I
set_option maxRecDepth 10000 in
theorem aq_162 (d : Nat) (x0 x1 : Int) (M : am_M) : am_Call d 162 [(2, x0), (0, x1)] M = (am_Ex d 162 5 [(2, x0), (0, x1), (0, 0), (0, 0)] [] M) := by
  show am_Ex d 162 0 [(2, x0), (0, x1), am_N, am_N] [] M = _
  refine (am_e0 rfl rfl).trans ?_
  refine (am_e0 rfl rfl).trans ?_
  refine (am_e0 rfl rfl).trans ?_
  refine (am_e0 rfl rfl).trans ?_
  exact (am_e5 rfl).trans rfl
set_option maxRecDepth 10000 in
theorem aq_162_5 (d : Nat) (x0 x1 x2 x3 : Int) (M : am_M) : am_Ex d 162 5 [(2, x0), (0, x1), (0, x2), (0, x3)] [] M = (am_g (am_ob x0 11) <| am_g (am_ar (am_rd M x0 0) 20 0) <| if x3 < am_rd M (am_rd M x0 0) 0 then ((am_Call d 65 [(0, x1), (0, x3)] M).bind fun r104 => if r104.1 = 0 then (am_Ex d 162 22 [(2, x0), (0, x1), (0, x2), (0, x3)] [] r104.2) else (am_g (am_ar (am_rd r104.2 x0 50) 20 x2) <| am_let (am_wr r104.2 (am_rd r104.2 x0 50) x2 x3) fun M107 => am_let (am_w32 (x2 + 1)) fun v108 => am_Ex d 162 22 [(2, x0), (0, x1), (0, v108), (0, x3)] [] M107)) else (some (x2, M))) := by
  refine (am_e0 rfl rfl).trans ?_
  refine (am_e0 rfl rfl).trans ?_
  refine (am_gf (c := 11) (t := 2) rfl rfl rfl).trans (am_g_congr fun h101 => ?_)
  refine (am_e0 rfl rfl).trans ?_
  refine (am_ial rfl).trans (am_g_congr fun h102 => ?_)
  refine (am_i_ge rfl).trans (am_if_congr (fun c103 => ?_) (fun c103 => ?_))
  · refine (am_e0 rfl rfl).trans ?_
    refine (am_e0 rfl rfl).trans ?_
    refine (am_cal3 (z := 65) (k := 2) (c := true) rfl rfl rfl rfl rfl rfl rfl rfl).trans ((am_g_t rfl).trans ?_)
    refine am_bind_congr fun r104 => ?_
    show am_Ex d 162 14 [(2, x0), (0, x1), (0, x2), (0, x3)] [(0, r104.1)] r104.2 = _
    refine (am_z_eq rfl).trans (am_if_congr (fun c105 => ?_) (fun c105 => ?_))
    · exact (am_e5 rfl).trans rfl
    · refine (am_e0 rfl rfl).trans ?_
      refine (am_gf (c := 11) (t := 2) rfl rfl rfl).trans ((am_g_t h101).trans ?_)
      refine (am_e0 rfl rfl).trans ?_
      refine (am_e0 rfl rfl).trans ?_
      refine (am_ias rfl).trans (am_g_congr fun h106 => ?_)
      refine am_letm (fun M107 => ?_)
      refine (am_e0 rfl rfl).trans ?_
      refine am_lets (L := fun v108 => [(2, x0), (0, x1), (0, v108), (0, x3)]) (fun v108 => ?_)
      exact (am_e5 rfl).trans rfl
  · refine (am_e0 rfl rfl).trans ?_
    exact (am_e4i rfl rfl).trans rfl
set_option maxRecDepth 10000 in
theorem aq_162_22 (d : Nat) (x0 x1 x2 x3 : Int) (M : am_M) : am_Ex d 162 22 [(2, x0), (0, x1), (0, x2), (0, x3)] [] M = (am_let (am_w32 (x3 + 1)) fun v101 => am_Ex d 162 5 [(2, x0), (0, x1), (0, x2), (0, v101)] [] M) := by
  refine (am_e0 rfl rfl).trans ?_
  refine am_lets (L := fun v101 => [(2, x0), (0, x1), (0, x2), (0, v101)]) (fun v101 => ?_)
  refine (am_e1 rfl rfl).trans ?_
  exact (am_e5 rfl).trans rfl
-- 163: UnlearnedHandModel.laysOrder(II)V
set_option maxRecDepth 10000 in
theorem aq_163 (d : Nat) (x0 x1 x2 : Int) (M : am_M) : am_Call d 163 [(2, x0), (0, x1), (0, x2)] M = (am_Ex d 163 7 [(2, x0), am_N, (0, x2), (0, x1), (0, 0), (0, 0), am_N, am_N] [] M) := by
  show am_Ex d 163 0 [(2, x0), (0, x1), (0, x2), am_N, am_N, am_N, am_N, am_N] [] M = _
  refine (am_e0 rfl rfl).trans ?_
  refine (am_e0 rfl rfl).trans ?_
  refine (am_e0 rfl rfl).trans ?_
  refine (am_e0 rfl rfl).trans ?_
  refine (am_e0 rfl rfl).trans ?_
  refine (am_e0 rfl rfl).trans ?_
  exact (am_e5 rfl).trans rfl
set_option maxRecDepth 10000 in
theorem aq_163_7 (d : Nat) (x0 x2 x3 x4 x5 : Int) (M : am_M) : am_Ex d 163 7 [(2, x0), am_N, (0, x2), (0, x3), (0, x4), (0, x5), am_N, am_N] [] M = (if x5 < x2 then ((am_Call d 95 [(0, am_w32 ((am_w32 (x2 - 1)) - x5))] M).bind fun r102 => if (r102.1 : Int) = 0 then none else am_let (am_div x3 r102.1) fun v104 => (am_Call d 95 [(0, am_w32 ((am_w32 (x2 - 1)) - x5))] r102.2).bind fun r105 => if (r105.1 : Int) = 0 then none else am_let (am_rem x3 r105.1) fun v107 => am_Ex d 163 31 [(2, x0), am_N, (0, x2), (0, v107), (0, x4), (0, x5), (0, v104), (0, 0)] [] r105.2) else (some (0, M))) := by
  refine (am_e0 rfl rfl).trans ?_
  refine (am_e0 rfl rfl).trans ?_
  refine (am_i_ge rfl).trans (am_if_congr (fun c101 => ?_) (fun c101 => ?_))
  · refine (am_e0 rfl rfl).trans ?_
    refine (am_e0 rfl rfl).trans ?_
    refine (am_e0 rfl rfl).trans ?_
    refine (am_e0 rfl rfl).trans ?_
    refine (am_e0 rfl rfl).trans ?_
    refine (am_e0 rfl rfl).trans ?_
    refine (am_cal3 (z := 95) (k := 1) (c := true) rfl rfl rfl rfl rfl rfl rfl rfl).trans ((am_g_t rfl).trans ?_)
    refine am_bind_congr fun r102 => ?_
    show am_Ex d 163 17 [(2, x0), am_N, (0, x2), (0, x3), (0, x4), (0, x5), am_N, am_N] [(0, r102.1), (0, x3)] r102.2 = _
    refine (am_dvi rfl).trans (am_if_congr (fun _ => rfl) (fun c103 => ?_))
    refine (am_e0 rfl rfl).trans ?_
    refine am_lets (L := fun v104 => [(2, x0), am_N, (0, x2), (0, x3), (0, x4), (0, x5), (0, v104), am_N]) (fun v104 => ?_)
    refine (am_e0 rfl rfl).trans ?_
    refine (am_e0 rfl rfl).trans ?_
    refine (am_e0 rfl rfl).trans ?_
    refine (am_e0 rfl rfl).trans ?_
    refine (am_e0 rfl rfl).trans ?_
    refine (am_e0 rfl rfl).trans ?_
    refine (am_cal3 (z := 95) (k := 1) (c := true) rfl rfl rfl rfl rfl rfl rfl rfl).trans ((am_g_t rfl).trans ?_)
    refine am_bind_congr fun r105 => ?_
    show am_Ex d 163 26 [(2, x0), am_N, (0, x2), (0, x3), (0, x4), (0, x5), (0, v104), am_N] [(0, r105.1), (0, x3)] r105.2 = _
    refine (am_rmi rfl).trans (am_if_congr (fun _ => rfl) (fun c106 => ?_))
    refine (am_e0 rfl rfl).trans ?_
    refine am_lets (L := fun v107 => [(2, x0), am_N, (0, x2), (0, v107), (0, x4), (0, x5), (0, v104), am_N]) (fun v107 => ?_)
    refine (am_e0 rfl rfl).trans ?_
    refine (am_e0 rfl rfl).trans ?_
    exact (am_e5 rfl).trans rfl
  · exact (am_e4v rfl rfl).trans rfl
set_option maxRecDepth 10000 in
theorem aq_163_31 (d : Nat) (x0 x2 x3 x4 x5 x6 x7 : Int) (M : am_M) : am_Ex d 163 31 [(2, x0), am_N, (0, x2), (0, x3), (0, x4), (0, x5), (0, x6), (0, x7)] [] M = ((am_Call d 65 [(0, x4), (0, x7)] M).bind fun r101 => if r101.1 = 0 then (if x6 ≤ 0 then (am_let (am_or x4 (am_shl 1 x7)) fun v104 => am_g (am_ob x0 11) <| am_g (am_ar (am_rd r101.2 x0 50) 20 x7) <| am_g (am_ar (am_rd r101.2 x0 51) 20 x5) <| am_let (am_wr r101.2 (am_rd r101.2 x0 51) x5 (am_rd r101.2 (am_rd r101.2 x0 50) x7)) fun M108 => am_let (am_w32 (x5 + 1)) fun v109 => am_Ex d 163 7 [(2, x0), am_N, (0, x2), (0, x3), (0, v104), (0, v109), am_N, am_N] [] M108) else (am_Ex d 163 38 [(2, x0), am_N, (0, x2), (0, x3), (0, x4), (0, x5), (0, x6), (0, x7)] [] r101.2)) else (am_Ex d 163 38 [(2, x0), am_N, (0, x2), (0, x3), (0, x4), (0, x5), (0, x6), (0, x7)] [] r101.2)) := by
  refine (am_e0 rfl rfl).trans ?_
  refine (am_e0 rfl rfl).trans ?_
  refine (am_cal3 (z := 65) (k := 2) (c := true) rfl rfl rfl rfl rfl rfl rfl rfl).trans ((am_g_t rfl).trans ?_)
  refine am_bind_congr fun r101 => ?_
  show am_Ex d 163 34 [(2, x0), am_N, (0, x2), (0, x3), (0, x4), (0, x5), (0, x6), (0, x7)] [(0, r101.1)] r101.2 = _
  refine (am_z_ne rfl).trans (am_if_congr (fun c102 => ?_) (fun c102 => ?_))
  · refine (am_e0 rfl rfl).trans ?_
    refine (am_z_le rfl).trans (am_if_congr (fun c103 => ?_) (fun c103 => ?_))
    · refine (am_e0 rfl rfl).trans ?_
      refine (am_e0 rfl rfl).trans ?_
      refine (am_e0 rfl rfl).trans ?_
      refine (am_e0 rfl rfl).trans ?_
      refine (am_e0 rfl rfl).trans ?_
      refine (am_e0 rfl rfl).trans ?_
      refine am_lets (L := fun v104 => [(2, x0), am_N, (0, x2), (0, x3), (0, v104), (0, x5), (0, x6), (0, x7)]) (fun v104 => ?_)
      refine (am_e0 rfl rfl).trans ?_
      refine (am_gf (c := 11) (t := 2) rfl rfl rfl).trans (am_g_congr fun h105 => ?_)
      refine (am_e0 rfl rfl).trans ?_
      refine (am_e0 rfl rfl).trans ?_
      refine (am_gf (c := 11) (t := 2) rfl rfl rfl).trans ((am_g_t h105).trans ?_)
      refine (am_e0 rfl rfl).trans ?_
      refine (am_ial rfl).trans (am_g_congr fun h106 => ?_)
      refine (am_ias rfl).trans (am_g_congr fun h107 => ?_)
      refine am_letm (fun M108 => ?_)
      refine (am_e0 rfl rfl).trans ?_
      refine am_lets (L := fun v109 => [(2, x0), am_N, (0, x2), (0, x3), (0, v104), (0, v109), (0, x6), (0, x7)]) (fun v109 => ?_)
      refine (am_e1 rfl rfl).trans ?_
      exact (am_e5 rfl).trans rfl
    · exact (am_e5 rfl).trans rfl
  · exact (am_e5 rfl).trans rfl
set_option maxRecDepth 10000 in
theorem aq_163_38 (d : Nat) (x0 x2 x3 x4 x5 x6 x7 : Int) (M : am_M) : am_Ex d 163 38 [(2, x0), am_N, (0, x2), (0, x3), (0, x4), (0, x5), (0, x6), (0, x7)] [] M = ((am_Call d 65 [(0, x4), (0, x7)] M).bind fun r101 => if r101.1 = 0 then (am_let (am_w32 (x6 - 1)) fun v103 => am_let (am_w32 (x7 + 1)) fun v104 => am_Ex d 163 31 [(2, x0), am_N, (0, x2), (0, x3), (0, x4), (0, x5), (0, v103), (0, v104)] [] r101.2) else (am_let (am_w32 (x6 - 0)) fun v105 => am_let (am_w32 (x7 + 1)) fun v106 => am_Ex d 163 31 [(2, x0), am_N, (0, x2), (0, x3), (0, x4), (0, x5), (0, v105), (0, v106)] [] r101.2)) := by
  refine (am_e0 rfl rfl).trans ?_
  refine (am_e0 rfl rfl).trans ?_
  refine (am_e0 rfl rfl).trans ?_
  refine (am_cal3 (z := 65) (k := 2) (c := true) rfl rfl rfl rfl rfl rfl rfl rfl).trans ((am_g_t rfl).trans ?_)
  refine am_bind_congr fun r101 => ?_
  show am_Ex d 163 42 [(2, x0), am_N, (0, x2), (0, x3), (0, x4), (0, x5), (0, x6), (0, x7)] [(0, r101.1), (0, x6)] r101.2 = _
  refine (am_z_eq rfl).trans (am_if_congr (fun c102 => ?_) (fun c102 => ?_))
  · refine (am_e0 rfl rfl).trans ?_
    refine (am_e0 rfl rfl).trans ?_
    refine (am_e0 rfl rfl).trans ?_
    refine am_lets (L := fun v103 => [(2, x0), am_N, (0, x2), (0, x3), (0, x4), (0, x5), (0, v103), (0, x7)]) (fun v103 => ?_)
    refine (am_e0 rfl rfl).trans ?_
    refine am_lets (L := fun v104 => [(2, x0), am_N, (0, x2), (0, x3), (0, x4), (0, x5), (0, v103), (0, v104)]) (fun v104 => ?_)
    refine (am_e1 rfl rfl).trans ?_
    exact (am_e5 rfl).trans rfl
  · refine (am_e0 rfl rfl).trans ?_
    refine (am_e1 rfl rfl).trans ?_
    refine (am_e0 rfl rfl).trans ?_
    refine (am_e0 rfl rfl).trans ?_
    refine am_lets (L := fun v105 => [(2, x0), am_N, (0, x2), (0, x3), (0, x4), (0, x5), (0, v105), (0, x7)]) (fun v105 => ?_)
    refine (am_e0 rfl rfl).trans ?_
    refine am_lets (L := fun v106 => [(2, x0), am_N, (0, x2), (0, x3), (0, x4), (0, x5), (0, v105), (0, v106)]) (fun v106 => ?_)
    refine (am_e1 rfl rfl).trans ?_
    exact (am_e5 rfl).trans rfl
-- 164: UnlearnedHandModel.isOrder(II)Z
set_option maxRecDepth 10000 in
theorem aq_164 (d : Nat) (x0 x1 x2 : Int) (M : am_M) : am_Call d 164 [(2, x0), (0, x1), (0, x2)] M = (am_Ex d 164 5 [(2, x0), (0, x1), (0, x2), (0, 0), (0, 0), am_N, am_N] [] M) := by
  show am_Ex d 164 0 [(2, x0), (0, x1), (0, x2), am_N, am_N, am_N, am_N] [] M = _
  refine (am_e0 rfl rfl).trans ?_
  refine (am_e0 rfl rfl).trans ?_
  refine (am_e0 rfl rfl).trans ?_
  refine (am_e0 rfl rfl).trans ?_
  exact (am_e5 rfl).trans rfl
set_option maxRecDepth 10000 in
theorem aq_164_5 (d : Nat) (x0 x1 x2 x3 x4 : Int) (M : am_M) : am_Ex d 164 5 [(2, x0), (0, x1), (0, x2), (0, x3), (0, x4), am_N, am_N] [] M = (if x4 < x1 then (am_Ex d 164 13 [(2, x0), (0, x1), (0, x2), (0, x3), (0, x4), (0, 0), (0, 0)] [] M) else (some (1, M))) := by
  refine (am_e0 rfl rfl).trans ?_
  refine (am_e0 rfl rfl).trans ?_
  refine (am_i_ge rfl).trans (am_if_congr (fun c101 => ?_) (fun c101 => ?_))
  · refine (am_e0 rfl rfl).trans ?_
    refine (am_e0 rfl rfl).trans ?_
    refine (am_e0 rfl rfl).trans ?_
    refine (am_e0 rfl rfl).trans ?_
    exact (am_e5 rfl).trans rfl
  · refine (am_e0 rfl rfl).trans ?_
    exact (am_e4i rfl rfl).trans rfl
set_option maxRecDepth 10000 in
theorem aq_164_13 (d : Nat) (x0 x1 x2 x3 x4 x5 x6 : Int) (M : am_M) : am_Ex d 164 13 [(2, x0), (0, x1), (0, x2), (0, x3), (0, x4), (0, x5), (0, x6)] [] M = (am_g (am_ob x0 11) <| am_g (am_ar (am_rd M x0 0) 20 0) <| if x6 < am_rd M (am_rd M x0 0) 0 then ((am_Call d 65 [(0, x2), (0, x6)] M).bind fun r104 => if r104.1 = 0 then (am_let (am_or x5 0) fun v106 => am_let (am_w32 (x6 + 1)) fun v107 => am_Ex d 164 13 [(2, x0), (0, x1), (0, x2), (0, x3), (0, x4), (0, v106), (0, v107)] [] r104.2) else (am_g (am_ar (am_rd r104.2 x0 0) 20 (am_w32 (18 + x6))) <| am_g (am_ar (am_rd r104.2 x0 51) 20 x4) <| (am_Call d 65 [(0, am_rd r104.2 (am_rd r104.2 x0 0) (am_w32 (18 + x6))), (0, am_rd r104.2 (am_rd r104.2 x0 51) x4)] r104.2).bind fun r110 => if r110.1 = 0 then (am_let (am_or x5 0) fun v112 => am_let (am_w32 (x6 + 1)) fun v113 => am_Ex d 164 13 [(2, x0), (0, x1), (0, x2), (0, x3), (0, x4), (0, v112), (0, v113)] [] r110.2) else (am_let (am_or x5 (am_shl 1 x6)) fun v114 => am_let (am_w32 (x6 + 1)) fun v115 => am_Ex d 164 13 [(2, x0), (0, x1), (0, x2), (0, x3), (0, x4), (0, v114), (0, v115)] [] r110.2))) else (if x5 = 0 then (am_Ex d 164 54 [(2, x0), (0, x1), (0, x2), (0, x3), (0, x4), am_N, am_N] [] M) else (if am_and x5 x3 = 0 then (some (0, M)) else (am_Ex d 164 54 [(2, x0), (0, x1), (0, x2), (0, x3), (0, x4), am_N, am_N] [] M)))) := by
  refine (am_e0 rfl rfl).trans ?_
  refine (am_e0 rfl rfl).trans ?_
  refine (am_gf (c := 11) (t := 2) rfl rfl rfl).trans (am_g_congr fun h101 => ?_)
  refine (am_e0 rfl rfl).trans ?_
  refine (am_ial rfl).trans (am_g_congr fun h102 => ?_)
  refine (am_i_ge rfl).trans (am_if_congr (fun c103 => ?_) (fun c103 => ?_))
  · refine (am_e0 rfl rfl).trans ?_
    refine (am_e0 rfl rfl).trans ?_
    refine (am_e0 rfl rfl).trans ?_
    refine (am_cal3 (z := 65) (k := 2) (c := true) rfl rfl rfl rfl rfl rfl rfl rfl).trans ((am_g_t rfl).trans ?_)
    refine am_bind_congr fun r104 => ?_
    show am_Ex d 164 23 [(2, x0), (0, x1), (0, x2), (0, x3), (0, x4), (0, x5), (0, x6)] [(0, r104.1), (0, x5)] r104.2 = _
    refine (am_z_eq rfl).trans (am_if_congr (fun c105 => ?_) (fun c105 => ?_))
    · refine (am_e0 rfl rfl).trans ?_
      refine (am_e0 rfl rfl).trans ?_
      refine (am_e0 rfl rfl).trans ?_
      refine am_lets (L := fun v106 => [(2, x0), (0, x1), (0, x2), (0, x3), (0, x4), (0, v106), (0, x6)]) (fun v106 => ?_)
      refine (am_e0 rfl rfl).trans ?_
      refine am_lets (L := fun v107 => [(2, x0), (0, x1), (0, x2), (0, x3), (0, x4), (0, v106), (0, v107)]) (fun v107 => ?_)
      refine (am_e1 rfl rfl).trans ?_
      exact (am_e5 rfl).trans rfl
    · refine (am_e0 rfl rfl).trans ?_
      refine (am_gf (c := 11) (t := 2) rfl rfl rfl).trans ((am_g_t h101).trans ?_)
      refine (am_e0 rfl rfl).trans ?_
      refine (am_e0 rfl rfl).trans ?_
      refine (am_e0 rfl rfl).trans ?_
      refine (am_ial rfl).trans (am_g_congr fun h108 => ?_)
      refine (am_e0 rfl rfl).trans ?_
      refine (am_gf (c := 11) (t := 2) rfl rfl rfl).trans ((am_g_t h101).trans ?_)
      refine (am_e0 rfl rfl).trans ?_
      refine (am_ial rfl).trans (am_g_congr fun h109 => ?_)
      refine (am_cal3 (z := 65) (k := 2) (c := true) rfl rfl rfl rfl rfl rfl rfl rfl).trans ((am_g_t rfl).trans ?_)
      refine am_bind_congr fun r110 => ?_
      show am_Ex d 164 35 [(2, x0), (0, x1), (0, x2), (0, x3), (0, x4), (0, x5), (0, x6)] [(0, r110.1), (0, x5)] r110.2 = _
      refine (am_z_eq rfl).trans (am_if_congr (fun c111 => ?_) (fun c111 => ?_))
      · refine (am_e0 rfl rfl).trans ?_
        refine (am_e0 rfl rfl).trans ?_
        refine (am_e0 rfl rfl).trans ?_
        refine am_lets (L := fun v112 => [(2, x0), (0, x1), (0, x2), (0, x3), (0, x4), (0, v112), (0, x6)]) (fun v112 => ?_)
        refine (am_e0 rfl rfl).trans ?_
        refine am_lets (L := fun v113 => [(2, x0), (0, x1), (0, x2), (0, x3), (0, x4), (0, v112), (0, v113)]) (fun v113 => ?_)
        refine (am_e1 rfl rfl).trans ?_
        exact (am_e5 rfl).trans rfl
      · refine (am_e0 rfl rfl).trans ?_
        refine (am_e0 rfl rfl).trans ?_
        refine (am_e0 rfl rfl).trans ?_
        refine (am_e1 rfl rfl).trans ?_
        refine (am_e0 rfl rfl).trans ?_
        refine (am_e0 rfl rfl).trans ?_
        refine am_lets (L := fun v114 => [(2, x0), (0, x1), (0, x2), (0, x3), (0, x4), (0, v114), (0, x6)]) (fun v114 => ?_)
        refine (am_e0 rfl rfl).trans ?_
        refine am_lets (L := fun v115 => [(2, x0), (0, x1), (0, x2), (0, x3), (0, x4), (0, v114), (0, v115)]) (fun v115 => ?_)
        refine (am_e1 rfl rfl).trans ?_
        exact (am_e5 rfl).trans rfl
  · refine (am_e0 rfl rfl).trans ?_
    refine (am_z_eq rfl).trans (am_if_congr (fun c116 => ?_) (fun c116 => ?_))
    · exact (am_e5 rfl).trans rfl
    · refine (am_e0 rfl rfl).trans ?_
      refine (am_e0 rfl rfl).trans ?_
      refine (am_e0 rfl rfl).trans ?_
      refine (am_z_ne rfl).trans (am_if_congr (fun c117 => ?_) (fun c117 => ?_))
      · refine (am_e0 rfl rfl).trans ?_
        exact (am_e4i rfl rfl).trans rfl
      · exact (am_e5 rfl).trans rfl
set_option maxRecDepth 10000 in
theorem aq_164_54 (d : Nat) (x0 x1 x2 x3 x4 : Int) (M : am_M) : am_Ex d 164 54 [(2, x0), (0, x1), (0, x2), (0, x3), (0, x4), am_N, am_N] [] M = (am_g (am_ob x0 11) <| am_g (am_ar (am_rd M x0 51) 20 x4) <| am_let (am_or x3 (am_shl 1 (am_rd M (am_rd M x0 51) x4))) fun v103 => am_let (am_w32 (x4 + 1)) fun v104 => am_Ex d 164 5 [(2, x0), (0, x1), (0, x2), (0, v103), (0, v104), am_N, am_N] [] M) := by
  refine (am_e0 rfl rfl).trans ?_
  refine (am_e0 rfl rfl).trans ?_
  refine (am_e0 rfl rfl).trans ?_
  refine (am_gf (c := 11) (t := 2) rfl rfl rfl).trans (am_g_congr fun h101 => ?_)
  refine (am_e0 rfl rfl).trans ?_
  refine (am_ial rfl).trans (am_g_congr fun h102 => ?_)
  refine (am_e0 rfl rfl).trans ?_
  refine (am_e0 rfl rfl).trans ?_
  refine (am_e0 rfl rfl).trans ?_
  refine am_lets (L := fun v103 => [(2, x0), (0, x1), (0, x2), (0, v103), (0, x4), am_N, am_N]) (fun v103 => ?_)
  refine (am_e0 rfl rfl).trans ?_
  refine am_lets (L := fun v104 => [(2, x0), (0, x1), (0, x2), (0, v103), (0, v104), am_N, am_N]) (fun v104 => ?_)
  refine (am_e1 rfl rfl).trans ?_
  exact (am_e5 rfl).trans rfl
-- 165: UnlearnedHandModel.worthOf(I)I
set_option maxRecDepth 10000 in
theorem aq_165 (d : Nat) (x0 x1 : Int) (M : am_M) : am_Call d 165 [(2, x0), (0, x1)] M = (am_Ex d 165 5 [(2, x0), (0, x1), (0, 0), (0, 0)] [] M) := by
  show am_Ex d 165 0 [(2, x0), (0, x1), am_N, am_N] [] M = _
  refine (am_e0 rfl rfl).trans ?_
  refine (am_e0 rfl rfl).trans ?_
  refine (am_e0 rfl rfl).trans ?_
  refine (am_e0 rfl rfl).trans ?_
  exact (am_e5 rfl).trans rfl
set_option maxRecDepth 10000 in
theorem aq_165_5 (d : Nat) (x0 x1 x2 x3 : Int) (M : am_M) : am_Ex d 165 5 [(2, x0), (0, x1), (0, x2), (0, x3)] [] M = (am_g (am_ob x0 11) <| am_g (am_ar (am_rd M x0 0) 20 0) <| if x3 < am_rd M (am_rd M x0 0) 0 then ((am_Call d 65 [(0, x1), (0, x3)] M).bind fun r104 => if r104.1 = 0 then (am_let (am_w32 (x2 + 0)) fun v106 => am_let (am_w32 (x3 + 1)) fun v107 => am_Ex d 165 5 [(2, x0), (0, x1), (0, v106), (0, v107)] [] r104.2) else (am_g (am_ar (am_rd r104.2 x0 0) 20 (am_w32 (10 + x3))) <| am_let (am_w32 (x2 + (am_rd r104.2 (am_rd r104.2 x0 0) (am_w32 (10 + x3))))) fun v109 => am_let (am_w32 (x3 + 1)) fun v110 => am_Ex d 165 5 [(2, x0), (0, x1), (0, v109), (0, v110)] [] r104.2)) else (some (x2, M))) := by
  refine (am_e0 rfl rfl).trans ?_
  refine (am_e0 rfl rfl).trans ?_
  refine (am_gf (c := 11) (t := 2) rfl rfl rfl).trans (am_g_congr fun h101 => ?_)
  refine (am_e0 rfl rfl).trans ?_
  refine (am_ial rfl).trans (am_g_congr fun h102 => ?_)
  refine (am_i_ge rfl).trans (am_if_congr (fun c103 => ?_) (fun c103 => ?_))
  · refine (am_e0 rfl rfl).trans ?_
    refine (am_e0 rfl rfl).trans ?_
    refine (am_e0 rfl rfl).trans ?_
    refine (am_cal3 (z := 65) (k := 2) (c := true) rfl rfl rfl rfl rfl rfl rfl rfl).trans ((am_g_t rfl).trans ?_)
    refine am_bind_congr fun r104 => ?_
    show am_Ex d 165 15 [(2, x0), (0, x1), (0, x2), (0, x3)] [(0, r104.1), (0, x2)] r104.2 = _
    refine (am_z_eq rfl).trans (am_if_congr (fun c105 => ?_) (fun c105 => ?_))
    · refine (am_e0 rfl rfl).trans ?_
      refine (am_e0 rfl rfl).trans ?_
      refine (am_e0 rfl rfl).trans ?_
      refine am_lets (L := fun v106 => [(2, x0), (0, x1), (0, v106), (0, x3)]) (fun v106 => ?_)
      refine (am_e0 rfl rfl).trans ?_
      refine am_lets (L := fun v107 => [(2, x0), (0, x1), (0, v106), (0, v107)]) (fun v107 => ?_)
      refine (am_e1 rfl rfl).trans ?_
      exact (am_e5 rfl).trans rfl
    · refine (am_e0 rfl rfl).trans ?_
      refine (am_gf (c := 11) (t := 2) rfl rfl rfl).trans ((am_g_t h101).trans ?_)
      refine (am_e0 rfl rfl).trans ?_
      refine (am_e0 rfl rfl).trans ?_
      refine (am_e0 rfl rfl).trans ?_
      refine (am_ial rfl).trans (am_g_congr fun h108 => ?_)
      refine (am_e1 rfl rfl).trans ?_
      refine (am_e0 rfl rfl).trans ?_
      refine (am_e0 rfl rfl).trans ?_
      refine am_lets (L := fun v109 => [(2, x0), (0, x1), (0, v109), (0, x3)]) (fun v109 => ?_)
      refine (am_e0 rfl rfl).trans ?_
      refine am_lets (L := fun v110 => [(2, x0), (0, x1), (0, v109), (0, v110)]) (fun v110 => ?_)
      refine (am_e1 rfl rfl).trans ?_
      exact (am_e5 rfl).trans rfl
  · refine (am_e0 rfl rfl).trans ?_
    exact (am_e4i rfl rfl).trans rfl
-- 166: UnlearnedHandModel.hadByAll(I)I
set_option maxRecDepth 10000 in
theorem aq_166 (d : Nat) (x0 x1 : Int) (M : am_M) : am_Call d 166 [(2, x0), (0, x1)] M = (am_Ex d 166 5 [(2, x0), (0, x1), (0, 0), (0, 0)] [] M) := by
  show am_Ex d 166 0 [(2, x0), (0, x1), am_N, am_N] [] M = _
  refine (am_e0 rfl rfl).trans ?_
  refine (am_e0 rfl rfl).trans ?_
  refine (am_e0 rfl rfl).trans ?_
  refine (am_e0 rfl rfl).trans ?_
  exact (am_e5 rfl).trans rfl
set_option maxRecDepth 10000 in
theorem aq_166_5 (d : Nat) (x0 x1 x2 x3 : Int) (M : am_M) : am_Ex d 166 5 [(2, x0), (0, x1), (0, x2), (0, x3)] [] M = (am_g (am_ob x0 11) <| am_g (am_ar (am_rd M x0 0) 20 1) <| if x3 < am_rd M (am_rd M x0 0) 1 then ((am_Call d 65 [(0, x1), (0, x3)] M).bind fun r104 => if r104.1 = 0 then (am_let (am_or x2 0) fun v106 => am_let (am_w32 (x3 + 1)) fun v107 => am_Ex d 166 5 [(2, x0), (0, x1), (0, v106), (0, v107)] [] r104.2) else (am_g (am_ar (am_rd r104.2 x0 53) 20 x3) <| am_let (am_or x2 (am_rd r104.2 (am_rd r104.2 x0 53) x3)) fun v109 => am_let (am_w32 (x3 + 1)) fun v110 => am_Ex d 166 5 [(2, x0), (0, x1), (0, v109), (0, v110)] [] r104.2)) else (some (x2, M))) := by
  refine (am_e0 rfl rfl).trans ?_
  refine (am_e0 rfl rfl).trans ?_
  refine (am_gf (c := 11) (t := 2) rfl rfl rfl).trans (am_g_congr fun h101 => ?_)
  refine (am_e0 rfl rfl).trans ?_
  refine (am_ial rfl).trans (am_g_congr fun h102 => ?_)
  refine (am_i_ge rfl).trans (am_if_congr (fun c103 => ?_) (fun c103 => ?_))
  · refine (am_e0 rfl rfl).trans ?_
    refine (am_e0 rfl rfl).trans ?_
    refine (am_e0 rfl rfl).trans ?_
    refine (am_cal3 (z := 65) (k := 2) (c := true) rfl rfl rfl rfl rfl rfl rfl rfl).trans ((am_g_t rfl).trans ?_)
    refine am_bind_congr fun r104 => ?_
    show am_Ex d 166 15 [(2, x0), (0, x1), (0, x2), (0, x3)] [(0, r104.1), (0, x2)] r104.2 = _
    refine (am_z_eq rfl).trans (am_if_congr (fun c105 => ?_) (fun c105 => ?_))
    · refine (am_e0 rfl rfl).trans ?_
      refine (am_e0 rfl rfl).trans ?_
      refine (am_e0 rfl rfl).trans ?_
      refine am_lets (L := fun v106 => [(2, x0), (0, x1), (0, v106), (0, x3)]) (fun v106 => ?_)
      refine (am_e0 rfl rfl).trans ?_
      refine am_lets (L := fun v107 => [(2, x0), (0, x1), (0, v106), (0, v107)]) (fun v107 => ?_)
      refine (am_e1 rfl rfl).trans ?_
      exact (am_e5 rfl).trans rfl
    · refine (am_e0 rfl rfl).trans ?_
      refine (am_gf (c := 11) (t := 2) rfl rfl rfl).trans ((am_g_t h101).trans ?_)
      refine (am_e0 rfl rfl).trans ?_
      refine (am_ial rfl).trans (am_g_congr fun h108 => ?_)
      refine (am_e1 rfl rfl).trans ?_
      refine (am_e0 rfl rfl).trans ?_
      refine (am_e0 rfl rfl).trans ?_
      refine am_lets (L := fun v109 => [(2, x0), (0, x1), (0, v109), (0, x3)]) (fun v109 => ?_)
      refine (am_e0 rfl rfl).trans ?_
      refine am_lets (L := fun v110 => [(2, x0), (0, x1), (0, v109), (0, v110)]) (fun v110 => ?_)
      refine (am_e1 rfl rfl).trans ?_
      exact (am_e5 rfl).trans rfl
  · refine (am_e0 rfl rfl).trans ?_
    exact (am_e4i rfl rfl).trans rfl
-- 167: UnlearnedHandModel.image()I
set_option maxRecDepth 10000 in
theorem aq_167 (d : Nat) (x0 : Int) (M : am_M) : am_Call d 167 [(2, x0)] M = (am_g (am_ob x0 11) <| (am_Call d 67 [(2, x0), (0, 1)] M).bind fun r102 => am_g (am_ar (am_rd r102.2 x0 0) 20 222) <| some (am_rd r102.2 (am_rd r102.2 x0 0) 222, r102.2)) := by
  show am_Ex d 167 0 [(2, x0)] [] M = _
  refine (am_e0 rfl rfl).trans ?_
  refine (am_e0 rfl rfl).trans ?_
  refine (am_cal3 (z := 67) (k := 2) (c := (am_ob x0 11)) rfl rfl rfl rfl rfl rfl rfl rfl).trans (am_g_congr fun h101 => ?_)
  refine am_bind_congr fun r102 => ?_
  show am_Ex d 167 3 [(2, x0)] [] r102.2 = _
  refine (am_e0 rfl rfl).trans ?_
  refine (am_gf (c := 11) (t := 2) rfl rfl rfl).trans ((am_g_t h101).trans ?_)
  refine (am_e0 rfl rfl).trans ?_
  refine (am_ial rfl).trans (am_g_congr fun h103 => ?_)
  exact (am_e4i rfl rfl).trans rfl
-- 168: UnlearnedHandModel.again()I
set_option maxRecDepth 10000 in
theorem aq_168 (d : Nat) (x0 : Int) (M : am_M) : am_Call d 168 [(2, x0)] M = (am_g (am_ob x0 11) <| (am_Call d 67 [(2, x0), (0, 0)] M).bind fun r102 => am_g (am_ar (am_rd r102.2 x0 0) 20 222) <| some (am_rd r102.2 (am_rd r102.2 x0 0) 222, r102.2)) := by
  show am_Ex d 168 0 [(2, x0)] [] M = _
  refine (am_e0 rfl rfl).trans ?_
  refine (am_e0 rfl rfl).trans ?_
  refine (am_cal3 (z := 67) (k := 2) (c := (am_ob x0 11)) rfl rfl rfl rfl rfl rfl rfl rfl).trans (am_g_congr fun h101 => ?_)
  refine am_bind_congr fun r102 => ?_
  show am_Ex d 168 3 [(2, x0)] [] r102.2 = _
  refine (am_e0 rfl rfl).trans ?_
  refine (am_gf (c := 11) (t := 2) rfl rfl rfl).trans ((am_g_t h101).trans ?_)
  refine (am_e0 rfl rfl).trans ?_
  refine (am_ial rfl).trans (am_g_congr fun h103 => ?_)
  exact (am_e4i rfl rfl).trans rfl
-- 169: java/lang/String.length()I
set_option maxRecDepth 10000 in
theorem aq_169 (d : Nat) (x0 : Int) (M : am_M) : am_Call d 169 [(2, x0)] M = (am_g (decide (x0 = -2) || decide (x0 = -3)) <| am_g (decide (x0 - 3 = -5) || decide (x0 - 3 = -6)) <| (am_Call d 100 [(2, x0)] M).bind fun r103 => some (am_shr ((am_str (-5 - (x0 - 3)).toNat).length : Int) r103.1, r103.2)) := by
  show am_Ex d 169 0 [(2, x0)] [] M = _
  refine (am_e0 rfl rfl).trans ?_
  refine (am_rgv rfl).trans (am_g_congr fun h101 => ?_)
  refine (am_rln rfl).trans (am_g_congr fun h102 => ?_)
  refine (am_e0 rfl rfl).trans ?_
  refine (am_cal3 (z := 100) (k := 1) (c := (decide (x0 = -2) || decide (x0 = -3))) rfl rfl rfl rfl rfl rfl rfl rfl).trans ((am_g_t h101).trans ?_)
  refine am_bind_congr fun r103 => ?_
  show am_Ex d 169 5 [(2, x0)] [(0, r103.1), (0, ((am_str (-5 - (x0 - 3)).toNat).length : Int))] r103.2 = _
  refine (am_e0 rfl rfl).trans ?_
  exact (am_e4i rfl rfl).trans rfl
-- 170: java/lang/String.checkIndex(II)V
set_option maxRecDepth 10000 in
theorem aq_170 (d : Nat) (x0 x1 : Int) (M : am_M) : am_Call d 170 [(0, x0), (0, x1)] M = ((am_Call d 104 [(0, x0), (0, x1), (4, 0)] M).bind fun r101 => some (0, r101.2)) := by
  show am_Ex d 170 0 [(0, x0), (0, x1)] [] M = _
  refine (am_e0 rfl rfl).trans ?_
  refine (am_e0 rfl rfl).trans ?_
  refine (am_e11 rfl rfl).trans ?_
  refine (am_cal3 (z := 104) (k := 3) (c := true) rfl rfl rfl rfl rfl rfl rfl rfl).trans ((am_g_t rfl).trans ?_)
  refine am_bind_congr fun r101 => ?_
  show am_Ex d 170 4 [(0, x0), (0, x1)] [(0, r101.1)] r101.2 = _
  refine (am_e0 rfl rfl).trans ?_
  exact (am_e4v rfl rfl).trans rfl
-- 171: java/lang/StringLatin1.indexOf([BIII)I
set_option maxRecDepth 10000 in
theorem aq_171 (d : Nat) (x0 x1 x2 x3 : Int) (M : am_M) : am_Call d 171 [(2, x0), (0, x1), (0, x2), (0, x3)] M = ((am_Call d 102 [(0, x1)] M).bind fun r101 => if r101.1 = 0 then (some ((-1), r101.2)) else (am_let (max x2 0) fun v103 => am_g (decide (x0 = -5) || decide (x0 = -6)) <| am_let (min x3 ((am_str (-5 - x0).toNat).length : Int)) fun v105 => if v103 < v105 then ((am_Call d 103 [(2, x0), (0, x1), (0, v103), (0, v105)] r101.2).bind fun r107 => some (r107.1, r107.2)) else (some ((-1), r101.2)))) := by
  show am_Ex d 171 0 [(2, x0), (0, x1), (0, x2), (0, x3)] [] M = _
  refine (am_e0 rfl rfl).trans ?_
  refine (am_cal3 (z := 102) (k := 1) (c := true) rfl rfl rfl rfl rfl rfl rfl rfl).trans ((am_g_t rfl).trans ?_)
  refine am_bind_congr fun r101 => ?_
  show am_Ex d 171 2 [(2, x0), (0, x1), (0, x2), (0, x3)] [(0, r101.1)] r101.2 = _
  refine (am_z_ne rfl).trans (am_if_congr (fun c102 => ?_) (fun c102 => ?_))
  · refine (am_e0 rfl rfl).trans ?_
    exact (am_e4i rfl rfl).trans rfl
  · refine (am_e0 rfl rfl).trans ?_
    refine (am_e0 rfl rfl).trans ?_
    refine (am_e10 (w := max x2 0) rfl rfl rfl).trans ?_
    refine (am_e0 rfl rfl).trans ?_
    refine am_lets (L := fun v103 => [(2, x0), (0, x1), (0, v103), (0, x3)]) (fun v103 => ?_)
    refine (am_e0 rfl rfl).trans ?_
    refine (am_e0 rfl rfl).trans ?_
    refine (am_rln rfl).trans (am_g_congr fun h104 => ?_)
    refine (am_e10 (w := min x3 ((am_str (-5 - x0).toNat).length : Int)) rfl rfl rfl).trans ?_
    refine (am_e0 rfl rfl).trans ?_
    refine am_lets (L := fun v105 => [(2, x0), (0, x1), (0, v103), (0, v105)]) (fun v105 => ?_)
    refine (am_e0 rfl rfl).trans ?_
    refine (am_e0 rfl rfl).trans ?_
    refine (am_i_lt rfl).trans (am_if_congr (fun c106 => ?_) (fun c106 => ?_))
    · refine (am_e0 rfl rfl).trans ?_
      refine (am_e0 rfl rfl).trans ?_
      refine (am_e0 rfl rfl).trans ?_
      refine (am_e0 rfl rfl).trans ?_
      refine (am_cal3 (z := 103) (k := 4) (c := true) rfl rfl rfl rfl rfl rfl rfl rfl).trans ((am_g_t rfl).trans ?_)
      refine am_bind_congr fun r107 => ?_
      show am_Ex d 171 24 [(2, x0), (0, x1), (0, v103), (0, v105)] [(0, r107.1)] r107.2 = _
      exact (am_e4i rfl rfl).trans rfl
    · refine (am_e0 rfl rfl).trans ?_
      exact (am_e4i rfl rfl).trans rfl
-- 172: UnlearnedHand$Hands.drinkAway(I)V
set_option maxRecDepth 10000 in
theorem aq_172 (d : Nat) (x0 x1 : Int) (M : am_M) : am_Call d 172 [(2, x0), (0, x1)] M = (am_Ex d 172 3 [(2, x0), (0, x1), (0, 0)] [] M) := by
  show am_Ex d 172 0 [(2, x0), (0, x1), am_N] [] M = _
  refine (am_e0 rfl rfl).trans ?_
  refine (am_e0 rfl rfl).trans ?_
  exact (am_e5 rfl).trans rfl
set_option maxRecDepth 10000 in
theorem aq_172_3 (d : Nat) (x0 x1 x2 : Int) (M : am_M) : am_Ex d 172 3 [(2, x0), (0, x1), (0, x2)] [] M = (if x2 < 8 then (am_g (am_ob x0 3) <| (am_Call d 117 [(2, x0), (0, x1), (0, x2)] M).bind fun r103 => if r103.1 = 0 then ((am_Call d 114 [(2, x0), (0, x1), (0, x2)] r103.2).bind fun r105 => (am_Call d 119 [(2, x0), (0, x1), (0, x2), (0, am_w32 (r105.1 - 3))] r105.2).bind fun r106 => am_Ex d 172 22 [(2, x0), (0, x1), (0, x2)] [] r106.2) else (am_Ex d 172 22 [(2, x0), (0, x1), (0, x2)] [] r103.2)) else (some (0, M))) := by
  refine (am_e0 rfl rfl).trans ?_
  refine (am_e0 rfl rfl).trans ?_
  refine (am_i_ge rfl).trans (am_if_congr (fun c101 => ?_) (fun c101 => ?_))
  · refine (am_e0 rfl rfl).trans ?_
    refine (am_e0 rfl rfl).trans ?_
    refine (am_e0 rfl rfl).trans ?_
    refine (am_cal3 (z := 117) (k := 3) (c := (am_ob x0 3)) rfl rfl rfl rfl rfl rfl rfl rfl).trans (am_g_congr fun h102 => ?_)
    refine am_bind_congr fun r103 => ?_
    show am_Ex d 172 10 [(2, x0), (0, x1), (0, x2)] [(0, r103.1)] r103.2 = _
    refine (am_z_ne rfl).trans (am_if_congr (fun c104 => ?_) (fun c104 => ?_))
    · refine (am_e0 rfl rfl).trans ?_
      refine (am_e0 rfl rfl).trans ?_
      refine (am_e0 rfl rfl).trans ?_
      refine (am_e0 rfl rfl).trans ?_
      refine (am_e0 rfl rfl).trans ?_
      refine (am_e0 rfl rfl).trans ?_
      refine (am_cal3 (z := 114) (k := 3) (c := (am_ob x0 3)) rfl rfl rfl rfl rfl rfl rfl rfl).trans ((am_g_t h102).trans ?_)
      refine am_bind_congr fun r105 => ?_
      show am_Ex d 172 18 [(2, x0), (0, x1), (0, x2)] [(0, r105.1), (0, x2), (0, x1), (2, x0)] r105.2 = _
      refine (am_e0 rfl rfl).trans ?_
      refine (am_e0 rfl rfl).trans ?_
      refine (am_cal3 (z := 119) (k := 4) (c := (am_ob x0 3)) rfl rfl rfl rfl rfl rfl rfl rfl).trans ((am_g_t h102).trans ?_)
      refine am_bind_congr fun r106 => ?_
      show am_Ex d 172 21 [(2, x0), (0, x1), (0, x2)] [] r106.2 = _
      exact (am_e5 rfl).trans rfl
    · exact (am_e5 rfl).trans rfl
  · exact (am_e4v rfl rfl).trans rfl
set_option maxRecDepth 10000 in
theorem aq_172_22 (d : Nat) (x0 x1 x2 : Int) (M : am_M) : am_Ex d 172 22 [(2, x0), (0, x1), (0, x2)] [] M = (am_let (am_w32 (x2 + 1)) fun v101 => am_Ex d 172 3 [(2, x0), (0, x1), (0, v101)] [] M) := by
  refine (am_e0 rfl rfl).trans ?_
  refine am_lets (L := fun v101 => [(2, x0), (0, x1), (0, v101)]) (fun v101 => ?_)
  refine (am_e1 rfl rfl).trans ?_
  exact (am_e5 rfl).trans rfl
-- 173: UnlearnedHand$Hands.bringBack(II)V
set_option maxRecDepth 10000 in
theorem aq_173 (d : Nat) (x0 x1 x2 : Int) (M : am_M) : am_Call d 173 [(2, x0), (0, x1), (0, x2)] M = (am_Ex d 173 3 [(2, x0), (0, x1), (0, x2), (0, 0)] [] M) := by
  show am_Ex d 173 0 [(2, x0), (0, x1), (0, x2), am_N] [] M = _
  refine (am_e0 rfl rfl).trans ?_
  refine (am_e0 rfl rfl).trans ?_
  exact (am_e5 rfl).trans rfl
set_option maxRecDepth 10000 in
theorem aq_173_3 (d : Nat) (x0 x1 x2 x3 : Int) (M : am_M) : am_Ex d 173 3 [(2, x0), (0, x1), (0, x2), (0, x3)] [] M = (if x3 < 8 then (if am_and (am_shr x2 x3) 1 = 0 then (am_Ex d 173 21 [(2, x0), (0, x1), (0, x2), (0, x3)] [] M) else (am_g (am_ob x0 3) <| (am_Call d 116 [(2, x0), (0, x1), (0, x3)] M).bind fun r104 => (am_Call d 119 [(2, x0), (0, x1), (0, x3), (0, r104.1)] r104.2).bind fun r105 => am_Ex d 173 21 [(2, x0), (0, x1), (0, x2), (0, x3)] [] r105.2)) else (some (0, M))) := by
  refine (am_e0 rfl rfl).trans ?_
  refine (am_e0 rfl rfl).trans ?_
  refine (am_i_ge rfl).trans (am_if_congr (fun c101 => ?_) (fun c101 => ?_))
  · refine (am_e0 rfl rfl).trans ?_
    refine (am_e0 rfl rfl).trans ?_
    refine (am_e0 rfl rfl).trans ?_
    refine (am_e0 rfl rfl).trans ?_
    refine (am_e0 rfl rfl).trans ?_
    refine (am_z_eq rfl).trans (am_if_congr (fun c102 => ?_) (fun c102 => ?_))
    · exact (am_e5 rfl).trans rfl
    · refine (am_e0 rfl rfl).trans ?_
      refine (am_e0 rfl rfl).trans ?_
      refine (am_e0 rfl rfl).trans ?_
      refine (am_e0 rfl rfl).trans ?_
      refine (am_e0 rfl rfl).trans ?_
      refine (am_e0 rfl rfl).trans ?_
      refine (am_cal3 (z := 116) (k := 3) (c := (am_ob x0 3)) rfl rfl rfl rfl rfl rfl rfl rfl).trans (am_g_congr fun h103 => ?_)
      refine am_bind_congr fun r104 => ?_
      show am_Ex d 173 19 [(2, x0), (0, x1), (0, x2), (0, x3)] [(0, r104.1), (0, x3), (0, x1), (2, x0)] r104.2 = _
      refine (am_cal3 (z := 119) (k := 4) (c := (am_ob x0 3)) rfl rfl rfl rfl rfl rfl rfl rfl).trans ((am_g_t h103).trans ?_)
      refine am_bind_congr fun r105 => ?_
      show am_Ex d 173 20 [(2, x0), (0, x1), (0, x2), (0, x3)] [] r105.2 = _
      exact (am_e5 rfl).trans rfl
  · exact (am_e4v rfl rfl).trans rfl
set_option maxRecDepth 10000 in
theorem aq_173_21 (d : Nat) (x0 x1 x2 x3 : Int) (M : am_M) : am_Ex d 173 21 [(2, x0), (0, x1), (0, x2), (0, x3)] [] M = (am_let (am_w32 (x3 + 1)) fun v101 => am_Ex d 173 3 [(2, x0), (0, x1), (0, x2), (0, v101)] [] M) := by
  refine (am_e0 rfl rfl).trans ?_
  refine am_lets (L := fun v101 => [(2, x0), (0, x1), (0, x2), (0, v101)]) (fun v101 => ?_)
  refine (am_e1 rfl rfl).trans ?_
  exact (am_e5 rfl).trans rfl
-- 174: UnlearnedHand$Laws.valueOf(ILUnlearnedHand$Hands;III)I
set_option maxRecDepth 10000 in
theorem aq_174 (d : Nat) (x0 x1 x2 x3 x4 x5 : Int) (M : am_M) : am_Call d 174 [(2, x0), (0, x1), (2, x2), (0, x3), (0, x4), (0, x5)] M = (am_g (am_ob x0 4) <| (am_Call d 30 [(2, x0), (2, x2), (0, x3), (0, x4), (0, x5)] M).bind fun r102 => am_g (am_ob (am_rd r102.2 x0 0) 2) <| am_let (am_rd r102.2 (am_rd r102.2 x0 0) 12) fun v104 => if v104 < 0 then (am_Ex d 174 23 [(2, x0), (0, x1), am_N, am_N, am_N, (0, x5), am_N, am_N, am_N, am_N] [] r102.2) else (am_g (am_ia (am_rd r102.2 x0 1)) <| if v104 < am_ln (am_rd r102.2 x0 1) then (am_g (am_ar (am_rd r102.2 x0 1) 24 v104 || (am_ar (am_rd r102.2 x0 1) 25 v104 || am_ar (am_rd r102.2 x0 1) 26 v104)) <| am_let (am_rd r102.2 (am_rd r102.2 x0 1) v104) fun v109 => if v109 = 0 then (am_Ex d 174 32 [(2, x0), (0, x1), am_N, am_N, am_N, (0, x5), am_N, am_N, am_N, am_N] [] r102.2) else (am_g (am_ob v109 8) <| (am_Call d 51 [(2, v109), (0, x1)] r102.2).bind fun r112 => if r112.1 = 0 then (am_Ex d 174 32 [(2, x0), (0, x1), am_N, am_N, am_N, (0, x5), am_N, am_N, am_N, am_N] [] r112.2) else (am_g (am_ar (am_rd r112.2 v109 2) 20 x1) <| am_g (am_ar (am_rd r112.2 v109 3) 20 x1) <| (am_Call d 123 [(2, x0), (2, v109), (0, am_rd r112.2 (am_rd r112.2 v109 2) x1), (0, am_rd r112.2 (am_rd r112.2 v109 3) x1)] r112.2).bind fun r116 => if x1 = 0 then (some (r116.1, r116.2)) else (if x1 = 1 then (if r116.1 < (-9) then (some ((-9), r116.2)) else (if r116.1 ≤ 99 then (some (r116.1, r116.2)) else (some (99, r116.2)))) else (if r116.1 < 0 then (some (0, r116.2)) else (if r116.1 ≤ 99 then (some (r116.1, r116.2)) else (some (99, r116.2)))))))) else (am_Ex d 174 23 [(2, x0), (0, x1), am_N, am_N, am_N, (0, x5), am_N, am_N, am_N, am_N] [] r102.2))) := by
  show am_Ex d 174 0 [(2, x0), (0, x1), (2, x2), (0, x3), (0, x4), (0, x5), am_N, am_N, am_N, am_N] [] M = _
  refine (am_e0 rfl rfl).trans ?_
  refine (am_e0 rfl rfl).trans ?_
  refine (am_e0 rfl rfl).trans ?_
  refine (am_e0 rfl rfl).trans ?_
  refine (am_e0 rfl rfl).trans ?_
  refine (am_cal3 (z := 30) (k := 5) (c := (am_ob x0 4)) rfl rfl rfl rfl rfl rfl rfl rfl).trans (am_g_congr fun h101 => ?_)
  refine am_bind_congr fun r102 => ?_
  show am_Ex d 174 6 [(2, x0), (0, x1), (2, x2), (0, x3), (0, x4), (0, x5), am_N, am_N, am_N, am_N] [] r102.2 = _
  refine (am_e0 rfl rfl).trans ?_
  refine (am_gf (c := 4) (t := 2) rfl rfl rfl).trans ((am_g_t h101).trans ?_)
  refine (am_gf (c := 2) (t := 0) rfl rfl rfl).trans (am_g_congr fun h103 => ?_)
  refine (am_e0 rfl rfl).trans ?_
  refine am_lets (L := fun v104 => [(2, x0), (0, x1), (2, x2), (0, x3), (0, x4), (0, x5), (0, v104), am_N, am_N, am_N]) (fun v104 => ?_)
  refine (am_e0 rfl rfl).trans ?_
  refine (am_z_lt rfl).trans (am_if_congr (fun c105 => ?_) (fun c105 => ?_))
  · exact (am_e5 rfl).trans rfl
  · refine (am_e0 rfl rfl).trans ?_
    refine (am_e0 rfl rfl).trans ?_
    refine (am_gf (c := 4) (t := 2) rfl rfl rfl).trans ((am_g_t h101).trans ?_)
    refine (am_aln rfl).trans (am_g_congr fun h106 => ?_)
    refine (am_i_ge rfl).trans (am_if_congr (fun c107 => ?_) (fun c107 => ?_))
    · refine (am_e0 rfl rfl).trans ?_
      refine (am_gf (c := 4) (t := 2) rfl rfl rfl).trans ((am_g_t h101).trans ?_)
      refine (am_e0 rfl rfl).trans ?_
      refine (am_aal rfl).trans (am_g_congr fun h108 => ?_)
      refine (am_e1 rfl rfl).trans ?_
      refine (am_e0 rfl rfl).trans ?_
      refine am_lets (L := fun v109 => [(2, x0), (0, x1), (2, x2), (0, x3), (0, x4), (0, x5), (0, v104), (2, v109), am_N, am_N]) (fun v109 => ?_)
      refine (am_e0 rfl rfl).trans ?_
      refine (am_nul rfl).trans (am_if_congr (fun c110 => ?_) (fun c110 => ?_))
      · exact (am_e5 rfl).trans rfl
      · refine (am_e0 rfl rfl).trans ?_
        refine (am_e0 rfl rfl).trans ?_
        refine (am_cal3 (z := 51) (k := 2) (c := (am_ob v109 8)) rfl rfl rfl rfl rfl rfl rfl rfl).trans (am_g_congr fun h111 => ?_)
        refine am_bind_congr fun r112 => ?_
        show am_Ex d 174 30 [(2, x0), (0, x1), (2, x2), (0, x3), (0, x4), (0, x5), (0, v104), (2, v109), am_N, am_N] [(0, r112.1)] r112.2 = _
        refine (am_z_ne rfl).trans (am_if_congr (fun c113 => ?_) (fun c113 => ?_))
        · exact (am_e5 rfl).trans rfl
        · refine (am_e0 rfl rfl).trans ?_
          refine (am_e0 rfl rfl).trans ?_
          refine (am_e0 rfl rfl).trans ?_
          refine (am_gf (c := 8) (t := 2) rfl rfl rfl).trans ((am_g_t h111).trans ?_)
          refine (am_e0 rfl rfl).trans ?_
          refine (am_ial rfl).trans (am_g_congr fun h114 => ?_)
          refine (am_e0 rfl rfl).trans ?_
          refine (am_gf (c := 8) (t := 2) rfl rfl rfl).trans ((am_g_t h111).trans ?_)
          refine (am_e0 rfl rfl).trans ?_
          refine (am_ial rfl).trans (am_g_congr fun h115 => ?_)
          refine (am_cal3 (z := 123) (k := 4) (c := (am_ob x0 4)) rfl rfl rfl rfl rfl rfl rfl rfl).trans ((am_g_t h101).trans ?_)
          refine am_bind_congr fun r116 => ?_
          show am_Ex d 174 48 [(2, x0), (0, x1), (2, x2), (0, x3), (0, x4), (0, x5), (0, v104), (2, v109), am_N, am_N] [(0, r116.1)] r116.2 = _
          refine (am_e0 rfl rfl).trans ?_
          refine (am_e0 rfl rfl).trans ?_
          refine (am_z_ne rfl).trans (am_if_congr (fun c117 => ?_) (fun c117 => ?_))
          · refine (am_e0 rfl rfl).trans ?_
            exact (am_e4i rfl rfl).trans rfl
          · refine (am_e0 rfl rfl).trans ?_
            refine (am_e0 rfl rfl).trans ?_
            refine (am_i_ne rfl).trans (am_if_congr (fun c118 => ?_) (fun c118 => ?_))
            · refine (am_e0 rfl rfl).trans ?_
              refine (am_e1 rfl rfl).trans ?_
              refine (am_e0 rfl rfl).trans ?_
              refine (am_e0 rfl rfl).trans ?_
              refine (am_e0 rfl rfl).trans ?_
              refine (am_i_ge rfl).trans (am_if_congr (fun c119 => ?_) (fun c119 => ?_))
              · refine (am_e0 rfl rfl).trans ?_
                refine (am_e1 rfl rfl).trans ?_
                exact (am_e4i rfl rfl).trans rfl
              · refine (am_e0 rfl rfl).trans ?_
                refine (am_e0 rfl rfl).trans ?_
                refine (am_i_le rfl).trans (am_if_congr (fun c120 => ?_) (fun c120 => ?_))
                · refine (am_e0 rfl rfl).trans ?_
                  exact (am_e4i rfl rfl).trans rfl
                · refine (am_e0 rfl rfl).trans ?_
                  refine (am_e1 rfl rfl).trans ?_
                  exact (am_e4i rfl rfl).trans rfl
            · refine (am_e0 rfl rfl).trans ?_
              refine (am_e0 rfl rfl).trans ?_
              refine (am_e0 rfl rfl).trans ?_
              refine (am_e0 rfl rfl).trans ?_
              refine (am_i_ge rfl).trans (am_if_congr (fun c121 => ?_) (fun c121 => ?_))
              · refine (am_e0 rfl rfl).trans ?_
                refine (am_e1 rfl rfl).trans ?_
                exact (am_e4i rfl rfl).trans rfl
              · refine (am_e0 rfl rfl).trans ?_
                refine (am_e0 rfl rfl).trans ?_
                refine (am_i_le rfl).trans (am_if_congr (fun c122 => ?_) (fun c122 => ?_))
                · refine (am_e0 rfl rfl).trans ?_
                  exact (am_e4i rfl rfl).trans rfl
                · refine (am_e0 rfl rfl).trans ?_
                  refine (am_e1 rfl rfl).trans ?_
                  exact (am_e4i rfl rfl).trans rfl
    · exact (am_e5 rfl).trans rfl
set_option maxRecDepth 10000 in
theorem aq_174_23 (d : Nat) (x0 x1 x5 : Int) (M : am_M) : am_Ex d 174 23 [(2, x0), (0, x1), am_N, am_N, am_N, (0, x5), am_N, am_N, am_N, am_N] [] M = (am_Ex d 174 32 [(2, x0), (0, x1), am_N, am_N, am_N, (0, x5), am_N, am_N, am_N, am_N] [] M) := by
  refine (am_e0 rfl rfl).trans ?_
  refine (am_e0 rfl rfl).trans ?_
  refine (am_e0 rfl rfl).trans ?_
  refine (am_nul rfl).trans ((if_pos rfl).trans ?_)
  exact (am_e5 rfl).trans rfl
set_option maxRecDepth 10000 in
theorem aq_174_32 (d : Nat) (x0 x1 x5 : Int) (M : am_M) : am_Ex d 174 32 [(2, x0), (0, x1), am_N, am_N, am_N, (0, x5), am_N, am_N, am_N, am_N] [] M = (am_g (am_ob x0 4) <| (am_Call d 31 [(2, x0), (0, x1), (0, x5)] M).bind fun r102 => some (r102.1, r102.2)) := by
  refine (am_e0 rfl rfl).trans ?_
  refine (am_e0 rfl rfl).trans ?_
  refine (am_e0 rfl rfl).trans ?_
  refine (am_cal3 (z := 31) (k := 3) (c := (am_ob x0 4)) rfl rfl rfl rfl rfl rfl rfl rfl).trans (am_g_congr fun h101 => ?_)
  refine am_bind_congr fun r102 => ?_
  show am_Ex d 174 36 [(2, x0), (0, x1), am_N, am_N, am_N, (0, x5), am_N, am_N, am_N, am_N] [(0, r102.1)] r102.2 = _
  exact (am_e4i rfl rfl).trans rfl
-- 175: UnlearnedHand$Orders.costOf(I)J
set_option maxRecDepth 10000 in
theorem aq_175 (d : Nat) (x0 x1 : Int) (M : am_M) : am_Call d 175 [(2, x0), (0, x1)] M = (am_g (am_ob x0 5) <| am_let (am_w32 ((min (am_rd M x0 4) 6) - 1)) fun v102 => am_Ex d 175 12 [(2, x0), (0, x1), (1, 0), am_N, (1, 1), am_N, (0, v102), am_N, am_N] [] M) := by
  show am_Ex d 175 0 [(2, x0), (0, x1), am_N, am_N, am_N, am_N, am_N, am_N, am_N] [] M = _
  refine (am_e0 rfl rfl).trans ?_
  refine (am_e0 rfl rfl).trans ?_
  refine (am_e0 rfl rfl).trans ?_
  refine (am_e0 rfl rfl).trans ?_
  refine (am_e0 rfl rfl).trans ?_
  refine (am_gf (c := 5) (t := 0) rfl rfl rfl).trans (am_g_congr fun h101 => ?_)
  refine (am_e0 rfl rfl).trans ?_
  refine (am_e10 (w := min (am_rd M x0 4) 6) rfl rfl rfl).trans ?_
  refine (am_e0 rfl rfl).trans ?_
  refine (am_e0 rfl rfl).trans ?_
  refine (am_e0 rfl rfl).trans ?_
  refine am_lets (L := fun v102 => [(2, x0), (0, x1), (1, 0), am_N, (1, 1), am_N, (0, v102), am_N, am_N]) (fun v102 => ?_)
  exact (am_e5 rfl).trans rfl
set_option maxRecDepth 10000 in
theorem aq_175_12 (d : Nat) (x0 x1 x2 x4 x6 : Int) (M : am_M) : am_Ex d 175 12 [(2, x0), (0, x1), (1, x2), am_N, (1, x4), am_N, (0, x6), am_N, am_N] [] M = (if x6 < 0 then (some (x2, M)) else (am_g (am_ob x0 5) <| am_g (am_ar (am_rd M x0 2) 20 x6) <| am_g (am_ob (am_rd M x0 1) 3) <| (am_Call d 114 [(2, am_rd M x0 1), (0, x1), (0, am_rd M (am_rd M x0 2) x6)] M).bind fun r105 => am_let (am_w32 (100 - r105.1)) fun v106 => am_g (am_ar (am_rd r105.2 x0 2) 20 x6) <| am_g (am_ob (am_rd r105.2 x0 0) 2) <| (am_Call d 110 [(2, am_rd r105.2 x0 0), (0, am_rd r105.2 (am_rd r105.2 x0 2) x6)] r105.2).bind fun r109 => am_let (am_w64 ((am_w64 (r109.1 * x4)) + (am_w64 (v106 * x2)))) fun v110 => am_let (am_w64 (x4 * 100)) fun v111 => am_let (am_w32 (x6 + (-1))) fun v112 => am_Ex d 175 12 [(2, x0), (0, x1), (1, v110), am_N, (1, v111), am_N, (0, v112), am_N, am_N] [] r109.2)) := by
  refine (am_e0 rfl rfl).trans ?_
  refine (am_z_lt rfl).trans (am_if_congr (fun c101 => ?_) (fun c101 => ?_))
  · refine (am_e0 rfl rfl).trans ?_
    exact (am_e4l rfl rfl).trans rfl
  · refine (am_e0 rfl rfl).trans ?_
    refine (am_e0 rfl rfl).trans ?_
    refine (am_gf (c := 5) (t := 2) rfl rfl rfl).trans (am_g_congr fun h102 => ?_)
    refine (am_e0 rfl rfl).trans ?_
    refine (am_e0 rfl rfl).trans ?_
    refine (am_gf (c := 5) (t := 2) rfl rfl rfl).trans ((am_g_t h102).trans ?_)
    refine (am_e0 rfl rfl).trans ?_
    refine (am_ial rfl).trans (am_g_congr fun h103 => ?_)
    refine (am_cal3 (z := 114) (k := 3) (c := (am_ob (am_rd M x0 1) 3)) rfl rfl rfl rfl rfl rfl rfl rfl).trans (am_g_congr fun h104 => ?_)
    refine am_bind_congr fun r105 => ?_
    show am_Ex d 175 23 [(2, x0), (0, x1), (1, x2), am_N, (1, x4), am_N, (0, x6), am_N, am_N] [(0, r105.1), (0, 100)] r105.2 = _
    refine (am_e0 rfl rfl).trans ?_
    refine (am_e0 rfl rfl).trans ?_
    refine (am_e0 rfl rfl).trans ?_
    refine am_lets (L := fun v106 => [(2, x0), (0, x1), (1, x2), am_N, (1, x4), am_N, (0, x6), (1, v106), am_N]) (fun v106 => ?_)
    refine (am_e0 rfl rfl).trans ?_
    refine (am_gf (c := 5) (t := 2) rfl rfl rfl).trans ((am_g_t h102).trans ?_)
    refine (am_e0 rfl rfl).trans ?_
    refine (am_gf (c := 5) (t := 2) rfl rfl rfl).trans ((am_g_t h102).trans ?_)
    refine (am_e0 rfl rfl).trans ?_
    refine (am_ial rfl).trans (am_g_congr fun h107 => ?_)
    refine (am_cal3 (z := 110) (k := 2) (c := (am_ob (am_rd r105.2 x0 0) 2)) rfl rfl rfl rfl rfl rfl rfl rfl).trans (am_g_congr fun h108 => ?_)
    refine am_bind_congr fun r109 => ?_
    show am_Ex d 175 33 [(2, x0), (0, x1), (1, x2), am_N, (1, x4), am_N, (0, x6), (1, v106), am_N] [(0, r109.1)] r109.2 = _
    refine (am_e0 rfl rfl).trans ?_
    refine (am_e0 rfl rfl).trans ?_
    refine (am_e0 rfl rfl).trans ?_
    refine (am_e0 rfl rfl).trans ?_
    refine (am_e0 rfl rfl).trans ?_
    refine (am_e0 rfl rfl).trans ?_
    refine (am_e0 rfl rfl).trans ?_
    refine (am_e0 rfl rfl).trans ?_
    refine am_lets (L := fun v110 => [(2, x0), (0, x1), (1, v110), am_N, (1, x4), am_N, (0, x6), (1, v106), am_N]) (fun v110 => ?_)
    refine (am_e0 rfl rfl).trans ?_
    refine (am_e0 rfl rfl).trans ?_
    refine (am_e0 rfl rfl).trans ?_
    refine (am_e0 rfl rfl).trans ?_
    refine am_lets (L := fun v111 => [(2, x0), (0, x1), (1, v110), am_N, (1, v111), am_N, (0, x6), (1, v106), am_N]) (fun v111 => ?_)
    refine (am_e0 rfl rfl).trans ?_
    refine am_lets (L := fun v112 => [(2, x0), (0, x1), (1, v110), am_N, (1, v111), am_N, (0, v112), (1, v106), am_N]) (fun v112 => ?_)
    refine (am_e1 rfl rfl).trans ?_
    exact (am_e5 rfl).trans rfl
-- 176: UnlearnedHand$Orders.tellings(II)I
set_option maxRecDepth 10000 in
theorem aq_176 (d : Nat) (x0 x1 x2 : Int) (M : am_M) : am_Call d 176 [(2, x0), (0, x1), (0, x2)] M = (am_g (am_ob x0 5) <| (am_Call d 36 [(2, x0), (0, x1)] M).bind fun r102 => am_Ex d 176 9 [(2, x0), (0, x1), (0, x2), (0, 0), (0, r102.1), (0, 0)] [] r102.2) := by
  show am_Ex d 176 0 [(2, x0), (0, x1), (0, x2), am_N, am_N, am_N] [] M = _
  refine (am_e0 rfl rfl).trans ?_
  refine (am_e0 rfl rfl).trans ?_
  refine (am_e0 rfl rfl).trans ?_
  refine (am_e0 rfl rfl).trans ?_
  refine (am_cal3 (z := 36) (k := 2) (c := (am_ob x0 5)) rfl rfl rfl rfl rfl rfl rfl rfl).trans (am_g_congr fun h101 => ?_)
  refine am_bind_congr fun r102 => ?_
  show am_Ex d 176 5 [(2, x0), (0, x1), (0, x2), (0, 0), am_N, am_N] [(0, r102.1)] r102.2 = _
  refine (am_e0 rfl rfl).trans ?_
  refine (am_e0 rfl rfl).trans ?_
  refine (am_e0 rfl rfl).trans ?_
  exact (am_e5 rfl).trans rfl
set_option maxRecDepth 10000 in
theorem aq_176_9 (d : Nat) (x0 x1 x2 x3 x4 x5 : Int) (M : am_M) : am_Ex d 176 9 [(2, x0), (0, x1), (0, x2), (0, x3), (0, x4), (0, x5)] [] M = (if x5 < 720 then (if x4 = 0 then (am_Ex d 176 43 [am_N, am_N, (0, x2), (0, x3), am_N, am_N] [] M) else (am_g (am_ob x0 5) <| (am_Call d 124 [(2, x0), (0, x1)] M).bind fun r104 => if r104.1 = 0 then (am_Ex d 176 37 [(2, x0), (0, x1), (0, x2), (0, x3), am_N, (0, x5)] [] r104.2) else (if x2 < 0 then (am_let (am_w32 (x3 + 1)) fun v107 => am_Ex d 176 37 [(2, x0), (0, x1), (0, x2), (0, v107), am_N, (0, x5)] [] r104.2) else (if x2 < am_rd r104.2 x0 4 then (if x2 < 6 then (am_g (am_ar (am_rd r104.2 x0 2) 20 x2) <| some (am_rd r104.2 (am_rd r104.2 x0 2) x2, r104.2)) else (some ((-1), r104.2))) else (some ((-1), r104.2)))))) else (am_Ex d 176 43 [am_N, am_N, (0, x2), (0, x3), am_N, am_N] [] M)) := by
  refine (am_e0 rfl rfl).trans ?_
  refine (am_e0 rfl rfl).trans ?_
  refine (am_i_ge rfl).trans (am_if_congr (fun c101 => ?_) (fun c101 => ?_))
  · refine (am_e0 rfl rfl).trans ?_
    refine (am_z_eq rfl).trans (am_if_congr (fun c102 => ?_) (fun c102 => ?_))
    · exact (am_e5 rfl).trans rfl
    · refine (am_e0 rfl rfl).trans ?_
      refine (am_e0 rfl rfl).trans ?_
      refine (am_cal3 (z := 124) (k := 2) (c := (am_ob x0 5)) rfl rfl rfl rfl rfl rfl rfl rfl).trans (am_g_congr fun h103 => ?_)
      refine am_bind_congr fun r104 => ?_
      show am_Ex d 176 17 [(2, x0), (0, x1), (0, x2), (0, x3), (0, x4), (0, x5)] [(0, r104.1)] r104.2 = _
      refine (am_z_eq rfl).trans (am_if_congr (fun c105 => ?_) (fun c105 => ?_))
      · exact (am_e5 rfl).trans rfl
      · refine (am_e0 rfl rfl).trans ?_
        refine (am_z_lt rfl).trans (am_if_congr (fun c106 => ?_) (fun c106 => ?_))
        · refine (am_e0 rfl rfl).trans ?_
          refine am_lets (L := fun v107 => [(2, x0), (0, x1), (0, x2), (0, v107), (0, x4), (0, x5)]) (fun v107 => ?_)
          exact (am_e5 rfl).trans rfl
        · refine (am_e0 rfl rfl).trans ?_
          refine (am_e0 rfl rfl).trans ?_
          refine (am_gf (c := 5) (t := 0) rfl rfl rfl).trans ((am_g_t h103).trans ?_)
          refine (am_i_ge rfl).trans (am_if_congr (fun c108 => ?_) (fun c108 => ?_))
          · refine (am_e0 rfl rfl).trans ?_
            refine (am_e0 rfl rfl).trans ?_
            refine (am_i_ge rfl).trans (am_if_congr (fun c109 => ?_) (fun c109 => ?_))
            · refine (am_e0 rfl rfl).trans ?_
              refine (am_gf (c := 5) (t := 2) rfl rfl rfl).trans ((am_g_t h103).trans ?_)
              refine (am_e0 rfl rfl).trans ?_
              refine (am_ial rfl).trans (am_g_congr fun h110 => ?_)
              refine (am_e1 rfl rfl).trans ?_
              exact (am_e4i rfl rfl).trans rfl
            · refine (am_e5 rfl).trans ?_
              show am_Ex d 176 33 [am_N, am_N, am_N, am_N, am_N, am_N] [] r104.2 = _
              refine (am_e0 rfl rfl).trans ?_
              exact (am_e4i rfl rfl).trans rfl
          · refine (am_e5 rfl).trans ?_
            show am_Ex d 176 33 [am_N, am_N, am_N, am_N, am_N, am_N] [] r104.2 = _
            refine (am_e0 rfl rfl).trans ?_
            exact (am_e4i rfl rfl).trans rfl
  · exact (am_e5 rfl).trans rfl
set_option maxRecDepth 10000 in
theorem aq_176_43 (d : Nat) (x2 x3 : Int) (M : am_M) : am_Ex d 176 43 [am_N, am_N, (0, x2), (0, x3), am_N, am_N] [] M = (if x2 = (-1) then (some (x3, M)) else (some ((-1), M))) := by
  refine (am_e0 rfl rfl).trans ?_
  refine (am_e0 rfl rfl).trans ?_
  refine (am_i_ne rfl).trans (am_if_congr (fun c101 => ?_) (fun c101 => ?_))
  · refine (am_e0 rfl rfl).trans ?_
    refine (am_e1 rfl rfl).trans ?_
    exact (am_e4i rfl rfl).trans rfl
  · refine (am_e0 rfl rfl).trans ?_
    exact (am_e4i rfl rfl).trans rfl
set_option maxRecDepth 10000 in
theorem aq_176_37 (d : Nat) (x0 x1 x2 x3 x5 : Int) (M : am_M) : am_Ex d 176 37 [(2, x0), (0, x1), (0, x2), (0, x3), am_N, (0, x5)] [] M = (am_g (am_ob x0 5) <| (am_Call d 125 [(2, x0)] M).bind fun r102 => am_let (am_w32 (x5 + 1)) fun v103 => am_Ex d 176 9 [(2, x0), (0, x1), (0, x2), (0, x3), (0, r102.1), (0, v103)] [] r102.2) := by
  refine (am_e0 rfl rfl).trans ?_
  refine (am_cal3 (z := 125) (k := 1) (c := (am_ob x0 5)) rfl rfl rfl rfl rfl rfl rfl rfl).trans (am_g_congr fun h101 => ?_)
  refine am_bind_congr fun r102 => ?_
  show am_Ex d 176 39 [(2, x0), (0, x1), (0, x2), (0, x3), am_N, (0, x5)] [(0, r102.1)] r102.2 = _
  refine (am_e0 rfl rfl).trans ?_
  refine (am_e0 rfl rfl).trans ?_
  refine am_lets (L := fun v103 => [(2, x0), (0, x1), (0, x2), (0, x3), (0, r102.1), (0, v103)]) (fun v103 => ?_)
  refine (am_e1 rfl rfl).trans ?_
  exact (am_e5 rfl).trans rfl
-- 177: UnlearnedHand$Reader.readDeed(I)V
set_option maxRecDepth 10000 in
theorem aq_177 (d : Nat) (x0 x1 : Int) (M : am_M) : am_Call d 177 [(2, x0), (0, x1)] M = (if x1 = 4 then (am_g (am_ob x0 6) <| (am_Call d 127 [(2, x0), (0, 0), (0, 0), (0, 5)] M).bind fun r103 => (am_Call d 126 [(2, x0), (0, 25)] r103.2).bind fun r104 => (am_Call d 127 [(2, x0), (0, 1), (0, 0), (0, 7)] r104.2).bind fun r105 => (am_Call d 126 [(2, x0), (0, 26)] r105.2).bind fun r106 => (am_Call d 127 [(2, x0), (0, 2), (0, 1), (0, 99)] r106.2).bind fun r107 => some (0, r107.2)) else if x1 = 5 then (am_g (am_ob x0 6) <| (am_Call d 127 [(2, x0), (0, 0), (0, 0), (0, 5)] M).bind fun r110 => (am_Call d 126 [(2, x0), (0, 25)] r110.2).bind fun r111 => (am_Call d 127 [(2, x0), (0, 1), (0, 0), (0, 7)] r111.2).bind fun r112 => (am_Call d 126 [(2, x0), (0, 26)] r112.2).bind fun r113 => (am_Call d 127 [(2, x0), (0, 2), (0, 1), (0, 99)] r113.2).bind fun r114 => some (0, r114.2)) else if x1 = 6 then (am_g (am_ob x0 6) <| (am_Call d 127 [(2, x0), (0, 0), (0, 0), (0, 5)] M).bind fun r117 => some (0, r117.2)) else if x1 = 7 then (am_g (am_ob x0 6) <| (am_Call d 127 [(2, x0), (0, 0), (0, 0), (0, 5)] M).bind fun r120 => if x1 = 7 then ((am_Call d 126 [(2, x0), (0, 27)] r120.2).bind fun r122 => (am_Call d 127 [(2, x0), (0, 1), (0, 0), (0, 7)] r122.2).bind fun r123 => some (0, r123.2)) else ((am_Call d 126 [(2, x0), (0, 28)] r120.2).bind fun r124 => (am_Call d 127 [(2, x0), (0, 1), (0, 0), (0, 7)] r124.2).bind fun r125 => some (0, r125.2))) else if x1 = 8 then (am_g (am_ob x0 6) <| (am_Call d 127 [(2, x0), (0, 0), (0, 0), (0, 5)] M).bind fun r128 => if x1 = 7 then ((am_Call d 126 [(2, x0), (0, 27)] r128.2).bind fun r130 => (am_Call d 127 [(2, x0), (0, 1), (0, 0), (0, 7)] r130.2).bind fun r131 => some (0, r131.2)) else ((am_Call d 126 [(2, x0), (0, 28)] r128.2).bind fun r132 => (am_Call d 127 [(2, x0), (0, 1), (0, 0), (0, 7)] r132.2).bind fun r133 => some (0, r133.2))) else if x1 = 9 then (am_g (am_ob x0 6) <| (am_Call d 127 [(2, x0), (0, 0), (0, 0), (0, 5)] M).bind fun r136 => (am_Call d 126 [(2, x0), (0, 26)] r136.2).bind fun r137 => (am_Call d 127 [(2, x0), (0, 1), (0, 0), (0, 5)] r137.2).bind fun r138 => some (0, r138.2)) else if x1 = 10 then (am_g (am_ob x0 6) <| (am_Call d 127 [(2, x0), (0, 0), (0, 0), (0, 5)] M).bind fun r141 => some (0, r141.2)) else if x1 = 11 then (am_g (am_ob x0 6) <| (am_Call d 127 [(2, x0), (0, 0), (0, 1), (0, 60)] M).bind fun r144 => some (0, r144.2)) else (am_g (am_ob x0 6) <| (am_Call d 127 [(2, x0), (0, 0), (0, 0), (0, 5)] M).bind fun r146 => some (0, r146.2))) := by
  show am_Ex d 177 0 [(2, x0), (0, x1)] [] M = _
  refine (am_e0 rfl rfl).trans ?_
  refine (am_tsw rfl).trans ?_
  refine (am_sw_c).trans (am_if_congr (fun c101 => ?_) (fun c101 => ?_))
  · refine (am_e0 rfl rfl).trans ?_
    refine (am_e0 rfl rfl).trans ?_
    refine (am_e0 rfl rfl).trans ?_
    refine (am_e0 rfl rfl).trans ?_
    refine (am_cal3 (z := 127) (k := 4) (c := (am_ob x0 6)) rfl rfl rfl rfl rfl rfl rfl rfl).trans (am_g_congr fun h102 => ?_)
    refine am_bind_congr fun r103 => ?_
    show am_Ex d 177 7 [(2, x0), (0, x1)] [] r103.2 = _
    refine (am_e0 rfl rfl).trans ?_
    refine (am_e0 rfl rfl).trans ?_
    refine (am_cal3 (z := 126) (k := 2) (c := (am_ob x0 6)) rfl rfl rfl rfl rfl rfl rfl rfl).trans ((am_g_t h102).trans ?_)
    refine am_bind_congr fun r104 => ?_
    show am_Ex d 177 10 [(2, x0), (0, x1)] [] r104.2 = _
    refine (am_e0 rfl rfl).trans ?_
    refine (am_e0 rfl rfl).trans ?_
    refine (am_e0 rfl rfl).trans ?_
    refine (am_e0 rfl rfl).trans ?_
    refine (am_cal3 (z := 127) (k := 4) (c := (am_ob x0 6)) rfl rfl rfl rfl rfl rfl rfl rfl).trans ((am_g_t h102).trans ?_)
    refine am_bind_congr fun r105 => ?_
    show am_Ex d 177 15 [(2, x0), (0, x1)] [] r105.2 = _
    refine (am_e0 rfl rfl).trans ?_
    refine (am_e0 rfl rfl).trans ?_
    refine (am_cal3 (z := 126) (k := 2) (c := (am_ob x0 6)) rfl rfl rfl rfl rfl rfl rfl rfl).trans ((am_g_t h102).trans ?_)
    refine am_bind_congr fun r106 => ?_
    show am_Ex d 177 18 [(2, x0), (0, x1)] [] r106.2 = _
    refine (am_e0 rfl rfl).trans ?_
    refine (am_e0 rfl rfl).trans ?_
    refine (am_e0 rfl rfl).trans ?_
    refine (am_e0 rfl rfl).trans ?_
    refine (am_cal3 (z := 127) (k := 4) (c := (am_ob x0 6)) rfl rfl rfl rfl rfl rfl rfl rfl).trans ((am_g_t h102).trans ?_)
    refine am_bind_congr fun r107 => ?_
    show am_Ex d 177 23 [(2, x0), (0, x1)] [] r107.2 = _
    refine (am_e1 rfl rfl).trans ?_
    refine (am_e5 rfl).trans ?_
    show am_Ex d 177 69 [am_N, am_N] [] r107.2 = _
    exact (am_e4v rfl rfl).trans rfl
  refine (am_sw_c).trans (am_if_congr (fun c108 => ?_) (fun c108 => ?_))
  · refine (am_e0 rfl rfl).trans ?_
    refine (am_e0 rfl rfl).trans ?_
    refine (am_e0 rfl rfl).trans ?_
    refine (am_e0 rfl rfl).trans ?_
    refine (am_cal3 (z := 127) (k := 4) (c := (am_ob x0 6)) rfl rfl rfl rfl rfl rfl rfl rfl).trans (am_g_congr fun h109 => ?_)
    refine am_bind_congr fun r110 => ?_
    show am_Ex d 177 7 [(2, x0), (0, x1)] [] r110.2 = _
    refine (am_e0 rfl rfl).trans ?_
    refine (am_e0 rfl rfl).trans ?_
    refine (am_cal3 (z := 126) (k := 2) (c := (am_ob x0 6)) rfl rfl rfl rfl rfl rfl rfl rfl).trans ((am_g_t h109).trans ?_)
    refine am_bind_congr fun r111 => ?_
    show am_Ex d 177 10 [(2, x0), (0, x1)] [] r111.2 = _
    refine (am_e0 rfl rfl).trans ?_
    refine (am_e0 rfl rfl).trans ?_
    refine (am_e0 rfl rfl).trans ?_
    refine (am_e0 rfl rfl).trans ?_
    refine (am_cal3 (z := 127) (k := 4) (c := (am_ob x0 6)) rfl rfl rfl rfl rfl rfl rfl rfl).trans ((am_g_t h109).trans ?_)
    refine am_bind_congr fun r112 => ?_
    show am_Ex d 177 15 [(2, x0), (0, x1)] [] r112.2 = _
    refine (am_e0 rfl rfl).trans ?_
    refine (am_e0 rfl rfl).trans ?_
    refine (am_cal3 (z := 126) (k := 2) (c := (am_ob x0 6)) rfl rfl rfl rfl rfl rfl rfl rfl).trans ((am_g_t h109).trans ?_)
    refine am_bind_congr fun r113 => ?_
    show am_Ex d 177 18 [(2, x0), (0, x1)] [] r113.2 = _
    refine (am_e0 rfl rfl).trans ?_
    refine (am_e0 rfl rfl).trans ?_
    refine (am_e0 rfl rfl).trans ?_
    refine (am_e0 rfl rfl).trans ?_
    refine (am_cal3 (z := 127) (k := 4) (c := (am_ob x0 6)) rfl rfl rfl rfl rfl rfl rfl rfl).trans ((am_g_t h109).trans ?_)
    refine am_bind_congr fun r114 => ?_
    show am_Ex d 177 23 [(2, x0), (0, x1)] [] r114.2 = _
    refine (am_e1 rfl rfl).trans ?_
    refine (am_e5 rfl).trans ?_
    show am_Ex d 177 69 [am_N, am_N] [] r114.2 = _
    exact (am_e4v rfl rfl).trans rfl
  refine (am_sw_c).trans (am_if_congr (fun c115 => ?_) (fun c115 => ?_))
  · refine (am_e0 rfl rfl).trans ?_
    refine (am_e0 rfl rfl).trans ?_
    refine (am_e0 rfl rfl).trans ?_
    refine (am_e0 rfl rfl).trans ?_
    refine (am_cal3 (z := 127) (k := 4) (c := (am_ob x0 6)) rfl rfl rfl rfl rfl rfl rfl rfl).trans (am_g_congr fun h116 => ?_)
    refine am_bind_congr fun r117 => ?_
    show am_Ex d 177 68 [(2, x0), (0, x1)] [] r117.2 = _
    refine (am_e5 rfl).trans ?_
    show am_Ex d 177 69 [am_N, am_N] [] r117.2 = _
    exact (am_e4v rfl rfl).trans rfl
  refine (am_sw_c).trans (am_if_congr (fun c118 => ?_) (fun c118 => ?_))
  · refine (am_e0 rfl rfl).trans ?_
    refine (am_e0 rfl rfl).trans ?_
    refine (am_e0 rfl rfl).trans ?_
    refine (am_e0 rfl rfl).trans ?_
    refine (am_cal3 (z := 127) (k := 4) (c := (am_ob x0 6)) rfl rfl rfl rfl rfl rfl rfl rfl).trans (am_g_congr fun h119 => ?_)
    refine am_bind_congr fun r120 => ?_
    show am_Ex d 177 29 [(2, x0), (0, x1)] [] r120.2 = _
    refine (am_e0 rfl rfl).trans ?_
    refine (am_e0 rfl rfl).trans ?_
    refine (am_e0 rfl rfl).trans ?_
    refine (am_i_ne rfl).trans (am_if_congr (fun c121 => ?_) (fun c121 => ?_))
    · refine (am_e0 rfl rfl).trans ?_
      refine (am_e1 rfl rfl).trans ?_
      refine (am_cal3 (z := 126) (k := 2) (c := (am_ob x0 6)) rfl rfl rfl rfl rfl rfl rfl rfl).trans ((am_g_t h119).trans ?_)
      refine am_bind_congr fun r122 => ?_
      show am_Ex d 177 37 [(2, x0), (0, x1)] [] r122.2 = _
      refine (am_e0 rfl rfl).trans ?_
      refine (am_e0 rfl rfl).trans ?_
      refine (am_e0 rfl rfl).trans ?_
      refine (am_e0 rfl rfl).trans ?_
      refine (am_cal3 (z := 127) (k := 4) (c := (am_ob x0 6)) rfl rfl rfl rfl rfl rfl rfl rfl).trans ((am_g_t h119).trans ?_)
      refine am_bind_congr fun r123 => ?_
      show am_Ex d 177 42 [(2, x0), (0, x1)] [] r123.2 = _
      refine (am_e1 rfl rfl).trans ?_
      refine (am_e5 rfl).trans ?_
      show am_Ex d 177 69 [am_N, am_N] [] r123.2 = _
      exact (am_e4v rfl rfl).trans rfl
    · refine (am_e0 rfl rfl).trans ?_
      refine (am_cal3 (z := 126) (k := 2) (c := (am_ob x0 6)) rfl rfl rfl rfl rfl rfl rfl rfl).trans ((am_g_t h119).trans ?_)
      refine am_bind_congr fun r124 => ?_
      show am_Ex d 177 37 [(2, x0), (0, x1)] [] r124.2 = _
      refine (am_e0 rfl rfl).trans ?_
      refine (am_e0 rfl rfl).trans ?_
      refine (am_e0 rfl rfl).trans ?_
      refine (am_e0 rfl rfl).trans ?_
      refine (am_cal3 (z := 127) (k := 4) (c := (am_ob x0 6)) rfl rfl rfl rfl rfl rfl rfl rfl).trans ((am_g_t h119).trans ?_)
      refine am_bind_congr fun r125 => ?_
      show am_Ex d 177 42 [(2, x0), (0, x1)] [] r125.2 = _
      refine (am_e1 rfl rfl).trans ?_
      refine (am_e5 rfl).trans ?_
      show am_Ex d 177 69 [am_N, am_N] [] r125.2 = _
      exact (am_e4v rfl rfl).trans rfl
  refine (am_sw_c).trans (am_if_congr (fun c126 => ?_) (fun c126 => ?_))
  · refine (am_e0 rfl rfl).trans ?_
    refine (am_e0 rfl rfl).trans ?_
    refine (am_e0 rfl rfl).trans ?_
    refine (am_e0 rfl rfl).trans ?_
    refine (am_cal3 (z := 127) (k := 4) (c := (am_ob x0 6)) rfl rfl rfl rfl rfl rfl rfl rfl).trans (am_g_congr fun h127 => ?_)
    refine am_bind_congr fun r128 => ?_
    show am_Ex d 177 29 [(2, x0), (0, x1)] [] r128.2 = _
    refine (am_e0 rfl rfl).trans ?_
    refine (am_e0 rfl rfl).trans ?_
    refine (am_e0 rfl rfl).trans ?_
    refine (am_i_ne rfl).trans (am_if_congr (fun c129 => ?_) (fun c129 => ?_))
    · refine (am_e0 rfl rfl).trans ?_
      refine (am_e1 rfl rfl).trans ?_
      refine (am_cal3 (z := 126) (k := 2) (c := (am_ob x0 6)) rfl rfl rfl rfl rfl rfl rfl rfl).trans ((am_g_t h127).trans ?_)
      refine am_bind_congr fun r130 => ?_
      show am_Ex d 177 37 [(2, x0), (0, x1)] [] r130.2 = _
      refine (am_e0 rfl rfl).trans ?_
      refine (am_e0 rfl rfl).trans ?_
      refine (am_e0 rfl rfl).trans ?_
      refine (am_e0 rfl rfl).trans ?_
      refine (am_cal3 (z := 127) (k := 4) (c := (am_ob x0 6)) rfl rfl rfl rfl rfl rfl rfl rfl).trans ((am_g_t h127).trans ?_)
      refine am_bind_congr fun r131 => ?_
      show am_Ex d 177 42 [(2, x0), (0, x1)] [] r131.2 = _
      refine (am_e1 rfl rfl).trans ?_
      refine (am_e5 rfl).trans ?_
      show am_Ex d 177 69 [am_N, am_N] [] r131.2 = _
      exact (am_e4v rfl rfl).trans rfl
    · refine (am_e0 rfl rfl).trans ?_
      refine (am_cal3 (z := 126) (k := 2) (c := (am_ob x0 6)) rfl rfl rfl rfl rfl rfl rfl rfl).trans ((am_g_t h127).trans ?_)
      refine am_bind_congr fun r132 => ?_
      show am_Ex d 177 37 [(2, x0), (0, x1)] [] r132.2 = _
      refine (am_e0 rfl rfl).trans ?_
      refine (am_e0 rfl rfl).trans ?_
      refine (am_e0 rfl rfl).trans ?_
      refine (am_e0 rfl rfl).trans ?_
      refine (am_cal3 (z := 127) (k := 4) (c := (am_ob x0 6)) rfl rfl rfl rfl rfl rfl rfl rfl).trans ((am_g_t h127).trans ?_)
      refine am_bind_congr fun r133 => ?_
      show am_Ex d 177 42 [(2, x0), (0, x1)] [] r133.2 = _
      refine (am_e1 rfl rfl).trans ?_
      refine (am_e5 rfl).trans ?_
      show am_Ex d 177 69 [am_N, am_N] [] r133.2 = _
      exact (am_e4v rfl rfl).trans rfl
  refine (am_sw_c).trans (am_if_congr (fun c134 => ?_) (fun c134 => ?_))
  · refine (am_e0 rfl rfl).trans ?_
    refine (am_e0 rfl rfl).trans ?_
    refine (am_e0 rfl rfl).trans ?_
    refine (am_e0 rfl rfl).trans ?_
    refine (am_cal3 (z := 127) (k := 4) (c := (am_ob x0 6)) rfl rfl rfl rfl rfl rfl rfl rfl).trans (am_g_congr fun h135 => ?_)
    refine am_bind_congr fun r136 => ?_
    show am_Ex d 177 48 [(2, x0), (0, x1)] [] r136.2 = _
    refine (am_e0 rfl rfl).trans ?_
    refine (am_e0 rfl rfl).trans ?_
    refine (am_cal3 (z := 126) (k := 2) (c := (am_ob x0 6)) rfl rfl rfl rfl rfl rfl rfl rfl).trans ((am_g_t h135).trans ?_)
    refine am_bind_congr fun r137 => ?_
    show am_Ex d 177 51 [(2, x0), (0, x1)] [] r137.2 = _
    refine (am_e0 rfl rfl).trans ?_
    refine (am_e0 rfl rfl).trans ?_
    refine (am_e0 rfl rfl).trans ?_
    refine (am_e0 rfl rfl).trans ?_
    refine (am_cal3 (z := 127) (k := 4) (c := (am_ob x0 6)) rfl rfl rfl rfl rfl rfl rfl rfl).trans ((am_g_t h135).trans ?_)
    refine am_bind_congr fun r138 => ?_
    show am_Ex d 177 56 [(2, x0), (0, x1)] [] r138.2 = _
    refine (am_e1 rfl rfl).trans ?_
    refine (am_e5 rfl).trans ?_
    show am_Ex d 177 69 [am_N, am_N] [] r138.2 = _
    exact (am_e4v rfl rfl).trans rfl
  refine (am_sw_c).trans (am_if_congr (fun c139 => ?_) (fun c139 => ?_))
  · refine (am_e0 rfl rfl).trans ?_
    refine (am_e0 rfl rfl).trans ?_
    refine (am_e0 rfl rfl).trans ?_
    refine (am_e0 rfl rfl).trans ?_
    refine (am_cal3 (z := 127) (k := 4) (c := (am_ob x0 6)) rfl rfl rfl rfl rfl rfl rfl rfl).trans (am_g_congr fun h140 => ?_)
    refine am_bind_congr fun r141 => ?_
    show am_Ex d 177 68 [(2, x0), (0, x1)] [] r141.2 = _
    refine (am_e5 rfl).trans ?_
    show am_Ex d 177 69 [am_N, am_N] [] r141.2 = _
    exact (am_e4v rfl rfl).trans rfl
  refine (am_sw_c).trans (am_if_congr (fun c142 => ?_) (fun c142 => ?_))
  · refine (am_e0 rfl rfl).trans ?_
    refine (am_e0 rfl rfl).trans ?_
    refine (am_e0 rfl rfl).trans ?_
    refine (am_e0 rfl rfl).trans ?_
    refine (am_cal3 (z := 127) (k := 4) (c := (am_ob x0 6)) rfl rfl rfl rfl rfl rfl rfl rfl).trans (am_g_congr fun h143 => ?_)
    refine am_bind_congr fun r144 => ?_
    show am_Ex d 177 62 [(2, x0), (0, x1)] [] r144.2 = _
    refine (am_e1 rfl rfl).trans ?_
    refine (am_e5 rfl).trans ?_
    show am_Ex d 177 69 [am_N, am_N] [] r144.2 = _
    exact (am_e4v rfl rfl).trans rfl
  refine (am_sw_n).trans ?_
  refine (am_e0 rfl rfl).trans ?_
  refine (am_e0 rfl rfl).trans ?_
  refine (am_e0 rfl rfl).trans ?_
  refine (am_e0 rfl rfl).trans ?_
  refine (am_cal3 (z := 127) (k := 4) (c := (am_ob x0 6)) rfl rfl rfl rfl rfl rfl rfl rfl).trans (am_g_congr fun h145 => ?_)
  refine am_bind_congr fun r146 => ?_
  show am_Ex d 177 68 [(2, x0), (0, x1)] [] r146.2 = _
  refine (am_e5 rfl).trans ?_
  show am_Ex d 177 69 [am_N, am_N] [] r146.2 = _
  exact (am_e4v rfl rfl).trans rfl
