/-! equations of the methods 123 .. 123 -/
-- 123: UnlearnedHand$Laws.run(LUnlearnedHand$Script;II)I
set_option maxRecDepth 10000 in
theorem aq_123 (d : Nat) (x0 x1 x2 x3 : Int) (M : am_M) : am_Call d 123 [(2, x0), (2, x1), (0, x2), (0, x3)] M = (am_Ex d 123 5 [(2, x0), (2, x1), am_N, (0, x3), (0, 0), (0, x2), am_N, am_N, am_N, am_N, am_N, am_N, am_N] [] M) := by
  show am_Ex d 123 0 [(2, x0), (2, x1), (0, x2), (0, x3), am_N, am_N, am_N, am_N, am_N, am_N, am_N, am_N, am_N] [] M = _
  refine (am_e0 rfl rfl).trans ?_
  refine (am_e0 rfl rfl).trans ?_
  refine (am_e0 rfl rfl).trans ?_
  refine (am_e0 rfl rfl).trans ?_
  exact (am_e5 rfl).trans rfl
set_option maxRecDepth 10000 in
theorem aq_123_5 (d : Nat) (x0 x1 x3 x4 x5 : Int) (M : am_M) : am_Ex d 123 5 [(2, x0), (2, x1), am_N, (0, x3), (0, x4), (0, x5), am_N, am_N, am_N, am_N, am_N, am_N, am_N] [] M = (if x5 < x3 then (if x5 < 0 then (am_Ex d 123 138 [(2, x0), am_N, am_N, am_N, (0, x4), am_N, am_N, am_N, am_N, am_N, am_N, am_N, am_N] [] M) else (if x5 < 300 then (am_g (am_ob x1 8) <| am_g (am_ar (am_rd M x1 0) 20 x5) <| am_let (am_rd M (am_rd M x1 0) x5) fun v106 => if v106 < 0 then (am_let (am_w32 (-v106)) fun v108 => if v108 = 42 then (am_Ex d 123 35 [(2, x0), (2, x1), am_N, (0, x3), (0, x4), (0, x5), (0, v106), (0, v108), am_N, am_N, am_N, am_N, am_N] [] M) else (if v108 < 12 then (am_Ex d 123 38 [(2, x0), (2, x1), am_N, (0, x3), (0, x4), (0, x5), (0, v106), (0, v108), am_N, am_N, am_N, am_N, am_N] [] M) else (if v108 ≤ 20 then (am_Ex d 123 35 [(2, x0), (2, x1), am_N, (0, x3), (0, x4), (0, x5), (0, v106), (0, v108), am_N, am_N, am_N, am_N, am_N] [] M) else (am_Ex d 123 38 [(2, x0), (2, x1), am_N, (0, x3), (0, x4), (0, x5), (0, v106), (0, v108), am_N, am_N, am_N, am_N, am_N] [] M)))) else (if (42 : Int) = 42 then (am_Ex d 123 35 [(2, x0), (2, x1), am_N, (0, x3), (0, x4), (0, x5), (0, v106), (0, 42), am_N, am_N, am_N, am_N, am_N] [] M) else (if (42 : Int) < 12 then (am_Ex d 123 38 [(2, x0), (2, x1), am_N, (0, x3), (0, x4), (0, x5), (0, v106), (0, 42), am_N, am_N, am_N, am_N, am_N] [] M) else (if (42 : Int) ≤ 20 then (am_Ex d 123 35 [(2, x0), (2, x1), am_N, (0, x3), (0, x4), (0, x5), (0, v106), (0, 42), am_N, am_N, am_N, am_N, am_N] [] M) else (am_Ex d 123 38 [(2, x0), (2, x1), am_N, (0, x3), (0, x4), (0, x5), (0, v106), (0, 42), am_N, am_N, am_N, am_N, am_N] [] M))))) else (am_Ex d 123 138 [(2, x0), am_N, am_N, am_N, (0, x4), am_N, am_N, am_N, am_N, am_N, am_N, am_N, am_N] [] M))) else (am_Ex d 123 138 [(2, x0), am_N, am_N, am_N, (0, x4), am_N, am_N, am_N, am_N, am_N, am_N, am_N, am_N] [] M)) := by
  refine (am_e0 rfl rfl).trans ?_
  refine (am_e0 rfl rfl).trans ?_
  refine (am_i_ge rfl).trans (am_if_congr (fun c101 => ?_) (fun c101 => ?_))
  · refine (am_e0 rfl rfl).trans ?_
    refine (am_z_lt rfl).trans (am_if_congr (fun c102 => ?_) (fun c102 => ?_))
    · exact (am_e5 rfl).trans rfl
    · refine (am_e0 rfl rfl).trans ?_
      refine (am_e0 rfl rfl).trans ?_
      refine (am_i_ge rfl).trans (am_if_congr (fun c103 => ?_) (fun c103 => ?_))
      · refine (am_e0 rfl rfl).trans ?_
        refine (am_gf (c := 8) (t := 2) rfl rfl rfl).trans (am_g_congr fun h104 => ?_)
        refine (am_e0 rfl rfl).trans ?_
        refine (am_ial rfl).trans (am_g_congr fun h105 => ?_)
        refine (am_e0 rfl rfl).trans ?_
        refine am_lets (L := fun v106 => [(2, x0), (2, x1), am_N, (0, x3), (0, x4), (0, x5), (0, v106), am_N, am_N, am_N, am_N, am_N, am_N]) (fun v106 => ?_)
        refine (am_e0 rfl rfl).trans ?_
        refine (am_z_ge rfl).trans (am_if_congr (fun c107 => ?_) (fun c107 => ?_))
        · refine (am_e0 rfl rfl).trans ?_
          refine (am_e0 rfl rfl).trans ?_
          refine (am_e1 rfl rfl).trans ?_
          refine (am_e0 rfl rfl).trans ?_
          refine am_lets (L := fun v108 => [(2, x0), (2, x1), am_N, (0, x3), (0, x4), (0, x5), (0, v106), (0, v108), am_N, am_N, am_N, am_N, am_N]) (fun v108 => ?_)
          refine (am_e0 rfl rfl).trans ?_
          refine (am_e0 rfl rfl).trans ?_
          refine (am_i_eq rfl).trans (am_if_congr (fun c109 => ?_) (fun c109 => ?_))
          · exact (am_e5 rfl).trans rfl
          · refine (am_e0 rfl rfl).trans ?_
            refine (am_e0 rfl rfl).trans ?_
            refine (am_i_lt rfl).trans (am_if_congr (fun c110 => ?_) (fun c110 => ?_))
            · exact (am_e5 rfl).trans rfl
            · refine (am_e0 rfl rfl).trans ?_
              refine (am_e0 rfl rfl).trans ?_
              refine (am_i_gt rfl).trans (am_if_congr (fun c111 => ?_) (fun c111 => ?_))
              · exact (am_e5 rfl).trans rfl
              · exact (am_e5 rfl).trans rfl
        · refine (am_e0 rfl rfl).trans ?_
          refine (am_e0 rfl rfl).trans ?_
          refine (am_e0 rfl rfl).trans ?_
          refine (am_e0 rfl rfl).trans ?_
          refine (am_i_eq rfl).trans (am_if_congr (fun c112 => ?_) (fun c112 => ?_))
          · exact (am_e5 rfl).trans rfl
          · refine (am_e0 rfl rfl).trans ?_
            refine (am_e0 rfl rfl).trans ?_
            refine (am_i_lt rfl).trans (am_if_congr (fun c113 => ?_) (fun c113 => ?_))
            · exact (am_e5 rfl).trans rfl
            · refine (am_e0 rfl rfl).trans ?_
              refine (am_e0 rfl rfl).trans ?_
              refine (am_i_gt rfl).trans (am_if_congr (fun c114 => ?_) (fun c114 => ?_))
              · exact (am_e5 rfl).trans rfl
              · exact (am_e5 rfl).trans rfl
      · exact (am_e5 rfl).trans rfl
  · exact (am_e5 rfl).trans rfl
set_option maxRecDepth 10000 in
theorem aq_123_138 (d : Nat) (x0 x4 : Int) (M : am_M) : am_Ex d 123 138 [(2, x0), am_N, am_N, am_N, (0, x4), am_N, am_N, am_N, am_N, am_N, am_N, am_N, am_N] [] M = (if x4 ≤ 0 then (some (0, M)) else (am_g (am_ob x0 4) <| am_g (am_ar (am_rd M x0 3) 20 (am_w32 (x4 - 1))) <| some (am_rd M (am_rd M x0 3) (am_w32 (x4 - 1)), M))) := by
  refine (am_e0 rfl rfl).trans ?_
  refine (am_z_le rfl).trans (am_if_congr (fun c101 => ?_) (fun c101 => ?_))
  · refine (am_e0 rfl rfl).trans ?_
    exact (am_e4i rfl rfl).trans rfl
  · refine (am_e0 rfl rfl).trans ?_
    refine (am_gf (c := 4) (t := 2) rfl rfl rfl).trans (am_g_congr fun h102 => ?_)
    refine (am_e0 rfl rfl).trans ?_
    refine (am_e0 rfl rfl).trans ?_
    refine (am_e0 rfl rfl).trans ?_
    refine (am_ial rfl).trans (am_g_congr fun h103 => ?_)
    refine (am_e1 rfl rfl).trans ?_
    exact (am_e4i rfl rfl).trans rfl
set_option maxRecDepth 10000 in
theorem aq_123_35 (d : Nat) (x0 x1 x3 x4 x5 x6 x7 : Int) (M : am_M) : am_Ex d 123 35 [(2, x0), (2, x1), am_N, (0, x3), (0, x4), (0, x5), (0, x6), (0, x7), am_N, am_N, am_N, am_N, am_N] [] M = (if x7 = 23 then (am_Ex d 123 50 [(2, x0), (2, x1), am_N, (0, x3), (0, x4), (0, x5), (0, x6), (0, x7), (0, 1), am_N, am_N, am_N, am_N] [] M) else (if x7 = 24 then (am_Ex d 123 50 [(2, x0), (2, x1), am_N, (0, x3), (0, x4), (0, x5), (0, x6), (0, x7), (0, 1), am_N, am_N, am_N, am_N] [] M) else (if x7 = 45 then (am_Ex d 123 50 [(2, x0), (2, x1), am_N, (0, x3), (0, x4), (0, x5), (0, x6), (0, x7), (0, 1), am_N, am_N, am_N, am_N] [] M) else (if (1 : Int) = 0 then (if (0 : Int) = 0 then (if x4 < 2 then (some (0, M)) else (if am_w32 (x4 - 2) < 64 then (if (2 : Int) ≤ 0 then (if (2 : Int) ≤ 1 then (am_let (am_w32 (x4 - 2)) fun v110 => if (1 : Int) = 0 then (am_g (am_ob x0 4) <| if (0 : Int) = 0 then ((am_Call d 33 [(0, x7), (0, 0), (0, 0)] M).bind fun r114 => am_g (am_ar (am_rd M x0 3) 20 v110) <| am_let (am_wr r114.2 (am_rd M x0 3) v110 r114.1) fun M116 => am_Ex d 123 134 [(2, x0), (2, x1), am_N, (0, x3), (0, v110), (0, x5), am_N, am_N, am_N, am_N, am_N, am_N, am_N] [] M116) else ((am_Call d 32 [(0, x7), (0, 0)] M).bind fun r117 => am_g (am_ar (am_rd M x0 3) 20 v110) <| am_let (am_wr r117.2 (am_rd M x0 3) v110 r117.1) fun M119 => am_Ex d 123 134 [(2, x0), (2, x1), am_N, (0, x3), (0, v110), (0, x5), am_N, am_N, am_N, am_N, am_N, am_N, am_N] [] M119)) else (am_g (am_ob x0 4) <| if x6 < 0 then (am_g (am_ar (am_rd M x0 2) 20 (am_w32 (x7 - 12))) <| am_g (am_ar (am_rd M x0 3) 20 v110) <| am_let (am_wr M (am_rd M x0 3) v110 (am_rd M (am_rd M x0 2) (am_w32 (x7 - 12)))) fun M124 => am_Ex d 123 134 [(2, x0), (2, x1), am_N, (0, x3), (0, v110), (0, x5), am_N, am_N, am_N, am_N, am_N, am_N, am_N] [] M124) else (am_g (am_ar (am_rd M x0 3) 20 v110) <| am_let (am_wr M (am_rd M x0 3) v110 x6) fun M126 => am_Ex d 123 134 [(2, x0), (2, x1), am_N, (0, x3), (0, v110), (0, x5), am_N, am_N, am_N, am_N, am_N, am_N, am_N] [] M126))) else (am_g (am_ob x0 4) <| am_g (am_ar (am_rd M x0 3) 20 (am_w32 (x4 - 2))) <| am_let (am_rd M (am_rd M x0 3) (am_w32 (x4 - 2))) fun v129 => am_let (am_w32 (x4 - 2)) fun v130 => if (1 : Int) = 0 then (if (0 : Int) = 0 then ((am_Call d 33 [(0, x7), (0, v129), (0, 0)] M).bind fun r133 => am_g (am_ar (am_rd M x0 3) 20 v130) <| am_let (am_wr r133.2 (am_rd M x0 3) v130 r133.1) fun M135 => am_Ex d 123 134 [(2, x0), (2, x1), am_N, (0, x3), (0, v130), (0, x5), am_N, am_N, am_N, am_N, am_N, am_N, am_N] [] M135) else ((am_Call d 32 [(0, x7), (0, 0)] M).bind fun r136 => am_g (am_ar (am_rd M x0 3) 20 v130) <| am_let (am_wr r136.2 (am_rd M x0 3) v130 r136.1) fun M138 => am_Ex d 123 134 [(2, x0), (2, x1), am_N, (0, x3), (0, v130), (0, x5), am_N, am_N, am_N, am_N, am_N, am_N, am_N] [] M138)) else (if x6 < 0 then (am_g (am_ar (am_rd M x0 2) 20 (am_w32 (x7 - 12))) <| am_g (am_ar (am_rd M x0 3) 20 v130) <| am_let (am_wr M (am_rd M x0 3) v130 (am_rd M (am_rd M x0 2) (am_w32 (x7 - 12)))) fun M142 => am_Ex d 123 134 [(2, x0), (2, x1), am_N, (0, x3), (0, v130), (0, x5), am_N, am_N, am_N, am_N, am_N, am_N, am_N] [] M142) else (am_g (am_ar (am_rd M x0 3) 20 v130) <| am_let (am_wr M (am_rd M x0 3) v130 x6) fun M144 => am_Ex d 123 134 [(2, x0), (2, x1), am_N, (0, x3), (0, v130), (0, x5), am_N, am_N, am_N, am_N, am_N, am_N, am_N] [] M144)))) else (am_g (am_ob x0 4) <| am_g (am_ar (am_rd M x0 3) 20 (am_w32 (x4 - 1))) <| am_let (am_rd M (am_rd M x0 3) (am_w32 (x4 - 1))) fun v147 => if (2 : Int) ≤ 1 then (am_let (am_w32 (x4 - 2)) fun v149 => if (1 : Int) = 0 then (if (0 : Int) = 0 then ((am_Call d 33 [(0, x7), (0, 0), (0, v147)] M).bind fun r152 => am_g (am_ar (am_rd M x0 3) 20 v149) <| am_let (am_wr r152.2 (am_rd M x0 3) v149 r152.1) fun M154 => am_Ex d 123 134 [(2, x0), (2, x1), am_N, (0, x3), (0, v149), (0, x5), am_N, am_N, am_N, am_N, am_N, am_N, am_N] [] M154) else ((am_Call d 32 [(0, x7), (0, v147)] M).bind fun r155 => am_g (am_ar (am_rd M x0 3) 20 v149) <| am_let (am_wr r155.2 (am_rd M x0 3) v149 r155.1) fun M157 => am_Ex d 123 134 [(2, x0), (2, x1), am_N, (0, x3), (0, v149), (0, x5), am_N, am_N, am_N, am_N, am_N, am_N, am_N] [] M157)) else (if x6 < 0 then (am_g (am_ar (am_rd M x0 2) 20 (am_w32 (x7 - 12))) <| am_g (am_ar (am_rd M x0 3) 20 v149) <| am_let (am_wr M (am_rd M x0 3) v149 (am_rd M (am_rd M x0 2) (am_w32 (x7 - 12)))) fun M161 => am_Ex d 123 134 [(2, x0), (2, x1), am_N, (0, x3), (0, v149), (0, x5), am_N, am_N, am_N, am_N, am_N, am_N, am_N] [] M161) else (am_g (am_ar (am_rd M x0 3) 20 v149) <| am_let (am_wr M (am_rd M x0 3) v149 x6) fun M163 => am_Ex d 123 134 [(2, x0), (2, x1), am_N, (0, x3), (0, v149), (0, x5), am_N, am_N, am_N, am_N, am_N, am_N, am_N] [] M163))) else (am_g (am_ar (am_rd M x0 3) 20 (am_w32 (x4 - 2))) <| am_let (am_rd M (am_rd M x0 3) (am_w32 (x4 - 2))) fun v165 => am_let (am_w32 (x4 - 2)) fun v166 => if (1 : Int) = 0 then (if (0 : Int) = 0 then ((am_Call d 33 [(0, x7), (0, v165), (0, v147)] M).bind fun r169 => am_g (am_ar (am_rd M x0 3) 20 v166) <| am_let (am_wr r169.2 (am_rd M x0 3) v166 r169.1) fun M171 => am_Ex d 123 134 [(2, x0), (2, x1), am_N, (0, x3), (0, v166), (0, x5), am_N, am_N, am_N, am_N, am_N, am_N, am_N] [] M171) else ((am_Call d 32 [(0, x7), (0, v147)] M).bind fun r172 => am_g (am_ar (am_rd M x0 3) 20 v166) <| am_let (am_wr r172.2 (am_rd M x0 3) v166 r172.1) fun M174 => am_Ex d 123 134 [(2, x0), (2, x1), am_N, (0, x3), (0, v166), (0, x5), am_N, am_N, am_N, am_N, am_N, am_N, am_N] [] M174)) else (if x6 < 0 then (am_g (am_ar (am_rd M x0 2) 20 (am_w32 (x7 - 12))) <| am_g (am_ar (am_rd M x0 3) 20 v166) <| am_let (am_wr M (am_rd M x0 3) v166 (am_rd M (am_rd M x0 2) (am_w32 (x7 - 12)))) fun M178 => am_Ex d 123 134 [(2, x0), (2, x1), am_N, (0, x3), (0, v166), (0, x5), am_N, am_N, am_N, am_N, am_N, am_N, am_N] [] M178) else (am_g (am_ar (am_rd M x0 3) 20 v166) <| am_let (am_wr M (am_rd M x0 3) v166 x6) fun M180 => am_Ex d 123 134 [(2, x0), (2, x1), am_N, (0, x3), (0, v166), (0, x5), am_N, am_N, am_N, am_N, am_N, am_N, am_N] [] M180))))) else (some (0, M)))) else (if x4 < 1 then (some (0, M)) else (if am_w32 (x4 - 1) < 64 then (if (1 : Int) ≤ 0 then (if (1 : Int) ≤ 1 then (am_let (am_w32 (x4 - 1)) fun v185 => if (1 : Int) = 0 then (am_g (am_ob x0 4) <| if (0 : Int) = 0 then ((am_Call d 33 [(0, x7), (0, 0), (0, 0)] M).bind fun r189 => am_g (am_ar (am_rd M x0 3) 20 v185) <| am_let (am_wr r189.2 (am_rd M x0 3) v185 r189.1) fun M191 => am_Ex d 123 134 [(2, x0), (2, x1), am_N, (0, x3), (0, v185), (0, x5), am_N, am_N, am_N, am_N, am_N, am_N, am_N] [] M191) else ((am_Call d 32 [(0, x7), (0, 0)] M).bind fun r192 => am_g (am_ar (am_rd M x0 3) 20 v185) <| am_let (am_wr r192.2 (am_rd M x0 3) v185 r192.1) fun M194 => am_Ex d 123 134 [(2, x0), (2, x1), am_N, (0, x3), (0, v185), (0, x5), am_N, am_N, am_N, am_N, am_N, am_N, am_N] [] M194)) else (am_g (am_ob x0 4) <| if x6 < 0 then (am_g (am_ar (am_rd M x0 2) 20 (am_w32 (x7 - 12))) <| am_g (am_ar (am_rd M x0 3) 20 v185) <| am_let (am_wr M (am_rd M x0 3) v185 (am_rd M (am_rd M x0 2) (am_w32 (x7 - 12)))) fun M199 => am_Ex d 123 134 [(2, x0), (2, x1), am_N, (0, x3), (0, v185), (0, x5), am_N, am_N, am_N, am_N, am_N, am_N, am_N] [] M199) else (am_g (am_ar (am_rd M x0 3) 20 v185) <| am_let (am_wr M (am_rd M x0 3) v185 x6) fun M201 => am_Ex d 123 134 [(2, x0), (2, x1), am_N, (0, x3), (0, v185), (0, x5), am_N, am_N, am_N, am_N, am_N, am_N, am_N] [] M201))) else (am_g (am_ob x0 4) <| am_g (am_ar (am_rd M x0 3) 20 (am_w32 (x4 - 2))) <| am_let (am_rd M (am_rd M x0 3) (am_w32 (x4 - 2))) fun v204 => am_let (am_w32 (x4 - 1)) fun v205 => if (1 : Int) = 0 then (if (0 : Int) = 0 then ((am_Call d 33 [(0, x7), (0, v204), (0, 0)] M).bind fun r208 => am_g (am_ar (am_rd M x0 3) 20 v205) <| am_let (am_wr r208.2 (am_rd M x0 3) v205 r208.1) fun M210 => am_Ex d 123 134 [(2, x0), (2, x1), am_N, (0, x3), (0, v205), (0, x5), am_N, am_N, am_N, am_N, am_N, am_N, am_N] [] M210) else ((am_Call d 32 [(0, x7), (0, 0)] M).bind fun r211 => am_g (am_ar (am_rd M x0 3) 20 v205) <| am_let (am_wr r211.2 (am_rd M x0 3) v205 r211.1) fun M213 => am_Ex d 123 134 [(2, x0), (2, x1), am_N, (0, x3), (0, v205), (0, x5), am_N, am_N, am_N, am_N, am_N, am_N, am_N] [] M213)) else (if x6 < 0 then (am_g (am_ar (am_rd M x0 2) 20 (am_w32 (x7 - 12))) <| am_g (am_ar (am_rd M x0 3) 20 v205) <| am_let (am_wr M (am_rd M x0 3) v205 (am_rd M (am_rd M x0 2) (am_w32 (x7 - 12)))) fun M217 => am_Ex d 123 134 [(2, x0), (2, x1), am_N, (0, x3), (0, v205), (0, x5), am_N, am_N, am_N, am_N, am_N, am_N, am_N] [] M217) else (am_g (am_ar (am_rd M x0 3) 20 v205) <| am_let (am_wr M (am_rd M x0 3) v205 x6) fun M219 => am_Ex d 123 134 [(2, x0), (2, x1), am_N, (0, x3), (0, v205), (0, x5), am_N, am_N, am_N, am_N, am_N, am_N, am_N] [] M219)))) else (am_g (am_ob x0 4) <| am_g (am_ar (am_rd M x0 3) 20 (am_w32 (x4 - 1))) <| am_let (am_rd M (am_rd M x0 3) (am_w32 (x4 - 1))) fun v222 => if (1 : Int) ≤ 1 then (am_let (am_w32 (x4 - 1)) fun v224 => if (1 : Int) = 0 then (if (0 : Int) = 0 then ((am_Call d 33 [(0, x7), (0, 0), (0, v222)] M).bind fun r227 => am_g (am_ar (am_rd M x0 3) 20 v224) <| am_let (am_wr r227.2 (am_rd M x0 3) v224 r227.1) fun M229 => am_Ex d 123 134 [(2, x0), (2, x1), am_N, (0, x3), (0, v224), (0, x5), am_N, am_N, am_N, am_N, am_N, am_N, am_N] [] M229) else ((am_Call d 32 [(0, x7), (0, v222)] M).bind fun r230 => am_g (am_ar (am_rd M x0 3) 20 v224) <| am_let (am_wr r230.2 (am_rd M x0 3) v224 r230.1) fun M232 => am_Ex d 123 134 [(2, x0), (2, x1), am_N, (0, x3), (0, v224), (0, x5), am_N, am_N, am_N, am_N, am_N, am_N, am_N] [] M232)) else (if x6 < 0 then (am_g (am_ar (am_rd M x0 2) 20 (am_w32 (x7 - 12))) <| am_g (am_ar (am_rd M x0 3) 20 v224) <| am_let (am_wr M (am_rd M x0 3) v224 (am_rd M (am_rd M x0 2) (am_w32 (x7 - 12)))) fun M236 => am_Ex d 123 134 [(2, x0), (2, x1), am_N, (0, x3), (0, v224), (0, x5), am_N, am_N, am_N, am_N, am_N, am_N, am_N] [] M236) else (am_g (am_ar (am_rd M x0 3) 20 v224) <| am_let (am_wr M (am_rd M x0 3) v224 x6) fun M238 => am_Ex d 123 134 [(2, x0), (2, x1), am_N, (0, x3), (0, v224), (0, x5), am_N, am_N, am_N, am_N, am_N, am_N, am_N] [] M238))) else (am_g (am_ar (am_rd M x0 3) 20 (am_w32 (x4 - 2))) <| am_let (am_rd M (am_rd M x0 3) (am_w32 (x4 - 2))) fun v240 => am_let (am_w32 (x4 - 1)) fun v241 => if (1 : Int) = 0 then (if (0 : Int) = 0 then ((am_Call d 33 [(0, x7), (0, v240), (0, v222)] M).bind fun r244 => am_g (am_ar (am_rd M x0 3) 20 v241) <| am_let (am_wr r244.2 (am_rd M x0 3) v241 r244.1) fun M246 => am_Ex d 123 134 [(2, x0), (2, x1), am_N, (0, x3), (0, v241), (0, x5), am_N, am_N, am_N, am_N, am_N, am_N, am_N] [] M246) else ((am_Call d 32 [(0, x7), (0, v222)] M).bind fun r247 => am_g (am_ar (am_rd M x0 3) 20 v241) <| am_let (am_wr r247.2 (am_rd M x0 3) v241 r247.1) fun M249 => am_Ex d 123 134 [(2, x0), (2, x1), am_N, (0, x3), (0, v241), (0, x5), am_N, am_N, am_N, am_N, am_N, am_N, am_N] [] M249)) else (if x6 < 0 then (am_g (am_ar (am_rd M x0 2) 20 (am_w32 (x7 - 12))) <| am_g (am_ar (am_rd M x0 3) 20 v241) <| am_let (am_wr M (am_rd M x0 3) v241 (am_rd M (am_rd M x0 2) (am_w32 (x7 - 12)))) fun M253 => am_Ex d 123 134 [(2, x0), (2, x1), am_N, (0, x3), (0, v241), (0, x5), am_N, am_N, am_N, am_N, am_N, am_N, am_N] [] M253) else (am_g (am_ar (am_rd M x0 3) 20 v241) <| am_let (am_wr M (am_rd M x0 3) v241 x6) fun M255 => am_Ex d 123 134 [(2, x0), (2, x1), am_N, (0, x3), (0, v241), (0, x5), am_N, am_N, am_N, am_N, am_N, am_N, am_N] [] M255))))) else (some (0, M))))) else (if x4 < 0 then (some (0, M)) else (if am_w32 (x4 - 0) < 64 then (if (0 : Int) ≤ 0 then (if (0 : Int) ≤ 1 then (am_let (am_w32 (x4 - 0)) fun v260 => if (1 : Int) = 0 then (am_g (am_ob x0 4) <| if (0 : Int) = 0 then ((am_Call d 33 [(0, x7), (0, 0), (0, 0)] M).bind fun r264 => am_g (am_ar (am_rd M x0 3) 20 v260) <| am_let (am_wr r264.2 (am_rd M x0 3) v260 r264.1) fun M266 => am_Ex d 123 134 [(2, x0), (2, x1), am_N, (0, x3), (0, v260), (0, x5), am_N, am_N, am_N, am_N, am_N, am_N, am_N] [] M266) else ((am_Call d 32 [(0, x7), (0, 0)] M).bind fun r267 => am_g (am_ar (am_rd M x0 3) 20 v260) <| am_let (am_wr r267.2 (am_rd M x0 3) v260 r267.1) fun M269 => am_Ex d 123 134 [(2, x0), (2, x1), am_N, (0, x3), (0, v260), (0, x5), am_N, am_N, am_N, am_N, am_N, am_N, am_N] [] M269)) else (am_g (am_ob x0 4) <| if x6 < 0 then (am_g (am_ar (am_rd M x0 2) 20 (am_w32 (x7 - 12))) <| am_g (am_ar (am_rd M x0 3) 20 v260) <| am_let (am_wr M (am_rd M x0 3) v260 (am_rd M (am_rd M x0 2) (am_w32 (x7 - 12)))) fun M274 => am_Ex d 123 134 [(2, x0), (2, x1), am_N, (0, x3), (0, v260), (0, x5), am_N, am_N, am_N, am_N, am_N, am_N, am_N] [] M274) else (am_g (am_ar (am_rd M x0 3) 20 v260) <| am_let (am_wr M (am_rd M x0 3) v260 x6) fun M276 => am_Ex d 123 134 [(2, x0), (2, x1), am_N, (0, x3), (0, v260), (0, x5), am_N, am_N, am_N, am_N, am_N, am_N, am_N] [] M276))) else (am_g (am_ob x0 4) <| am_g (am_ar (am_rd M x0 3) 20 (am_w32 (x4 - 2))) <| am_let (am_rd M (am_rd M x0 3) (am_w32 (x4 - 2))) fun v279 => am_let (am_w32 (x4 - 0)) fun v280 => if (1 : Int) = 0 then (if (0 : Int) = 0 then ((am_Call d 33 [(0, x7), (0, v279), (0, 0)] M).bind fun r283 => am_g (am_ar (am_rd M x0 3) 20 v280) <| am_let (am_wr r283.2 (am_rd M x0 3) v280 r283.1) fun M285 => am_Ex d 123 134 [(2, x0), (2, x1), am_N, (0, x3), (0, v280), (0, x5), am_N, am_N, am_N, am_N, am_N, am_N, am_N] [] M285) else ((am_Call d 32 [(0, x7), (0, 0)] M).bind fun r286 => am_g (am_ar (am_rd M x0 3) 20 v280) <| am_let (am_wr r286.2 (am_rd M x0 3) v280 r286.1) fun M288 => am_Ex d 123 134 [(2, x0), (2, x1), am_N, (0, x3), (0, v280), (0, x5), am_N, am_N, am_N, am_N, am_N, am_N, am_N] [] M288)) else (if x6 < 0 then (am_g (am_ar (am_rd M x0 2) 20 (am_w32 (x7 - 12))) <| am_g (am_ar (am_rd M x0 3) 20 v280) <| am_let (am_wr M (am_rd M x0 3) v280 (am_rd M (am_rd M x0 2) (am_w32 (x7 - 12)))) fun M292 => am_Ex d 123 134 [(2, x0), (2, x1), am_N, (0, x3), (0, v280), (0, x5), am_N, am_N, am_N, am_N, am_N, am_N, am_N] [] M292) else (am_g (am_ar (am_rd M x0 3) 20 v280) <| am_let (am_wr M (am_rd M x0 3) v280 x6) fun M294 => am_Ex d 123 134 [(2, x0), (2, x1), am_N, (0, x3), (0, v280), (0, x5), am_N, am_N, am_N, am_N, am_N, am_N, am_N] [] M294)))) else (am_g (am_ob x0 4) <| am_g (am_ar (am_rd M x0 3) 20 (am_w32 (x4 - 1))) <| am_let (am_rd M (am_rd M x0 3) (am_w32 (x4 - 1))) fun v297 => if (0 : Int) ≤ 1 then (am_let (am_w32 (x4 - 0)) fun v299 => if (1 : Int) = 0 then (if (0 : Int) = 0 then ((am_Call d 33 [(0, x7), (0, 0), (0, v297)] M).bind fun r302 => am_g (am_ar (am_rd M x0 3) 20 v299) <| am_let (am_wr r302.2 (am_rd M x0 3) v299 r302.1) fun M304 => am_Ex d 123 134 [(2, x0), (2, x1), am_N, (0, x3), (0, v299), (0, x5), am_N, am_N, am_N, am_N, am_N, am_N, am_N] [] M304) else ((am_Call d 32 [(0, x7), (0, v297)] M).bind fun r305 => am_g (am_ar (am_rd M x0 3) 20 v299) <| am_let (am_wr r305.2 (am_rd M x0 3) v299 r305.1) fun M307 => am_Ex d 123 134 [(2, x0), (2, x1), am_N, (0, x3), (0, v299), (0, x5), am_N, am_N, am_N, am_N, am_N, am_N, am_N] [] M307)) else (if x6 < 0 then (am_g (am_ar (am_rd M x0 2) 20 (am_w32 (x7 - 12))) <| am_g (am_ar (am_rd M x0 3) 20 v299) <| am_let (am_wr M (am_rd M x0 3) v299 (am_rd M (am_rd M x0 2) (am_w32 (x7 - 12)))) fun M311 => am_Ex d 123 134 [(2, x0), (2, x1), am_N, (0, x3), (0, v299), (0, x5), am_N, am_N, am_N, am_N, am_N, am_N, am_N] [] M311) else (am_g (am_ar (am_rd M x0 3) 20 v299) <| am_let (am_wr M (am_rd M x0 3) v299 x6) fun M313 => am_Ex d 123 134 [(2, x0), (2, x1), am_N, (0, x3), (0, v299), (0, x5), am_N, am_N, am_N, am_N, am_N, am_N, am_N] [] M313))) else (am_g (am_ar (am_rd M x0 3) 20 (am_w32 (x4 - 2))) <| am_let (am_rd M (am_rd M x0 3) (am_w32 (x4 - 2))) fun v315 => am_let (am_w32 (x4 - 0)) fun v316 => if (1 : Int) = 0 then (if (0 : Int) = 0 then ((am_Call d 33 [(0, x7), (0, v315), (0, v297)] M).bind fun r319 => am_g (am_ar (am_rd M x0 3) 20 v316) <| am_let (am_wr r319.2 (am_rd M x0 3) v316 r319.1) fun M321 => am_Ex d 123 134 [(2, x0), (2, x1), am_N, (0, x3), (0, v316), (0, x5), am_N, am_N, am_N, am_N, am_N, am_N, am_N] [] M321) else ((am_Call d 32 [(0, x7), (0, v297)] M).bind fun r322 => am_g (am_ar (am_rd M x0 3) 20 v316) <| am_let (am_wr r322.2 (am_rd M x0 3) v316 r322.1) fun M324 => am_Ex d 123 134 [(2, x0), (2, x1), am_N, (0, x3), (0, v316), (0, x5), am_N, am_N, am_N, am_N, am_N, am_N, am_N] [] M324)) else (if x6 < 0 then (am_g (am_ar (am_rd M x0 2) 20 (am_w32 (x7 - 12))) <| am_g (am_ar (am_rd M x0 3) 20 v316) <| am_let (am_wr M (am_rd M x0 3) v316 (am_rd M (am_rd M x0 2) (am_w32 (x7 - 12)))) fun M328 => am_Ex d 123 134 [(2, x0), (2, x1), am_N, (0, x3), (0, v316), (0, x5), am_N, am_N, am_N, am_N, am_N, am_N, am_N] [] M328) else (am_g (am_ar (am_rd M x0 3) 20 v316) <| am_let (am_wr M (am_rd M x0 3) v316 x6) fun M330 => am_Ex d 123 134 [(2, x0), (2, x1), am_N, (0, x3), (0, v316), (0, x5), am_N, am_N, am_N, am_N, am_N, am_N, am_N] [] M330))))) else (some (0, M)))))))) := by
  refine (am_e0 rfl rfl).trans ?_
  refine (am_e1 rfl rfl).trans ?_
  refine (am_e0 rfl rfl).trans ?_
  refine (am_e0 rfl rfl).trans ?_
  refine (am_e0 rfl rfl).trans ?_
  refine (am_i_eq rfl).trans (am_if_congr (fun c101 => ?_) (fun c101 => ?_))
  · exact (am_e5 rfl).trans rfl
  · refine (am_e0 rfl rfl).trans ?_
    refine (am_e0 rfl rfl).trans ?_
    refine (am_i_eq rfl).trans (am_if_congr (fun c102 => ?_) (fun c102 => ?_))
    · exact (am_e5 rfl).trans rfl
    · refine (am_e0 rfl rfl).trans ?_
      refine (am_e0 rfl rfl).trans ?_
      refine (am_i_ne rfl).trans (am_if_congr (fun c103 => ?_) (fun c103 => ?_))
      · exact (am_e5 rfl).trans rfl
      · refine (am_e0 rfl rfl).trans ?_
        refine (am_e0 rfl rfl).trans ?_
        refine (am_e0 rfl rfl).trans ?_
        refine (am_z_eq rfl).trans (am_if_congr (fun c104 => ?_) (fun c104 => ?_))
        · refine (am_e0 rfl rfl).trans ?_
          refine (am_z_eq rfl).trans (am_if_congr (fun c105 => ?_) (fun c105 => ?_))
          · refine (am_e0 rfl rfl).trans ?_
            refine (am_e0 rfl rfl).trans ?_
            refine (am_e0 rfl rfl).trans ?_
            refine (am_e0 rfl rfl).trans ?_
            refine (am_i_lt rfl).trans (am_if_congr (fun c106 => ?_) (fun c106 => ?_))
            · refine (am_e5 rfl).trans ?_
              show am_Ex d 123 73 [am_N, am_N, am_N, am_N, am_N, am_N, am_N, am_N, am_N, am_N, am_N, am_N, am_N] [] M = _
              refine (am_e0 rfl rfl).trans ?_
              exact (am_e4i rfl rfl).trans rfl
            · refine (am_e0 rfl rfl).trans ?_
              refine (am_e0 rfl rfl).trans ?_
              refine (am_e0 rfl rfl).trans ?_
              refine (am_e0 rfl rfl).trans ?_
              refine (am_i_lt rfl).trans (am_if_congr (fun c107 => ?_) (fun c107 => ?_))
              · refine (am_e0 rfl rfl).trans ?_
                refine (am_z_le rfl).trans (am_if_congr (fun c108 => ?_) (fun c108 => ?_))
                · refine (am_e0 rfl rfl).trans ?_
                  refine (am_e0 rfl rfl).trans ?_
                  refine (am_e0 rfl rfl).trans ?_
                  refine (am_e0 rfl rfl).trans ?_
                  refine (am_i_le rfl).trans (am_if_congr (fun c109 => ?_) (fun c109 => ?_))
                  · refine (am_e0 rfl rfl).trans ?_
                    refine (am_e0 rfl rfl).trans ?_
                    refine (am_e0 rfl rfl).trans ?_
                    refine (am_e0 rfl rfl).trans ?_
                    refine (am_e0 rfl rfl).trans ?_
                    refine (am_e0 rfl rfl).trans ?_
                    refine am_lets (L := fun v110 => [(2, x0), (2, x1), am_N, (0, x3), (0, v110), (0, x5), (0, x6), (0, x7), (0, 1), (0, 0), (0, 2), (0, 0), (0, 0)]) (fun v110 => ?_)
                    refine (am_e0 rfl rfl).trans ?_
                    refine (am_z_eq rfl).trans (am_if_congr (fun c111 => ?_) (fun c111 => ?_))
                    · refine (am_e0 rfl rfl).trans ?_
                      refine (am_gf (c := 4) (t := 2) rfl rfl rfl).trans (am_g_congr fun h112 => ?_)
                      refine (am_e0 rfl rfl).trans ?_
                      refine (am_e0 rfl rfl).trans ?_
                      refine (am_z_eq rfl).trans (am_if_congr (fun c113 => ?_) (fun c113 => ?_))
                      · refine (am_e0 rfl rfl).trans ?_
                        refine (am_e0 rfl rfl).trans ?_
                        refine (am_e0 rfl rfl).trans ?_
                        refine (am_cal3 (z := 33) (k := 3) (c := true) rfl rfl rfl rfl rfl rfl rfl rfl).trans ((am_g_t rfl).trans ?_)
                        refine am_bind_congr fun r114 => ?_
                        show am_Ex d 123 132 [(2, x0), (2, x1), am_N, (0, x3), (0, v110), (0, x5), (0, x6), (0, x7), (0, 1), (0, 0), (0, 2), (0, 0), (0, 0)] [(0, r114.1), (0, v110), (2, am_rd M x0 3)] r114.2 = _
                        refine (am_ias rfl).trans (am_g_congr fun h115 => ?_)
                        refine am_letm (fun M116 => ?_)
                        exact (am_e5 rfl).trans rfl
                      · refine (am_e0 rfl rfl).trans ?_
                        refine (am_e0 rfl rfl).trans ?_
                        refine (am_cal3 (z := 32) (k := 2) (c := true) rfl rfl rfl rfl rfl rfl rfl rfl).trans ((am_g_t rfl).trans ?_)
                        refine am_bind_congr fun r117 => ?_
                        show am_Ex d 123 127 [(2, x0), (2, x1), am_N, (0, x3), (0, v110), (0, x5), (0, x6), (0, x7), (0, 1), (0, 0), (0, 2), (0, 0), (0, 0)] [(0, r117.1), (0, v110), (2, am_rd M x0 3)] r117.2 = _
                        refine (am_e1 rfl rfl).trans ?_
                        refine (am_ias rfl).trans (am_g_congr fun h118 => ?_)
                        refine am_letm (fun M119 => ?_)
                        exact (am_e5 rfl).trans rfl
                    · refine (am_e0 rfl rfl).trans ?_
                      refine (am_gf (c := 4) (t := 2) rfl rfl rfl).trans (am_g_congr fun h120 => ?_)
                      refine (am_e0 rfl rfl).trans ?_
                      refine (am_e0 rfl rfl).trans ?_
                      refine (am_z_lt rfl).trans (am_if_congr (fun c121 => ?_) (fun c121 => ?_))
                      · refine (am_e0 rfl rfl).trans ?_
                        refine (am_gf (c := 4) (t := 2) rfl rfl rfl).trans ((am_g_t h120).trans ?_)
                        refine (am_e0 rfl rfl).trans ?_
                        refine (am_e0 rfl rfl).trans ?_
                        refine (am_e0 rfl rfl).trans ?_
                        refine (am_ial rfl).trans (am_g_congr fun h122 => ?_)
                        refine (am_ias rfl).trans (am_g_congr fun h123 => ?_)
                        refine am_letm (fun M124 => ?_)
                        refine (am_e1 rfl rfl).trans ?_
                        exact (am_e5 rfl).trans rfl
                      · refine (am_e0 rfl rfl).trans ?_
                        refine (am_e1 rfl rfl).trans ?_
                        refine (am_ias rfl).trans (am_g_congr fun h125 => ?_)
                        refine am_letm (fun M126 => ?_)
                        refine (am_e1 rfl rfl).trans ?_
                        exact (am_e5 rfl).trans rfl
                  · refine (am_e0 rfl rfl).trans ?_
                    refine (am_gf (c := 4) (t := 2) rfl rfl rfl).trans (am_g_congr fun h127 => ?_)
                    refine (am_e0 rfl rfl).trans ?_
                    refine (am_e0 rfl rfl).trans ?_
                    refine (am_e0 rfl rfl).trans ?_
                    refine (am_ial rfl).trans (am_g_congr fun h128 => ?_)
                    refine (am_e1 rfl rfl).trans ?_
                    refine (am_e0 rfl rfl).trans ?_
                    refine am_lets (L := fun v129 => [(2, x0), (2, x1), am_N, (0, x3), (0, x4), (0, x5), (0, x6), (0, x7), (0, 1), (0, 0), (0, 2), (0, 0), (0, v129)]) (fun v129 => ?_)
                    refine (am_e0 rfl rfl).trans ?_
                    refine (am_e0 rfl rfl).trans ?_
                    refine (am_e0 rfl rfl).trans ?_
                    refine (am_e0 rfl rfl).trans ?_
                    refine am_lets (L := fun v130 => [(2, x0), (2, x1), am_N, (0, x3), (0, v130), (0, x5), (0, x6), (0, x7), (0, 1), (0, 0), (0, 2), (0, 0), (0, v129)]) (fun v130 => ?_)
                    refine (am_e0 rfl rfl).trans ?_
                    refine (am_z_eq rfl).trans (am_if_congr (fun c131 => ?_) (fun c131 => ?_))
                    · refine (am_e0 rfl rfl).trans ?_
                      refine (am_gf (c := 4) (t := 2) rfl rfl rfl).trans ((am_g_t h127).trans ?_)
                      refine (am_e0 rfl rfl).trans ?_
                      refine (am_e0 rfl rfl).trans ?_
                      refine (am_z_eq rfl).trans (am_if_congr (fun c132 => ?_) (fun c132 => ?_))
                      · refine (am_e0 rfl rfl).trans ?_
                        refine (am_e0 rfl rfl).trans ?_
                        refine (am_e0 rfl rfl).trans ?_
                        refine (am_cal3 (z := 33) (k := 3) (c := true) rfl rfl rfl rfl rfl rfl rfl rfl).trans ((am_g_t rfl).trans ?_)
                        refine am_bind_congr fun r133 => ?_
                        show am_Ex d 123 132 [(2, x0), (2, x1), am_N, (0, x3), (0, v130), (0, x5), (0, x6), (0, x7), (0, 1), (0, 0), (0, 2), (0, 0), (0, v129)] [(0, r133.1), (0, v130), (2, am_rd M x0 3)] r133.2 = _
                        refine (am_ias rfl).trans (am_g_congr fun h134 => ?_)
                        refine am_letm (fun M135 => ?_)
                        exact (am_e5 rfl).trans rfl
                      · refine (am_e0 rfl rfl).trans ?_
                        refine (am_e0 rfl rfl).trans ?_
                        refine (am_cal3 (z := 32) (k := 2) (c := true) rfl rfl rfl rfl rfl rfl rfl rfl).trans ((am_g_t rfl).trans ?_)
                        refine am_bind_congr fun r136 => ?_
                        show am_Ex d 123 127 [(2, x0), (2, x1), am_N, (0, x3), (0, v130), (0, x5), (0, x6), (0, x7), (0, 1), (0, 0), (0, 2), (0, 0), (0, v129)] [(0, r136.1), (0, v130), (2, am_rd M x0 3)] r136.2 = _
                        refine (am_e1 rfl rfl).trans ?_
                        refine (am_ias rfl).trans (am_g_congr fun h137 => ?_)
                        refine am_letm (fun M138 => ?_)
                        exact (am_e5 rfl).trans rfl
                    · refine (am_e0 rfl rfl).trans ?_
                      refine (am_gf (c := 4) (t := 2) rfl rfl rfl).trans ((am_g_t h127).trans ?_)
                      refine (am_e0 rfl rfl).trans ?_
                      refine (am_e0 rfl rfl).trans ?_
                      refine (am_z_lt rfl).trans (am_if_congr (fun c139 => ?_) (fun c139 => ?_))
                      · refine (am_e0 rfl rfl).trans ?_
                        refine (am_gf (c := 4) (t := 2) rfl rfl rfl).trans ((am_g_t h127).trans ?_)
                        refine (am_e0 rfl rfl).trans ?_
                        refine (am_e0 rfl rfl).trans ?_
                        refine (am_e0 rfl rfl).trans ?_
                        refine (am_ial rfl).trans (am_g_congr fun h140 => ?_)
                        refine (am_ias rfl).trans (am_g_congr fun h141 => ?_)
                        refine am_letm (fun M142 => ?_)
                        refine (am_e1 rfl rfl).trans ?_
                        exact (am_e5 rfl).trans rfl
                      · refine (am_e0 rfl rfl).trans ?_
                        refine (am_e1 rfl rfl).trans ?_
                        refine (am_ias rfl).trans (am_g_congr fun h143 => ?_)
                        refine am_letm (fun M144 => ?_)
                        refine (am_e1 rfl rfl).trans ?_
                        exact (am_e5 rfl).trans rfl
                · refine (am_e0 rfl rfl).trans ?_
                  refine (am_gf (c := 4) (t := 2) rfl rfl rfl).trans (am_g_congr fun h145 => ?_)
                  refine (am_e0 rfl rfl).trans ?_
                  refine (am_e0 rfl rfl).trans ?_
                  refine (am_e0 rfl rfl).trans ?_
                  refine (am_ial rfl).trans (am_g_congr fun h146 => ?_)
                  refine (am_e1 rfl rfl).trans ?_
                  refine (am_e0 rfl rfl).trans ?_
                  refine am_lets (L := fun v147 => [(2, x0), (2, x1), am_N, (0, x3), (0, x4), (0, x5), (0, x6), (0, x7), (0, 1), (0, 0), (0, 2), (0, v147), am_N]) (fun v147 => ?_)
                  refine (am_e0 rfl rfl).trans ?_
                  refine (am_e0 rfl rfl).trans ?_
                  refine (am_i_le rfl).trans (am_if_congr (fun c148 => ?_) (fun c148 => ?_))
                  · refine (am_e0 rfl rfl).trans ?_
                    refine (am_e0 rfl rfl).trans ?_
                    refine (am_e0 rfl rfl).trans ?_
                    refine (am_e0 rfl rfl).trans ?_
                    refine (am_e0 rfl rfl).trans ?_
                    refine (am_e0 rfl rfl).trans ?_
                    refine am_lets (L := fun v149 => [(2, x0), (2, x1), am_N, (0, x3), (0, v149), (0, x5), (0, x6), (0, x7), (0, 1), (0, 0), (0, 2), (0, v147), (0, 0)]) (fun v149 => ?_)
                    refine (am_e0 rfl rfl).trans ?_
                    refine (am_z_eq rfl).trans (am_if_congr (fun c150 => ?_) (fun c150 => ?_))
                    · refine (am_e0 rfl rfl).trans ?_
                      refine (am_gf (c := 4) (t := 2) rfl rfl rfl).trans ((am_g_t h145).trans ?_)
                      refine (am_e0 rfl rfl).trans ?_
                      refine (am_e0 rfl rfl).trans ?_
                      refine (am_z_eq rfl).trans (am_if_congr (fun c151 => ?_) (fun c151 => ?_))
                      · refine (am_e0 rfl rfl).trans ?_
                        refine (am_e0 rfl rfl).trans ?_
                        refine (am_e0 rfl rfl).trans ?_
                        refine (am_cal3 (z := 33) (k := 3) (c := true) rfl rfl rfl rfl rfl rfl rfl rfl).trans ((am_g_t rfl).trans ?_)
                        refine am_bind_congr fun r152 => ?_
                        show am_Ex d 123 132 [(2, x0), (2, x1), am_N, (0, x3), (0, v149), (0, x5), (0, x6), (0, x7), (0, 1), (0, 0), (0, 2), (0, v147), (0, 0)] [(0, r152.1), (0, v149), (2, am_rd M x0 3)] r152.2 = _
                        refine (am_ias rfl).trans (am_g_congr fun h153 => ?_)
                        refine am_letm (fun M154 => ?_)
                        exact (am_e5 rfl).trans rfl
                      · refine (am_e0 rfl rfl).trans ?_
                        refine (am_e0 rfl rfl).trans ?_
                        refine (am_cal3 (z := 32) (k := 2) (c := true) rfl rfl rfl rfl rfl rfl rfl rfl).trans ((am_g_t rfl).trans ?_)
                        refine am_bind_congr fun r155 => ?_
                        show am_Ex d 123 127 [(2, x0), (2, x1), am_N, (0, x3), (0, v149), (0, x5), (0, x6), (0, x7), (0, 1), (0, 0), (0, 2), (0, v147), (0, 0)] [(0, r155.1), (0, v149), (2, am_rd M x0 3)] r155.2 = _
                        refine (am_e1 rfl rfl).trans ?_
                        refine (am_ias rfl).trans (am_g_congr fun h156 => ?_)
                        refine am_letm (fun M157 => ?_)
                        exact (am_e5 rfl).trans rfl
                    · refine (am_e0 rfl rfl).trans ?_
                      refine (am_gf (c := 4) (t := 2) rfl rfl rfl).trans ((am_g_t h145).trans ?_)
                      refine (am_e0 rfl rfl).trans ?_
                      refine (am_e0 rfl rfl).trans ?_
                      refine (am_z_lt rfl).trans (am_if_congr (fun c158 => ?_) (fun c158 => ?_))
                      · refine (am_e0 rfl rfl).trans ?_
                        refine (am_gf (c := 4) (t := 2) rfl rfl rfl).trans ((am_g_t h145).trans ?_)
                        refine (am_e0 rfl rfl).trans ?_
                        refine (am_e0 rfl rfl).trans ?_
                        refine (am_e0 rfl rfl).trans ?_
                        refine (am_ial rfl).trans (am_g_congr fun h159 => ?_)
                        refine (am_ias rfl).trans (am_g_congr fun h160 => ?_)
                        refine am_letm (fun M161 => ?_)
                        refine (am_e1 rfl rfl).trans ?_
                        exact (am_e5 rfl).trans rfl
                      · refine (am_e0 rfl rfl).trans ?_
                        refine (am_e1 rfl rfl).trans ?_
                        refine (am_ias rfl).trans (am_g_congr fun h162 => ?_)
                        refine am_letm (fun M163 => ?_)
                        refine (am_e1 rfl rfl).trans ?_
                        exact (am_e5 rfl).trans rfl
                  · refine (am_e0 rfl rfl).trans ?_
                    refine (am_gf (c := 4) (t := 2) rfl rfl rfl).trans ((am_g_t h145).trans ?_)
                    refine (am_e0 rfl rfl).trans ?_
                    refine (am_e0 rfl rfl).trans ?_
                    refine (am_e0 rfl rfl).trans ?_
                    refine (am_ial rfl).trans (am_g_congr fun h164 => ?_)
                    refine (am_e1 rfl rfl).trans ?_
                    refine (am_e0 rfl rfl).trans ?_
                    refine am_lets (L := fun v165 => [(2, x0), (2, x1), am_N, (0, x3), (0, x4), (0, x5), (0, x6), (0, x7), (0, 1), (0, 0), (0, 2), (0, v147), (0, v165)]) (fun v165 => ?_)
                    refine (am_e0 rfl rfl).trans ?_
                    refine (am_e0 rfl rfl).trans ?_
                    refine (am_e0 rfl rfl).trans ?_
                    refine (am_e0 rfl rfl).trans ?_
                    refine am_lets (L := fun v166 => [(2, x0), (2, x1), am_N, (0, x3), (0, v166), (0, x5), (0, x6), (0, x7), (0, 1), (0, 0), (0, 2), (0, v147), (0, v165)]) (fun v166 => ?_)
                    refine (am_e0 rfl rfl).trans ?_
                    refine (am_z_eq rfl).trans (am_if_congr (fun c167 => ?_) (fun c167 => ?_))
                    · refine (am_e0 rfl rfl).trans ?_
                      refine (am_gf (c := 4) (t := 2) rfl rfl rfl).trans ((am_g_t h145).trans ?_)
                      refine (am_e0 rfl rfl).trans ?_
                      refine (am_e0 rfl rfl).trans ?_
                      refine (am_z_eq rfl).trans (am_if_congr (fun c168 => ?_) (fun c168 => ?_))
                      · refine (am_e0 rfl rfl).trans ?_
                        refine (am_e0 rfl rfl).trans ?_
                        refine (am_e0 rfl rfl).trans ?_
                        refine (am_cal3 (z := 33) (k := 3) (c := true) rfl rfl rfl rfl rfl rfl rfl rfl).trans ((am_g_t rfl).trans ?_)
                        refine am_bind_congr fun r169 => ?_
                        show am_Ex d 123 132 [(2, x0), (2, x1), am_N, (0, x3), (0, v166), (0, x5), (0, x6), (0, x7), (0, 1), (0, 0), (0, 2), (0, v147), (0, v165)] [(0, r169.1), (0, v166), (2, am_rd M x0 3)] r169.2 = _
                        refine (am_ias rfl).trans (am_g_congr fun h170 => ?_)
                        refine am_letm (fun M171 => ?_)
                        exact (am_e5 rfl).trans rfl
                      · refine (am_e0 rfl rfl).trans ?_
                        refine (am_e0 rfl rfl).trans ?_
                        refine (am_cal3 (z := 32) (k := 2) (c := true) rfl rfl rfl rfl rfl rfl rfl rfl).trans ((am_g_t rfl).trans ?_)
                        refine am_bind_congr fun r172 => ?_
                        show am_Ex d 123 127 [(2, x0), (2, x1), am_N, (0, x3), (0, v166), (0, x5), (0, x6), (0, x7), (0, 1), (0, 0), (0, 2), (0, v147), (0, v165)] [(0, r172.1), (0, v166), (2, am_rd M x0 3)] r172.2 = _
                        refine (am_e1 rfl rfl).trans ?_
                        refine (am_ias rfl).trans (am_g_congr fun h173 => ?_)
                        refine am_letm (fun M174 => ?_)
                        exact (am_e5 rfl).trans rfl
                    · refine (am_e0 rfl rfl).trans ?_
                      refine (am_gf (c := 4) (t := 2) rfl rfl rfl).trans ((am_g_t h145).trans ?_)
                      refine (am_e0 rfl rfl).trans ?_
                      refine (am_e0 rfl rfl).trans ?_
                      refine (am_z_lt rfl).trans (am_if_congr (fun c175 => ?_) (fun c175 => ?_))
                      · refine (am_e0 rfl rfl).trans ?_
                        refine (am_gf (c := 4) (t := 2) rfl rfl rfl).trans ((am_g_t h145).trans ?_)
                        refine (am_e0 rfl rfl).trans ?_
                        refine (am_e0 rfl rfl).trans ?_
                        refine (am_e0 rfl rfl).trans ?_
                        refine (am_ial rfl).trans (am_g_congr fun h176 => ?_)
                        refine (am_ias rfl).trans (am_g_congr fun h177 => ?_)
                        refine am_letm (fun M178 => ?_)
                        refine (am_e1 rfl rfl).trans ?_
                        exact (am_e5 rfl).trans rfl
                      · refine (am_e0 rfl rfl).trans ?_
                        refine (am_e1 rfl rfl).trans ?_
                        refine (am_ias rfl).trans (am_g_congr fun h179 => ?_)
                        refine am_letm (fun M180 => ?_)
                        refine (am_e1 rfl rfl).trans ?_
                        exact (am_e5 rfl).trans rfl
              · refine (am_e5 rfl).trans ?_
                show am_Ex d 123 73 [am_N, am_N, am_N, am_N, am_N, am_N, am_N, am_N, am_N, am_N, am_N, am_N, am_N] [] M = _
                refine (am_e0 rfl rfl).trans ?_
                exact (am_e4i rfl rfl).trans rfl
          · refine (am_e0 rfl rfl).trans ?_
            refine (am_e1 rfl rfl).trans ?_
            refine (am_e0 rfl rfl).trans ?_
            refine (am_e0 rfl rfl).trans ?_
            refine (am_e0 rfl rfl).trans ?_
            refine (am_i_lt rfl).trans (am_if_congr (fun c181 => ?_) (fun c181 => ?_))
            · refine (am_e5 rfl).trans ?_
              show am_Ex d 123 73 [am_N, am_N, am_N, am_N, am_N, am_N, am_N, am_N, am_N, am_N, am_N, am_N, am_N] [] M = _
              refine (am_e0 rfl rfl).trans ?_
              exact (am_e4i rfl rfl).trans rfl
            · refine (am_e0 rfl rfl).trans ?_
              refine (am_e0 rfl rfl).trans ?_
              refine (am_e0 rfl rfl).trans ?_
              refine (am_e0 rfl rfl).trans ?_
              refine (am_i_lt rfl).trans (am_if_congr (fun c182 => ?_) (fun c182 => ?_))
              · refine (am_e0 rfl rfl).trans ?_
                refine (am_z_le rfl).trans (am_if_congr (fun c183 => ?_) (fun c183 => ?_))
                · refine (am_e0 rfl rfl).trans ?_
                  refine (am_e0 rfl rfl).trans ?_
                  refine (am_e0 rfl rfl).trans ?_
                  refine (am_e0 rfl rfl).trans ?_
                  refine (am_i_le rfl).trans (am_if_congr (fun c184 => ?_) (fun c184 => ?_))
                  · refine (am_e0 rfl rfl).trans ?_
                    refine (am_e0 rfl rfl).trans ?_
                    refine (am_e0 rfl rfl).trans ?_
                    refine (am_e0 rfl rfl).trans ?_
                    refine (am_e0 rfl rfl).trans ?_
                    refine (am_e0 rfl rfl).trans ?_
                    refine am_lets (L := fun v185 => [(2, x0), (2, x1), am_N, (0, x3), (0, v185), (0, x5), (0, x6), (0, x7), (0, 1), (0, 0), (0, 1), (0, 0), (0, 0)]) (fun v185 => ?_)
                    refine (am_e0 rfl rfl).trans ?_
                    refine (am_z_eq rfl).trans (am_if_congr (fun c186 => ?_) (fun c186 => ?_))
                    · refine (am_e0 rfl rfl).trans ?_
                      refine (am_gf (c := 4) (t := 2) rfl rfl rfl).trans (am_g_congr fun h187 => ?_)
                      refine (am_e0 rfl rfl).trans ?_
                      refine (am_e0 rfl rfl).trans ?_
                      refine (am_z_eq rfl).trans (am_if_congr (fun c188 => ?_) (fun c188 => ?_))
                      · refine (am_e0 rfl rfl).trans ?_
                        refine (am_e0 rfl rfl).trans ?_
                        refine (am_e0 rfl rfl).trans ?_
                        refine (am_cal3 (z := 33) (k := 3) (c := true) rfl rfl rfl rfl rfl rfl rfl rfl).trans ((am_g_t rfl).trans ?_)
                        refine am_bind_congr fun r189 => ?_
                        show am_Ex d 123 132 [(2, x0), (2, x1), am_N, (0, x3), (0, v185), (0, x5), (0, x6), (0, x7), (0, 1), (0, 0), (0, 1), (0, 0), (0, 0)] [(0, r189.1), (0, v185), (2, am_rd M x0 3)] r189.2 = _
                        refine (am_ias rfl).trans (am_g_congr fun h190 => ?_)
                        refine am_letm (fun M191 => ?_)
                        exact (am_e5 rfl).trans rfl
                      · refine (am_e0 rfl rfl).trans ?_
                        refine (am_e0 rfl rfl).trans ?_
                        refine (am_cal3 (z := 32) (k := 2) (c := true) rfl rfl rfl rfl rfl rfl rfl rfl).trans ((am_g_t rfl).trans ?_)
                        refine am_bind_congr fun r192 => ?_
                        show am_Ex d 123 127 [(2, x0), (2, x1), am_N, (0, x3), (0, v185), (0, x5), (0, x6), (0, x7), (0, 1), (0, 0), (0, 1), (0, 0), (0, 0)] [(0, r192.1), (0, v185), (2, am_rd M x0 3)] r192.2 = _
                        refine (am_e1 rfl rfl).trans ?_
                        refine (am_ias rfl).trans (am_g_congr fun h193 => ?_)
                        refine am_letm (fun M194 => ?_)
                        exact (am_e5 rfl).trans rfl
                    · refine (am_e0 rfl rfl).trans ?_
                      refine (am_gf (c := 4) (t := 2) rfl rfl rfl).trans (am_g_congr fun h195 => ?_)
                      refine (am_e0 rfl rfl).trans ?_
                      refine (am_e0 rfl rfl).trans ?_
                      refine (am_z_lt rfl).trans (am_if_congr (fun c196 => ?_) (fun c196 => ?_))
                      · refine (am_e0 rfl rfl).trans ?_
                        refine (am_gf (c := 4) (t := 2) rfl rfl rfl).trans ((am_g_t h195).trans ?_)
                        refine (am_e0 rfl rfl).trans ?_
                        refine (am_e0 rfl rfl).trans ?_
                        refine (am_e0 rfl rfl).trans ?_
                        refine (am_ial rfl).trans (am_g_congr fun h197 => ?_)
                        refine (am_ias rfl).trans (am_g_congr fun h198 => ?_)
                        refine am_letm (fun M199 => ?_)
                        refine (am_e1 rfl rfl).trans ?_
                        exact (am_e5 rfl).trans rfl
                      · refine (am_e0 rfl rfl).trans ?_
                        refine (am_e1 rfl rfl).trans ?_
                        refine (am_ias rfl).trans (am_g_congr fun h200 => ?_)
                        refine am_letm (fun M201 => ?_)
                        refine (am_e1 rfl rfl).trans ?_
                        exact (am_e5 rfl).trans rfl
                  · refine (am_e0 rfl rfl).trans ?_
                    refine (am_gf (c := 4) (t := 2) rfl rfl rfl).trans (am_g_congr fun h202 => ?_)
                    refine (am_e0 rfl rfl).trans ?_
                    refine (am_e0 rfl rfl).trans ?_
                    refine (am_e0 rfl rfl).trans ?_
                    refine (am_ial rfl).trans (am_g_congr fun h203 => ?_)
                    refine (am_e1 rfl rfl).trans ?_
                    refine (am_e0 rfl rfl).trans ?_
                    refine am_lets (L := fun v204 => [(2, x0), (2, x1), am_N, (0, x3), (0, x4), (0, x5), (0, x6), (0, x7), (0, 1), (0, 0), (0, 1), (0, 0), (0, v204)]) (fun v204 => ?_)
                    refine (am_e0 rfl rfl).trans ?_
                    refine (am_e0 rfl rfl).trans ?_
                    refine (am_e0 rfl rfl).trans ?_
                    refine (am_e0 rfl rfl).trans ?_
                    refine am_lets (L := fun v205 => [(2, x0), (2, x1), am_N, (0, x3), (0, v205), (0, x5), (0, x6), (0, x7), (0, 1), (0, 0), (0, 1), (0, 0), (0, v204)]) (fun v205 => ?_)
                    refine (am_e0 rfl rfl).trans ?_
                    refine (am_z_eq rfl).trans (am_if_congr (fun c206 => ?_) (fun c206 => ?_))
                    · refine (am_e0 rfl rfl).trans ?_
                      refine (am_gf (c := 4) (t := 2) rfl rfl rfl).trans ((am_g_t h202).trans ?_)
                      refine (am_e0 rfl rfl).trans ?_
                      refine (am_e0 rfl rfl).trans ?_
                      refine (am_z_eq rfl).trans (am_if_congr (fun c207 => ?_) (fun c207 => ?_))
                      · refine (am_e0 rfl rfl).trans ?_
                        refine (am_e0 rfl rfl).trans ?_
                        refine (am_e0 rfl rfl).trans ?_
                        refine (am_cal3 (z := 33) (k := 3) (c := true) rfl rfl rfl rfl rfl rfl rfl rfl).trans ((am_g_t rfl).trans ?_)
                        refine am_bind_congr fun r208 => ?_
                        show am_Ex d 123 132 [(2, x0), (2, x1), am_N, (0, x3), (0, v205), (0, x5), (0, x6), (0, x7), (0, 1), (0, 0), (0, 1), (0, 0), (0, v204)] [(0, r208.1), (0, v205), (2, am_rd M x0 3)] r208.2 = _
                        refine (am_ias rfl).trans (am_g_congr fun h209 => ?_)
                        refine am_letm (fun M210 => ?_)
                        exact (am_e5 rfl).trans rfl
                      · refine (am_e0 rfl rfl).trans ?_
                        refine (am_e0 rfl rfl).trans ?_
                        refine (am_cal3 (z := 32) (k := 2) (c := true) rfl rfl rfl rfl rfl rfl rfl rfl).trans ((am_g_t rfl).trans ?_)
                        refine am_bind_congr fun r211 => ?_
                        show am_Ex d 123 127 [(2, x0), (2, x1), am_N, (0, x3), (0, v205), (0, x5), (0, x6), (0, x7), (0, 1), (0, 0), (0, 1), (0, 0), (0, v204)] [(0, r211.1), (0, v205), (2, am_rd M x0 3)] r211.2 = _
                        refine (am_e1 rfl rfl).trans ?_
                        refine (am_ias rfl).trans (am_g_congr fun h212 => ?_)
                        refine am_letm (fun M213 => ?_)
                        exact (am_e5 rfl).trans rfl
                    · refine (am_e0 rfl rfl).trans ?_
                      refine (am_gf (c := 4) (t := 2) rfl rfl rfl).trans ((am_g_t h202).trans ?_)
                      refine (am_e0 rfl rfl).trans ?_
                      refine (am_e0 rfl rfl).trans ?_
                      refine (am_z_lt rfl).trans (am_if_congr (fun c214 => ?_) (fun c214 => ?_))
                      · refine (am_e0 rfl rfl).trans ?_
                        refine (am_gf (c := 4) (t := 2) rfl rfl rfl).trans ((am_g_t h202).trans ?_)
                        refine (am_e0 rfl rfl).trans ?_
                        refine (am_e0 rfl rfl).trans ?_
                        refine (am_e0 rfl rfl).trans ?_
                        refine (am_ial rfl).trans (am_g_congr fun h215 => ?_)
                        refine (am_ias rfl).trans (am_g_congr fun h216 => ?_)
                        refine am_letm (fun M217 => ?_)
                        refine (am_e1 rfl rfl).trans ?_
                        exact (am_e5 rfl).trans rfl
                      · refine (am_e0 rfl rfl).trans ?_
                        refine (am_e1 rfl rfl).trans ?_
                        refine (am_ias rfl).trans (am_g_congr fun h218 => ?_)
                        refine am_letm (fun M219 => ?_)
                        refine (am_e1 rfl rfl).trans ?_
                        exact (am_e5 rfl).trans rfl
                · refine (am_e0 rfl rfl).trans ?_
                  refine (am_gf (c := 4) (t := 2) rfl rfl rfl).trans (am_g_congr fun h220 => ?_)
                  refine (am_e0 rfl rfl).trans ?_
                  refine (am_e0 rfl rfl).trans ?_
                  refine (am_e0 rfl rfl).trans ?_
                  refine (am_ial rfl).trans (am_g_congr fun h221 => ?_)
                  refine (am_e1 rfl rfl).trans ?_
                  refine (am_e0 rfl rfl).trans ?_
                  refine am_lets (L := fun v222 => [(2, x0), (2, x1), am_N, (0, x3), (0, x4), (0, x5), (0, x6), (0, x7), (0, 1), (0, 0), (0, 1), (0, v222), am_N]) (fun v222 => ?_)
                  refine (am_e0 rfl rfl).trans ?_
                  refine (am_e0 rfl rfl).trans ?_
                  refine (am_i_le rfl).trans (am_if_congr (fun c223 => ?_) (fun c223 => ?_))
                  · refine (am_e0 rfl rfl).trans ?_
                    refine (am_e0 rfl rfl).trans ?_
                    refine (am_e0 rfl rfl).trans ?_
                    refine (am_e0 rfl rfl).trans ?_
                    refine (am_e0 rfl rfl).trans ?_
                    refine (am_e0 rfl rfl).trans ?_
                    refine am_lets (L := fun v224 => [(2, x0), (2, x1), am_N, (0, x3), (0, v224), (0, x5), (0, x6), (0, x7), (0, 1), (0, 0), (0, 1), (0, v222), (0, 0)]) (fun v224 => ?_)
                    refine (am_e0 rfl rfl).trans ?_
                    refine (am_z_eq rfl).trans (am_if_congr (fun c225 => ?_) (fun c225 => ?_))
                    · refine (am_e0 rfl rfl).trans ?_
                      refine (am_gf (c := 4) (t := 2) rfl rfl rfl).trans ((am_g_t h220).trans ?_)
                      refine (am_e0 rfl rfl).trans ?_
                      refine (am_e0 rfl rfl).trans ?_
                      refine (am_z_eq rfl).trans (am_if_congr (fun c226 => ?_) (fun c226 => ?_))
                      · refine (am_e0 rfl rfl).trans ?_
                        refine (am_e0 rfl rfl).trans ?_
                        refine (am_e0 rfl rfl).trans ?_
                        refine (am_cal3 (z := 33) (k := 3) (c := true) rfl rfl rfl rfl rfl rfl rfl rfl).trans ((am_g_t rfl).trans ?_)
                        refine am_bind_congr fun r227 => ?_
                        show am_Ex d 123 132 [(2, x0), (2, x1), am_N, (0, x3), (0, v224), (0, x5), (0, x6), (0, x7), (0, 1), (0, 0), (0, 1), (0, v222), (0, 0)] [(0, r227.1), (0, v224), (2, am_rd M x0 3)] r227.2 = _
                        refine (am_ias rfl).trans (am_g_congr fun h228 => ?_)
                        refine am_letm (fun M229 => ?_)
                        exact (am_e5 rfl).trans rfl
                      · refine (am_e0 rfl rfl).trans ?_
                        refine (am_e0 rfl rfl).trans ?_
                        refine (am_cal3 (z := 32) (k := 2) (c := true) rfl rfl rfl rfl rfl rfl rfl rfl).trans ((am_g_t rfl).trans ?_)
                        refine am_bind_congr fun r230 => ?_
                        show am_Ex d 123 127 [(2, x0), (2, x1), am_N, (0, x3), (0, v224), (0, x5), (0, x6), (0, x7), (0, 1), (0, 0), (0, 1), (0, v222), (0, 0)] [(0, r230.1), (0, v224), (2, am_rd M x0 3)] r230.2 = _
                        refine (am_e1 rfl rfl).trans ?_
                        refine (am_ias rfl).trans (am_g_congr fun h231 => ?_)
                        refine am_letm (fun M232 => ?_)
                        exact (am_e5 rfl).trans rfl
                    · refine (am_e0 rfl rfl).trans ?_
                      refine (am_gf (c := 4) (t := 2) rfl rfl rfl).trans ((am_g_t h220).trans ?_)
                      refine (am_e0 rfl rfl).trans ?_
                      refine (am_e0 rfl rfl).trans ?_
                      refine (am_z_lt rfl).trans (am_if_congr (fun c233 => ?_) (fun c233 => ?_))
                      · refine (am_e0 rfl rfl).trans ?_
                        refine (am_gf (c := 4) (t := 2) rfl rfl rfl).trans ((am_g_t h220).trans ?_)
                        refine (am_e0 rfl rfl).trans ?_
                        refine (am_e0 rfl rfl).trans ?_
                        refine (am_e0 rfl rfl).trans ?_
                        refine (am_ial rfl).trans (am_g_congr fun h234 => ?_)
                        refine (am_ias rfl).trans (am_g_congr fun h235 => ?_)
                        refine am_letm (fun M236 => ?_)
                        refine (am_e1 rfl rfl).trans ?_
                        exact (am_e5 rfl).trans rfl
                      · refine (am_e0 rfl rfl).trans ?_
                        refine (am_e1 rfl rfl).trans ?_
                        refine (am_ias rfl).trans (am_g_congr fun h237 => ?_)
                        refine am_letm (fun M238 => ?_)
                        refine (am_e1 rfl rfl).trans ?_
                        exact (am_e5 rfl).trans rfl
                  · refine (am_e0 rfl rfl).trans ?_
                    refine (am_gf (c := 4) (t := 2) rfl rfl rfl).trans ((am_g_t h220).trans ?_)
                    refine (am_e0 rfl rfl).trans ?_
                    refine (am_e0 rfl rfl).trans ?_
                    refine (am_e0 rfl rfl).trans ?_
                    refine (am_ial rfl).trans (am_g_congr fun h239 => ?_)
                    refine (am_e1 rfl rfl).trans ?_
                    refine (am_e0 rfl rfl).trans ?_
                    refine am_lets (L := fun v240 => [(2, x0), (2, x1), am_N, (0, x3), (0, x4), (0, x5), (0, x6), (0, x7), (0, 1), (0, 0), (0, 1), (0, v222), (0, v240)]) (fun v240 => ?_)
                    refine (am_e0 rfl rfl).trans ?_
                    refine (am_e0 rfl rfl).trans ?_
                    refine (am_e0 rfl rfl).trans ?_
                    refine (am_e0 rfl rfl).trans ?_
                    refine am_lets (L := fun v241 => [(2, x0), (2, x1), am_N, (0, x3), (0, v241), (0, x5), (0, x6), (0, x7), (0, 1), (0, 0), (0, 1), (0, v222), (0, v240)]) (fun v241 => ?_)
                    refine (am_e0 rfl rfl).trans ?_
                    refine (am_z_eq rfl).trans (am_if_congr (fun c242 => ?_) (fun c242 => ?_))
                    · refine (am_e0 rfl rfl).trans ?_
                      refine (am_gf (c := 4) (t := 2) rfl rfl rfl).trans ((am_g_t h220).trans ?_)
                      refine (am_e0 rfl rfl).trans ?_
                      refine (am_e0 rfl rfl).trans ?_
                      refine (am_z_eq rfl).trans (am_if_congr (fun c243 => ?_) (fun c243 => ?_))
                      · refine (am_e0 rfl rfl).trans ?_
                        refine (am_e0 rfl rfl).trans ?_
                        refine (am_e0 rfl rfl).trans ?_
                        refine (am_cal3 (z := 33) (k := 3) (c := true) rfl rfl rfl rfl rfl rfl rfl rfl).trans ((am_g_t rfl).trans ?_)
                        refine am_bind_congr fun r244 => ?_
                        show am_Ex d 123 132 [(2, x0), (2, x1), am_N, (0, x3), (0, v241), (0, x5), (0, x6), (0, x7), (0, 1), (0, 0), (0, 1), (0, v222), (0, v240)] [(0, r244.1), (0, v241), (2, am_rd M x0 3)] r244.2 = _
                        refine (am_ias rfl).trans (am_g_congr fun h245 => ?_)
                        refine am_letm (fun M246 => ?_)
                        exact (am_e5 rfl).trans rfl
                      · refine (am_e0 rfl rfl).trans ?_
                        refine (am_e0 rfl rfl).trans ?_
                        refine (am_cal3 (z := 32) (k := 2) (c := true) rfl rfl rfl rfl rfl rfl rfl rfl).trans ((am_g_t rfl).trans ?_)
                        refine am_bind_congr fun r247 => ?_
                        show am_Ex d 123 127 [(2, x0), (2, x1), am_N, (0, x3), (0, v241), (0, x5), (0, x6), (0, x7), (0, 1), (0, 0), (0, 1), (0, v222), (0, v240)] [(0, r247.1), (0, v241), (2, am_rd M x0 3)] r247.2 = _
                        refine (am_e1 rfl rfl).trans ?_
                        refine (am_ias rfl).trans (am_g_congr fun h248 => ?_)
                        refine am_letm (fun M249 => ?_)
                        exact (am_e5 rfl).trans rfl
                    · refine (am_e0 rfl rfl).trans ?_
                      refine (am_gf (c := 4) (t := 2) rfl rfl rfl).trans ((am_g_t h220).trans ?_)
                      refine (am_e0 rfl rfl).trans ?_
                      refine (am_e0 rfl rfl).trans ?_
                      refine (am_z_lt rfl).trans (am_if_congr (fun c250 => ?_) (fun c250 => ?_))
                      · refine (am_e0 rfl rfl).trans ?_
                        refine (am_gf (c := 4) (t := 2) rfl rfl rfl).trans ((am_g_t h220).trans ?_)
                        refine (am_e0 rfl rfl).trans ?_
                        refine (am_e0 rfl rfl).trans ?_
                        refine (am_e0 rfl rfl).trans ?_
                        refine (am_ial rfl).trans (am_g_congr fun h251 => ?_)
                        refine (am_ias rfl).trans (am_g_congr fun h252 => ?_)
                        refine am_letm (fun M253 => ?_)
                        refine (am_e1 rfl rfl).trans ?_
                        exact (am_e5 rfl).trans rfl
                      · refine (am_e0 rfl rfl).trans ?_
                        refine (am_e1 rfl rfl).trans ?_
                        refine (am_ias rfl).trans (am_g_congr fun h254 => ?_)
                        refine am_letm (fun M255 => ?_)
                        refine (am_e1 rfl rfl).trans ?_
                        exact (am_e5 rfl).trans rfl
              · refine (am_e5 rfl).trans ?_
                show am_Ex d 123 73 [am_N, am_N, am_N, am_N, am_N, am_N, am_N, am_N, am_N, am_N, am_N, am_N, am_N] [] M = _
                refine (am_e0 rfl rfl).trans ?_
                exact (am_e4i rfl rfl).trans rfl
        · refine (am_e0 rfl rfl).trans ?_
          refine (am_e1 rfl rfl).trans ?_
          refine (am_e0 rfl rfl).trans ?_
          refine (am_e0 rfl rfl).trans ?_
          refine (am_e0 rfl rfl).trans ?_
          refine (am_i_lt rfl).trans (am_if_congr (fun c256 => ?_) (fun c256 => ?_))
          · refine (am_e5 rfl).trans ?_
            show am_Ex d 123 73 [am_N, am_N, am_N, am_N, am_N, am_N, am_N, am_N, am_N, am_N, am_N, am_N, am_N] [] M = _
            refine (am_e0 rfl rfl).trans ?_
            exact (am_e4i rfl rfl).trans rfl
          · refine (am_e0 rfl rfl).trans ?_
            refine (am_e0 rfl rfl).trans ?_
            refine (am_e0 rfl rfl).trans ?_
            refine (am_e0 rfl rfl).trans ?_
            refine (am_i_lt rfl).trans (am_if_congr (fun c257 => ?_) (fun c257 => ?_))
            · refine (am_e0 rfl rfl).trans ?_
              refine (am_z_le rfl).trans (am_if_congr (fun c258 => ?_) (fun c258 => ?_))
              · refine (am_e0 rfl rfl).trans ?_
                refine (am_e0 rfl rfl).trans ?_
                refine (am_e0 rfl rfl).trans ?_
                refine (am_e0 rfl rfl).trans ?_
                refine (am_i_le rfl).trans (am_if_congr (fun c259 => ?_) (fun c259 => ?_))
                · refine (am_e0 rfl rfl).trans ?_
                  refine (am_e0 rfl rfl).trans ?_
                  refine (am_e0 rfl rfl).trans ?_
                  refine (am_e0 rfl rfl).trans ?_
                  refine (am_e0 rfl rfl).trans ?_
                  refine (am_e0 rfl rfl).trans ?_
                  refine am_lets (L := fun v260 => [(2, x0), (2, x1), am_N, (0, x3), (0, v260), (0, x5), (0, x6), (0, x7), (0, 1), (0, 0), (0, 0), (0, 0), (0, 0)]) (fun v260 => ?_)
                  refine (am_e0 rfl rfl).trans ?_
                  refine (am_z_eq rfl).trans (am_if_congr (fun c261 => ?_) (fun c261 => ?_))
                  · refine (am_e0 rfl rfl).trans ?_
                    refine (am_gf (c := 4) (t := 2) rfl rfl rfl).trans (am_g_congr fun h262 => ?_)
                    refine (am_e0 rfl rfl).trans ?_
                    refine (am_e0 rfl rfl).trans ?_
                    refine (am_z_eq rfl).trans (am_if_congr (fun c263 => ?_) (fun c263 => ?_))
                    · refine (am_e0 rfl rfl).trans ?_
                      refine (am_e0 rfl rfl).trans ?_
                      refine (am_e0 rfl rfl).trans ?_
                      refine (am_cal3 (z := 33) (k := 3) (c := true) rfl rfl rfl rfl rfl rfl rfl rfl).trans ((am_g_t rfl).trans ?_)
                      refine am_bind_congr fun r264 => ?_
                      show am_Ex d 123 132 [(2, x0), (2, x1), am_N, (0, x3), (0, v260), (0, x5), (0, x6), (0, x7), (0, 1), (0, 0), (0, 0), (0, 0), (0, 0)] [(0, r264.1), (0, v260), (2, am_rd M x0 3)] r264.2 = _
                      refine (am_ias rfl).trans (am_g_congr fun h265 => ?_)
                      refine am_letm (fun M266 => ?_)
                      exact (am_e5 rfl).trans rfl
                    · refine (am_e0 rfl rfl).trans ?_
                      refine (am_e0 rfl rfl).trans ?_
                      refine (am_cal3 (z := 32) (k := 2) (c := true) rfl rfl rfl rfl rfl rfl rfl rfl).trans ((am_g_t rfl).trans ?_)
                      refine am_bind_congr fun r267 => ?_
                      show am_Ex d 123 127 [(2, x0), (2, x1), am_N, (0, x3), (0, v260), (0, x5), (0, x6), (0, x7), (0, 1), (0, 0), (0, 0), (0, 0), (0, 0)] [(0, r267.1), (0, v260), (2, am_rd M x0 3)] r267.2 = _
                      refine (am_e1 rfl rfl).trans ?_
                      refine (am_ias rfl).trans (am_g_congr fun h268 => ?_)
                      refine am_letm (fun M269 => ?_)
                      exact (am_e5 rfl).trans rfl
                  · refine (am_e0 rfl rfl).trans ?_
                    refine (am_gf (c := 4) (t := 2) rfl rfl rfl).trans (am_g_congr fun h270 => ?_)
                    refine (am_e0 rfl rfl).trans ?_
                    refine (am_e0 rfl rfl).trans ?_
                    refine (am_z_lt rfl).trans (am_if_congr (fun c271 => ?_) (fun c271 => ?_))
                    · refine (am_e0 rfl rfl).trans ?_
                      refine (am_gf (c := 4) (t := 2) rfl rfl rfl).trans ((am_g_t h270).trans ?_)
                      refine (am_e0 rfl rfl).trans ?_
                      refine (am_e0 rfl rfl).trans ?_
                      refine (am_e0 rfl rfl).trans ?_
                      refine (am_ial rfl).trans (am_g_congr fun h272 => ?_)
                      refine (am_ias rfl).trans (am_g_congr fun h273 => ?_)
                      refine am_letm (fun M274 => ?_)
                      refine (am_e1 rfl rfl).trans ?_
                      exact (am_e5 rfl).trans rfl
                    · refine (am_e0 rfl rfl).trans ?_
                      refine (am_e1 rfl rfl).trans ?_
                      refine (am_ias rfl).trans (am_g_congr fun h275 => ?_)
                      refine am_letm (fun M276 => ?_)
                      refine (am_e1 rfl rfl).trans ?_
                      exact (am_e5 rfl).trans rfl
                · refine (am_e0 rfl rfl).trans ?_
                  refine (am_gf (c := 4) (t := 2) rfl rfl rfl).trans (am_g_congr fun h277 => ?_)
                  refine (am_e0 rfl rfl).trans ?_
                  refine (am_e0 rfl rfl).trans ?_
                  refine (am_e0 rfl rfl).trans ?_
                  refine (am_ial rfl).trans (am_g_congr fun h278 => ?_)
                  refine (am_e1 rfl rfl).trans ?_
                  refine (am_e0 rfl rfl).trans ?_
                  refine am_lets (L := fun v279 => [(2, x0), (2, x1), am_N, (0, x3), (0, x4), (0, x5), (0, x6), (0, x7), (0, 1), (0, 0), (0, 0), (0, 0), (0, v279)]) (fun v279 => ?_)
                  refine (am_e0 rfl rfl).trans ?_
                  refine (am_e0 rfl rfl).trans ?_
                  refine (am_e0 rfl rfl).trans ?_
                  refine (am_e0 rfl rfl).trans ?_
                  refine am_lets (L := fun v280 => [(2, x0), (2, x1), am_N, (0, x3), (0, v280), (0, x5), (0, x6), (0, x7), (0, 1), (0, 0), (0, 0), (0, 0), (0, v279)]) (fun v280 => ?_)
                  refine (am_e0 rfl rfl).trans ?_
                  refine (am_z_eq rfl).trans (am_if_congr (fun c281 => ?_) (fun c281 => ?_))
                  · refine (am_e0 rfl rfl).trans ?_
                    refine (am_gf (c := 4) (t := 2) rfl rfl rfl).trans ((am_g_t h277).trans ?_)
                    refine (am_e0 rfl rfl).trans ?_
                    refine (am_e0 rfl rfl).trans ?_
                    refine (am_z_eq rfl).trans (am_if_congr (fun c282 => ?_) (fun c282 => ?_))
                    · refine (am_e0 rfl rfl).trans ?_
                      refine (am_e0 rfl rfl).trans ?_
                      refine (am_e0 rfl rfl).trans ?_
                      refine (am_cal3 (z := 33) (k := 3) (c := true) rfl rfl rfl rfl rfl rfl rfl rfl).trans ((am_g_t rfl).trans ?_)
                      refine am_bind_congr fun r283 => ?_
                      show am_Ex d 123 132 [(2, x0), (2, x1), am_N, (0, x3), (0, v280), (0, x5), (0, x6), (0, x7), (0, 1), (0, 0), (0, 0), (0, 0), (0, v279)] [(0, r283.1), (0, v280), (2, am_rd M x0 3)] r283.2 = _
                      refine (am_ias rfl).trans (am_g_congr fun h284 => ?_)
                      refine am_letm (fun M285 => ?_)
                      exact (am_e5 rfl).trans rfl
                    · refine (am_e0 rfl rfl).trans ?_
                      refine (am_e0 rfl rfl).trans ?_
                      refine (am_cal3 (z := 32) (k := 2) (c := true) rfl rfl rfl rfl rfl rfl rfl rfl).trans ((am_g_t rfl).trans ?_)
                      refine am_bind_congr fun r286 => ?_
                      show am_Ex d 123 127 [(2, x0), (2, x1), am_N, (0, x3), (0, v280), (0, x5), (0, x6), (0, x7), (0, 1), (0, 0), (0, 0), (0, 0), (0, v279)] [(0, r286.1), (0, v280), (2, am_rd M x0 3)] r286.2 = _
                      refine (am_e1 rfl rfl).trans ?_
                      refine (am_ias rfl).trans (am_g_congr fun h287 => ?_)
                      refine am_letm (fun M288 => ?_)
                      exact (am_e5 rfl).trans rfl
                  · refine (am_e0 rfl rfl).trans ?_
                    refine (am_gf (c := 4) (t := 2) rfl rfl rfl).trans ((am_g_t h277).trans ?_)
                    refine (am_e0 rfl rfl).trans ?_
                    refine (am_e0 rfl rfl).trans ?_
                    refine (am_z_lt rfl).trans (am_if_congr (fun c289 => ?_) (fun c289 => ?_))
                    · refine (am_e0 rfl rfl).trans ?_
                      refine (am_gf (c := 4) (t := 2) rfl rfl rfl).trans ((am_g_t h277).trans ?_)
                      refine (am_e0 rfl rfl).trans ?_
                      refine (am_e0 rfl rfl).trans ?_
                      refine (am_e0 rfl rfl).trans ?_
                      refine (am_ial rfl).trans (am_g_congr fun h290 => ?_)
                      refine (am_ias rfl).trans (am_g_congr fun h291 => ?_)
                      refine am_letm (fun M292 => ?_)
                      refine (am_e1 rfl rfl).trans ?_
                      exact (am_e5 rfl).trans rfl
                    · refine (am_e0 rfl rfl).trans ?_
                      refine (am_e1 rfl rfl).trans ?_
                      refine (am_ias rfl).trans (am_g_congr fun h293 => ?_)
                      refine am_letm (fun M294 => ?_)
                      refine (am_e1 rfl rfl).trans ?_
                      exact (am_e5 rfl).trans rfl
              · refine (am_e0 rfl rfl).trans ?_
                refine (am_gf (c := 4) (t := 2) rfl rfl rfl).trans (am_g_congr fun h295 => ?_)
                refine (am_e0 rfl rfl).trans ?_
                refine (am_e0 rfl rfl).trans ?_
                refine (am_e0 rfl rfl).trans ?_
                refine (am_ial rfl).trans (am_g_congr fun h296 => ?_)
                refine (am_e1 rfl rfl).trans ?_
                refine (am_e0 rfl rfl).trans ?_
                refine am_lets (L := fun v297 => [(2, x0), (2, x1), am_N, (0, x3), (0, x4), (0, x5), (0, x6), (0, x7), (0, 1), (0, 0), (0, 0), (0, v297), am_N]) (fun v297 => ?_)
                refine (am_e0 rfl rfl).trans ?_
                refine (am_e0 rfl rfl).trans ?_
                refine (am_i_le rfl).trans (am_if_congr (fun c298 => ?_) (fun c298 => ?_))
                · refine (am_e0 rfl rfl).trans ?_
                  refine (am_e0 rfl rfl).trans ?_
                  refine (am_e0 rfl rfl).trans ?_
                  refine (am_e0 rfl rfl).trans ?_
                  refine (am_e0 rfl rfl).trans ?_
                  refine (am_e0 rfl rfl).trans ?_
                  refine am_lets (L := fun v299 => [(2, x0), (2, x1), am_N, (0, x3), (0, v299), (0, x5), (0, x6), (0, x7), (0, 1), (0, 0), (0, 0), (0, v297), (0, 0)]) (fun v299 => ?_)
                  refine (am_e0 rfl rfl).trans ?_
                  refine (am_z_eq rfl).trans (am_if_congr (fun c300 => ?_) (fun c300 => ?_))
                  · refine (am_e0 rfl rfl).trans ?_
                    refine (am_gf (c := 4) (t := 2) rfl rfl rfl).trans ((am_g_t h295).trans ?_)
                    refine (am_e0 rfl rfl).trans ?_
                    refine (am_e0 rfl rfl).trans ?_
                    refine (am_z_eq rfl).trans (am_if_congr (fun c301 => ?_) (fun c301 => ?_))
                    · refine (am_e0 rfl rfl).trans ?_
                      refine (am_e0 rfl rfl).trans ?_
                      refine (am_e0 rfl rfl).trans ?_
                      refine (am_cal3 (z := 33) (k := 3) (c := true) rfl rfl rfl rfl rfl rfl rfl rfl).trans ((am_g_t rfl).trans ?_)
                      refine am_bind_congr fun r302 => ?_
                      show am_Ex d 123 132 [(2, x0), (2, x1), am_N, (0, x3), (0, v299), (0, x5), (0, x6), (0, x7), (0, 1), (0, 0), (0, 0), (0, v297), (0, 0)] [(0, r302.1), (0, v299), (2, am_rd M x0 3)] r302.2 = _
                      refine (am_ias rfl).trans (am_g_congr fun h303 => ?_)
                      refine am_letm (fun M304 => ?_)
                      exact (am_e5 rfl).trans rfl
                    · refine (am_e0 rfl rfl).trans ?_
                      refine (am_e0 rfl rfl).trans ?_
                      refine (am_cal3 (z := 32) (k := 2) (c := true) rfl rfl rfl rfl rfl rfl rfl rfl).trans ((am_g_t rfl).trans ?_)
                      refine am_bind_congr fun r305 => ?_
                      show am_Ex d 123 127 [(2, x0), (2, x1), am_N, (0, x3), (0, v299), (0, x5), (0, x6), (0, x7), (0, 1), (0, 0), (0, 0), (0, v297), (0, 0)] [(0, r305.1), (0, v299), (2, am_rd M x0 3)] r305.2 = _
                      refine (am_e1 rfl rfl).trans ?_
                      refine (am_ias rfl).trans (am_g_congr fun h306 => ?_)
                      refine am_letm (fun M307 => ?_)
                      exact (am_e5 rfl).trans rfl
                  · refine (am_e0 rfl rfl).trans ?_
                    refine (am_gf (c := 4) (t := 2) rfl rfl rfl).trans ((am_g_t h295).trans ?_)
                    refine (am_e0 rfl rfl).trans ?_
                    refine (am_e0 rfl rfl).trans ?_
                    refine (am_z_lt rfl).trans (am_if_congr (fun c308 => ?_) (fun c308 => ?_))
                    · refine (am_e0 rfl rfl).trans ?_
                      refine (am_gf (c := 4) (t := 2) rfl rfl rfl).trans ((am_g_t h295).trans ?_)
                      refine (am_e0 rfl rfl).trans ?_
                      refine (am_e0 rfl rfl).trans ?_
                      refine (am_e0 rfl rfl).trans ?_
                      refine (am_ial rfl).trans (am_g_congr fun h309 => ?_)
                      refine (am_ias rfl).trans (am_g_congr fun h310 => ?_)
                      refine am_letm (fun M311 => ?_)
                      refine (am_e1 rfl rfl).trans ?_
                      exact (am_e5 rfl).trans rfl
                    · refine (am_e0 rfl rfl).trans ?_
                      refine (am_e1 rfl rfl).trans ?_
                      refine (am_ias rfl).trans (am_g_congr fun h312 => ?_)
                      refine am_letm (fun M313 => ?_)
                      refine (am_e1 rfl rfl).trans ?_
                      exact (am_e5 rfl).trans rfl
                · refine (am_e0 rfl rfl).trans ?_
                  refine (am_gf (c := 4) (t := 2) rfl rfl rfl).trans ((am_g_t h295).trans ?_)
                  refine (am_e0 rfl rfl).trans ?_
                  refine (am_e0 rfl rfl).trans ?_
                  refine (am_e0 rfl rfl).trans ?_
                  refine (am_ial rfl).trans (am_g_congr fun h314 => ?_)
                  refine (am_e1 rfl rfl).trans ?_
                  refine (am_e0 rfl rfl).trans ?_
                  refine am_lets (L := fun v315 => [(2, x0), (2, x1), am_N, (0, x3), (0, x4), (0, x5), (0, x6), (0, x7), (0, 1), (0, 0), (0, 0), (0, v297), (0, v315)]) (fun v315 => ?_)
                  refine (am_e0 rfl rfl).trans ?_
                  refine (am_e0 rfl rfl).trans ?_
                  refine (am_e0 rfl rfl).trans ?_
                  refine (am_e0 rfl rfl).trans ?_
                  refine am_lets (L := fun v316 => [(2, x0), (2, x1), am_N, (0, x3), (0, v316), (0, x5), (0, x6), (0, x7), (0, 1), (0, 0), (0, 0), (0, v297), (0, v315)]) (fun v316 => ?_)
                  refine (am_e0 rfl rfl).trans ?_
                  refine (am_z_eq rfl).trans (am_if_congr (fun c317 => ?_) (fun c317 => ?_))
                  · refine (am_e0 rfl rfl).trans ?_
                    refine (am_gf (c := 4) (t := 2) rfl rfl rfl).trans ((am_g_t h295).trans ?_)
                    refine (am_e0 rfl rfl).trans ?_
                    refine (am_e0 rfl rfl).trans ?_
                    refine (am_z_eq rfl).trans (am_if_congr (fun c318 => ?_) (fun c318 => ?_))
                    · refine (am_e0 rfl rfl).trans ?_
                      refine (am_e0 rfl rfl).trans ?_
                      refine (am_e0 rfl rfl).trans ?_
                      refine (am_cal3 (z := 33) (k := 3) (c := true) rfl rfl rfl rfl rfl rfl rfl rfl).trans ((am_g_t rfl).trans ?_)
                      refine am_bind_congr fun r319 => ?_
                      show am_Ex d 123 132 [(2, x0), (2, x1), am_N, (0, x3), (0, v316), (0, x5), (0, x6), (0, x7), (0, 1), (0, 0), (0, 0), (0, v297), (0, v315)] [(0, r319.1), (0, v316), (2, am_rd M x0 3)] r319.2 = _
                      refine (am_ias rfl).trans (am_g_congr fun h320 => ?_)
                      refine am_letm (fun M321 => ?_)
                      exact (am_e5 rfl).trans rfl
                    · refine (am_e0 rfl rfl).trans ?_
                      refine (am_e0 rfl rfl).trans ?_
                      refine (am_cal3 (z := 32) (k := 2) (c := true) rfl rfl rfl rfl rfl rfl rfl rfl).trans ((am_g_t rfl).trans ?_)
                      refine am_bind_congr fun r322 => ?_
                      show am_Ex d 123 127 [(2, x0), (2, x1), am_N, (0, x3), (0, v316), (0, x5), (0, x6), (0, x7), (0, 1), (0, 0), (0, 0), (0, v297), (0, v315)] [(0, r322.1), (0, v316), (2, am_rd M x0 3)] r322.2 = _
                      refine (am_e1 rfl rfl).trans ?_
                      refine (am_ias rfl).trans (am_g_congr fun h323 => ?_)
                      refine am_letm (fun M324 => ?_)
                      exact (am_e5 rfl).trans rfl
                  · refine (am_e0 rfl rfl).trans ?_
                    refine (am_gf (c := 4) (t := 2) rfl rfl rfl).trans ((am_g_t h295).trans ?_)
                    refine (am_e0 rfl rfl).trans ?_
                    refine (am_e0 rfl rfl).trans ?_
                    refine (am_z_lt rfl).trans (am_if_congr (fun c325 => ?_) (fun c325 => ?_))
                    · refine (am_e0 rfl rfl).trans ?_
                      refine (am_gf (c := 4) (t := 2) rfl rfl rfl).trans ((am_g_t h295).trans ?_)
                      refine (am_e0 rfl rfl).trans ?_
                      refine (am_e0 rfl rfl).trans ?_
                      refine (am_e0 rfl rfl).trans ?_
                      refine (am_ial rfl).trans (am_g_congr fun h326 => ?_)
                      refine (am_ias rfl).trans (am_g_congr fun h327 => ?_)
                      refine am_letm (fun M328 => ?_)
                      refine (am_e1 rfl rfl).trans ?_
                      exact (am_e5 rfl).trans rfl
                    · refine (am_e0 rfl rfl).trans ?_
                      refine (am_e1 rfl rfl).trans ?_
                      refine (am_ias rfl).trans (am_g_congr fun h329 => ?_)
                      refine am_letm (fun M330 => ?_)
                      refine (am_e1 rfl rfl).trans ?_
                      exact (am_e5 rfl).trans rfl
            · refine (am_e5 rfl).trans ?_
              show am_Ex d 123 73 [am_N, am_N, am_N, am_N, am_N, am_N, am_N, am_N, am_N, am_N, am_N, am_N, am_N] [] M = _
              refine (am_e0 rfl rfl).trans ?_
              exact (am_e4i rfl rfl).trans rfl
set_option maxRecDepth 10000 in
theorem aq_123_38 (d : Nat) (x0 x1 x3 x4 x5 x6 x7 : Int) (M : am_M) : am_Ex d 123 38 [(2, x0), (2, x1), am_N, (0, x3), (0, x4), (0, x5), (0, x6), (0, x7), am_N, am_N, am_N, am_N, am_N] [] M = (if x7 = 23 then (am_Ex d 123 50 [(2, x0), (2, x1), am_N, (0, x3), (0, x4), (0, x5), (0, x6), (0, x7), (0, 0), am_N, am_N, am_N, am_N] [] M) else (if x7 = 24 then (am_Ex d 123 50 [(2, x0), (2, x1), am_N, (0, x3), (0, x4), (0, x5), (0, x6), (0, x7), (0, 0), am_N, am_N, am_N, am_N] [] M) else (if x7 = 45 then (am_Ex d 123 50 [(2, x0), (2, x1), am_N, (0, x3), (0, x4), (0, x5), (0, x6), (0, x7), (0, 0), am_N, am_N, am_N, am_N] [] M) else (if (0 : Int) = 0 then (if (0 : Int) = 0 then (if x4 < 2 then (some (0, M)) else (if am_w32 (x4 - 2) < 64 then (if (2 : Int) ≤ 0 then (if (2 : Int) ≤ 1 then (am_let (am_w32 (x4 - 2)) fun v110 => if (0 : Int) = 0 then (am_g (am_ob x0 4) <| if (0 : Int) = 0 then ((am_Call d 33 [(0, x7), (0, 0), (0, 0)] M).bind fun r114 => am_g (am_ar (am_rd M x0 3) 20 v110) <| am_let (am_wr r114.2 (am_rd M x0 3) v110 r114.1) fun M116 => am_Ex d 123 134 [(2, x0), (2, x1), am_N, (0, x3), (0, v110), (0, x5), am_N, am_N, am_N, am_N, am_N, am_N, am_N] [] M116) else ((am_Call d 32 [(0, x7), (0, 0)] M).bind fun r117 => am_g (am_ar (am_rd M x0 3) 20 v110) <| am_let (am_wr r117.2 (am_rd M x0 3) v110 r117.1) fun M119 => am_Ex d 123 134 [(2, x0), (2, x1), am_N, (0, x3), (0, v110), (0, x5), am_N, am_N, am_N, am_N, am_N, am_N, am_N] [] M119)) else (am_g (am_ob x0 4) <| if x6 < 0 then (am_g (am_ar (am_rd M x0 2) 20 (am_w32 (x7 - 12))) <| am_g (am_ar (am_rd M x0 3) 20 v110) <| am_let (am_wr M (am_rd M x0 3) v110 (am_rd M (am_rd M x0 2) (am_w32 (x7 - 12)))) fun M124 => am_Ex d 123 134 [(2, x0), (2, x1), am_N, (0, x3), (0, v110), (0, x5), am_N, am_N, am_N, am_N, am_N, am_N, am_N] [] M124) else (am_g (am_ar (am_rd M x0 3) 20 v110) <| am_let (am_wr M (am_rd M x0 3) v110 x6) fun M126 => am_Ex d 123 134 [(2, x0), (2, x1), am_N, (0, x3), (0, v110), (0, x5), am_N, am_N, am_N, am_N, am_N, am_N, am_N] [] M126))) else (am_g (am_ob x0 4) <| am_g (am_ar (am_rd M x0 3) 20 (am_w32 (x4 - 2))) <| am_let (am_rd M (am_rd M x0 3) (am_w32 (x4 - 2))) fun v129 => am_let (am_w32 (x4 - 2)) fun v130 => if (0 : Int) = 0 then (if (0 : Int) = 0 then ((am_Call d 33 [(0, x7), (0, v129), (0, 0)] M).bind fun r133 => am_g (am_ar (am_rd M x0 3) 20 v130) <| am_let (am_wr r133.2 (am_rd M x0 3) v130 r133.1) fun M135 => am_Ex d 123 134 [(2, x0), (2, x1), am_N, (0, x3), (0, v130), (0, x5), am_N, am_N, am_N, am_N, am_N, am_N, am_N] [] M135) else ((am_Call d 32 [(0, x7), (0, 0)] M).bind fun r136 => am_g (am_ar (am_rd M x0 3) 20 v130) <| am_let (am_wr r136.2 (am_rd M x0 3) v130 r136.1) fun M138 => am_Ex d 123 134 [(2, x0), (2, x1), am_N, (0, x3), (0, v130), (0, x5), am_N, am_N, am_N, am_N, am_N, am_N, am_N] [] M138)) else (if x6 < 0 then (am_g (am_ar (am_rd M x0 2) 20 (am_w32 (x7 - 12))) <| am_g (am_ar (am_rd M x0 3) 20 v130) <| am_let (am_wr M (am_rd M x0 3) v130 (am_rd M (am_rd M x0 2) (am_w32 (x7 - 12)))) fun M142 => am_Ex d 123 134 [(2, x0), (2, x1), am_N, (0, x3), (0, v130), (0, x5), am_N, am_N, am_N, am_N, am_N, am_N, am_N] [] M142) else (am_g (am_ar (am_rd M x0 3) 20 v130) <| am_let (am_wr M (am_rd M x0 3) v130 x6) fun M144 => am_Ex d 123 134 [(2, x0), (2, x1), am_N, (0, x3), (0, v130), (0, x5), am_N, am_N, am_N, am_N, am_N, am_N, am_N] [] M144)))) else (am_g (am_ob x0 4) <| am_g (am_ar (am_rd M x0 3) 20 (am_w32 (x4 - 1))) <| am_let (am_rd M (am_rd M x0 3) (am_w32 (x4 - 1))) fun v147 => if (2 : Int) ≤ 1 then (am_let (am_w32 (x4 - 2)) fun v149 => if (0 : Int) = 0 then (if (0 : Int) = 0 then ((am_Call d 33 [(0, x7), (0, 0), (0, v147)] M).bind fun r152 => am_g (am_ar (am_rd M x0 3) 20 v149) <| am_let (am_wr r152.2 (am_rd M x0 3) v149 r152.1) fun M154 => am_Ex d 123 134 [(2, x0), (2, x1), am_N, (0, x3), (0, v149), (0, x5), am_N, am_N, am_N, am_N, am_N, am_N, am_N] [] M154) else ((am_Call d 32 [(0, x7), (0, v147)] M).bind fun r155 => am_g (am_ar (am_rd M x0 3) 20 v149) <| am_let (am_wr r155.2 (am_rd M x0 3) v149 r155.1) fun M157 => am_Ex d 123 134 [(2, x0), (2, x1), am_N, (0, x3), (0, v149), (0, x5), am_N, am_N, am_N, am_N, am_N, am_N, am_N] [] M157)) else (if x6 < 0 then (am_g (am_ar (am_rd M x0 2) 20 (am_w32 (x7 - 12))) <| am_g (am_ar (am_rd M x0 3) 20 v149) <| am_let (am_wr M (am_rd M x0 3) v149 (am_rd M (am_rd M x0 2) (am_w32 (x7 - 12)))) fun M161 => am_Ex d 123 134 [(2, x0), (2, x1), am_N, (0, x3), (0, v149), (0, x5), am_N, am_N, am_N, am_N, am_N, am_N, am_N] [] M161) else (am_g (am_ar (am_rd M x0 3) 20 v149) <| am_let (am_wr M (am_rd M x0 3) v149 x6) fun M163 => am_Ex d 123 134 [(2, x0), (2, x1), am_N, (0, x3), (0, v149), (0, x5), am_N, am_N, am_N, am_N, am_N, am_N, am_N] [] M163))) else (am_g (am_ar (am_rd M x0 3) 20 (am_w32 (x4 - 2))) <| am_let (am_rd M (am_rd M x0 3) (am_w32 (x4 - 2))) fun v165 => am_let (am_w32 (x4 - 2)) fun v166 => if (0 : Int) = 0 then (if (0 : Int) = 0 then ((am_Call d 33 [(0, x7), (0, v165), (0, v147)] M).bind fun r169 => am_g (am_ar (am_rd M x0 3) 20 v166) <| am_let (am_wr r169.2 (am_rd M x0 3) v166 r169.1) fun M171 => am_Ex d 123 134 [(2, x0), (2, x1), am_N, (0, x3), (0, v166), (0, x5), am_N, am_N, am_N, am_N, am_N, am_N, am_N] [] M171) else ((am_Call d 32 [(0, x7), (0, v147)] M).bind fun r172 => am_g (am_ar (am_rd M x0 3) 20 v166) <| am_let (am_wr r172.2 (am_rd M x0 3) v166 r172.1) fun M174 => am_Ex d 123 134 [(2, x0), (2, x1), am_N, (0, x3), (0, v166), (0, x5), am_N, am_N, am_N, am_N, am_N, am_N, am_N] [] M174)) else (if x6 < 0 then (am_g (am_ar (am_rd M x0 2) 20 (am_w32 (x7 - 12))) <| am_g (am_ar (am_rd M x0 3) 20 v166) <| am_let (am_wr M (am_rd M x0 3) v166 (am_rd M (am_rd M x0 2) (am_w32 (x7 - 12)))) fun M178 => am_Ex d 123 134 [(2, x0), (2, x1), am_N, (0, x3), (0, v166), (0, x5), am_N, am_N, am_N, am_N, am_N, am_N, am_N] [] M178) else (am_g (am_ar (am_rd M x0 3) 20 v166) <| am_let (am_wr M (am_rd M x0 3) v166 x6) fun M180 => am_Ex d 123 134 [(2, x0), (2, x1), am_N, (0, x3), (0, v166), (0, x5), am_N, am_N, am_N, am_N, am_N, am_N, am_N] [] M180))))) else (some (0, M)))) else (if x4 < 1 then (some (0, M)) else (if am_w32 (x4 - 1) < 64 then (if (1 : Int) ≤ 0 then (if (1 : Int) ≤ 1 then (am_let (am_w32 (x4 - 1)) fun v185 => if (0 : Int) = 0 then (am_g (am_ob x0 4) <| if (0 : Int) = 0 then ((am_Call d 33 [(0, x7), (0, 0), (0, 0)] M).bind fun r189 => am_g (am_ar (am_rd M x0 3) 20 v185) <| am_let (am_wr r189.2 (am_rd M x0 3) v185 r189.1) fun M191 => am_Ex d 123 134 [(2, x0), (2, x1), am_N, (0, x3), (0, v185), (0, x5), am_N, am_N, am_N, am_N, am_N, am_N, am_N] [] M191) else ((am_Call d 32 [(0, x7), (0, 0)] M).bind fun r192 => am_g (am_ar (am_rd M x0 3) 20 v185) <| am_let (am_wr r192.2 (am_rd M x0 3) v185 r192.1) fun M194 => am_Ex d 123 134 [(2, x0), (2, x1), am_N, (0, x3), (0, v185), (0, x5), am_N, am_N, am_N, am_N, am_N, am_N, am_N] [] M194)) else (am_g (am_ob x0 4) <| if x6 < 0 then (am_g (am_ar (am_rd M x0 2) 20 (am_w32 (x7 - 12))) <| am_g (am_ar (am_rd M x0 3) 20 v185) <| am_let (am_wr M (am_rd M x0 3) v185 (am_rd M (am_rd M x0 2) (am_w32 (x7 - 12)))) fun M199 => am_Ex d 123 134 [(2, x0), (2, x1), am_N, (0, x3), (0, v185), (0, x5), am_N, am_N, am_N, am_N, am_N, am_N, am_N] [] M199) else (am_g (am_ar (am_rd M x0 3) 20 v185) <| am_let (am_wr M (am_rd M x0 3) v185 x6) fun M201 => am_Ex d 123 134 [(2, x0), (2, x1), am_N, (0, x3), (0, v185), (0, x5), am_N, am_N, am_N, am_N, am_N, am_N, am_N] [] M201))) else (am_g (am_ob x0 4) <| am_g (am_ar (am_rd M x0 3) 20 (am_w32 (x4 - 2))) <| am_let (am_rd M (am_rd M x0 3) (am_w32 (x4 - 2))) fun v204 => am_let (am_w32 (x4 - 1)) fun v205 => if (0 : Int) = 0 then (if (0 : Int) = 0 then ((am_Call d 33 [(0, x7), (0, v204), (0, 0)] M).bind fun r208 => am_g (am_ar (am_rd M x0 3) 20 v205) <| am_let (am_wr r208.2 (am_rd M x0 3) v205 r208.1) fun M210 => am_Ex d 123 134 [(2, x0), (2, x1), am_N, (0, x3), (0, v205), (0, x5), am_N, am_N, am_N, am_N, am_N, am_N, am_N] [] M210) else ((am_Call d 32 [(0, x7), (0, 0)] M).bind fun r211 => am_g (am_ar (am_rd M x0 3) 20 v205) <| am_let (am_wr r211.2 (am_rd M x0 3) v205 r211.1) fun M213 => am_Ex d 123 134 [(2, x0), (2, x1), am_N, (0, x3), (0, v205), (0, x5), am_N, am_N, am_N, am_N, am_N, am_N, am_N] [] M213)) else (if x6 < 0 then (am_g (am_ar (am_rd M x0 2) 20 (am_w32 (x7 - 12))) <| am_g (am_ar (am_rd M x0 3) 20 v205) <| am_let (am_wr M (am_rd M x0 3) v205 (am_rd M (am_rd M x0 2) (am_w32 (x7 - 12)))) fun M217 => am_Ex d 123 134 [(2, x0), (2, x1), am_N, (0, x3), (0, v205), (0, x5), am_N, am_N, am_N, am_N, am_N, am_N, am_N] [] M217) else (am_g (am_ar (am_rd M x0 3) 20 v205) <| am_let (am_wr M (am_rd M x0 3) v205 x6) fun M219 => am_Ex d 123 134 [(2, x0), (2, x1), am_N, (0, x3), (0, v205), (0, x5), am_N, am_N, am_N, am_N, am_N, am_N, am_N] [] M219)))) else (am_g (am_ob x0 4) <| am_g (am_ar (am_rd M x0 3) 20 (am_w32 (x4 - 1))) <| am_let (am_rd M (am_rd M x0 3) (am_w32 (x4 - 1))) fun v222 => if (1 : Int) ≤ 1 then (am_let (am_w32 (x4 - 1)) fun v224 => if (0 : Int) = 0 then (if (0 : Int) = 0 then ((am_Call d 33 [(0, x7), (0, 0), (0, v222)] M).bind fun r227 => am_g (am_ar (am_rd M x0 3) 20 v224) <| am_let (am_wr r227.2 (am_rd M x0 3) v224 r227.1) fun M229 => am_Ex d 123 134 [(2, x0), (2, x1), am_N, (0, x3), (0, v224), (0, x5), am_N, am_N, am_N, am_N, am_N, am_N, am_N] [] M229) else ((am_Call d 32 [(0, x7), (0, v222)] M).bind fun r230 => am_g (am_ar (am_rd M x0 3) 20 v224) <| am_let (am_wr r230.2 (am_rd M x0 3) v224 r230.1) fun M232 => am_Ex d 123 134 [(2, x0), (2, x1), am_N, (0, x3), (0, v224), (0, x5), am_N, am_N, am_N, am_N, am_N, am_N, am_N] [] M232)) else (if x6 < 0 then (am_g (am_ar (am_rd M x0 2) 20 (am_w32 (x7 - 12))) <| am_g (am_ar (am_rd M x0 3) 20 v224) <| am_let (am_wr M (am_rd M x0 3) v224 (am_rd M (am_rd M x0 2) (am_w32 (x7 - 12)))) fun M236 => am_Ex d 123 134 [(2, x0), (2, x1), am_N, (0, x3), (0, v224), (0, x5), am_N, am_N, am_N, am_N, am_N, am_N, am_N] [] M236) else (am_g (am_ar (am_rd M x0 3) 20 v224) <| am_let (am_wr M (am_rd M x0 3) v224 x6) fun M238 => am_Ex d 123 134 [(2, x0), (2, x1), am_N, (0, x3), (0, v224), (0, x5), am_N, am_N, am_N, am_N, am_N, am_N, am_N] [] M238))) else (am_g (am_ar (am_rd M x0 3) 20 (am_w32 (x4 - 2))) <| am_let (am_rd M (am_rd M x0 3) (am_w32 (x4 - 2))) fun v240 => am_let (am_w32 (x4 - 1)) fun v241 => if (0 : Int) = 0 then (if (0 : Int) = 0 then ((am_Call d 33 [(0, x7), (0, v240), (0, v222)] M).bind fun r244 => am_g (am_ar (am_rd M x0 3) 20 v241) <| am_let (am_wr r244.2 (am_rd M x0 3) v241 r244.1) fun M246 => am_Ex d 123 134 [(2, x0), (2, x1), am_N, (0, x3), (0, v241), (0, x5), am_N, am_N, am_N, am_N, am_N, am_N, am_N] [] M246) else ((am_Call d 32 [(0, x7), (0, v222)] M).bind fun r247 => am_g (am_ar (am_rd M x0 3) 20 v241) <| am_let (am_wr r247.2 (am_rd M x0 3) v241 r247.1) fun M249 => am_Ex d 123 134 [(2, x0), (2, x1), am_N, (0, x3), (0, v241), (0, x5), am_N, am_N, am_N, am_N, am_N, am_N, am_N] [] M249)) else (if x6 < 0 then (am_g (am_ar (am_rd M x0 2) 20 (am_w32 (x7 - 12))) <| am_g (am_ar (am_rd M x0 3) 20 v241) <| am_let (am_wr M (am_rd M x0 3) v241 (am_rd M (am_rd M x0 2) (am_w32 (x7 - 12)))) fun M253 => am_Ex d 123 134 [(2, x0), (2, x1), am_N, (0, x3), (0, v241), (0, x5), am_N, am_N, am_N, am_N, am_N, am_N, am_N] [] M253) else (am_g (am_ar (am_rd M x0 3) 20 v241) <| am_let (am_wr M (am_rd M x0 3) v241 x6) fun M255 => am_Ex d 123 134 [(2, x0), (2, x1), am_N, (0, x3), (0, v241), (0, x5), am_N, am_N, am_N, am_N, am_N, am_N, am_N] [] M255))))) else (some (0, M))))) else (if x4 < 0 then (some (0, M)) else (if am_w32 (x4 - 0) < 64 then (if (0 : Int) ≤ 0 then (if (0 : Int) ≤ 1 then (am_let (am_w32 (x4 - 0)) fun v260 => if (0 : Int) = 0 then (am_g (am_ob x0 4) <| if (0 : Int) = 0 then ((am_Call d 33 [(0, x7), (0, 0), (0, 0)] M).bind fun r264 => am_g (am_ar (am_rd M x0 3) 20 v260) <| am_let (am_wr r264.2 (am_rd M x0 3) v260 r264.1) fun M266 => am_Ex d 123 134 [(2, x0), (2, x1), am_N, (0, x3), (0, v260), (0, x5), am_N, am_N, am_N, am_N, am_N, am_N, am_N] [] M266) else ((am_Call d 32 [(0, x7), (0, 0)] M).bind fun r267 => am_g (am_ar (am_rd M x0 3) 20 v260) <| am_let (am_wr r267.2 (am_rd M x0 3) v260 r267.1) fun M269 => am_Ex d 123 134 [(2, x0), (2, x1), am_N, (0, x3), (0, v260), (0, x5), am_N, am_N, am_N, am_N, am_N, am_N, am_N] [] M269)) else (am_g (am_ob x0 4) <| if x6 < 0 then (am_g (am_ar (am_rd M x0 2) 20 (am_w32 (x7 - 12))) <| am_g (am_ar (am_rd M x0 3) 20 v260) <| am_let (am_wr M (am_rd M x0 3) v260 (am_rd M (am_rd M x0 2) (am_w32 (x7 - 12)))) fun M274 => am_Ex d 123 134 [(2, x0), (2, x1), am_N, (0, x3), (0, v260), (0, x5), am_N, am_N, am_N, am_N, am_N, am_N, am_N] [] M274) else (am_g (am_ar (am_rd M x0 3) 20 v260) <| am_let (am_wr M (am_rd M x0 3) v260 x6) fun M276 => am_Ex d 123 134 [(2, x0), (2, x1), am_N, (0, x3), (0, v260), (0, x5), am_N, am_N, am_N, am_N, am_N, am_N, am_N] [] M276))) else (am_g (am_ob x0 4) <| am_g (am_ar (am_rd M x0 3) 20 (am_w32 (x4 - 2))) <| am_let (am_rd M (am_rd M x0 3) (am_w32 (x4 - 2))) fun v279 => am_let (am_w32 (x4 - 0)) fun v280 => if (0 : Int) = 0 then (if (0 : Int) = 0 then ((am_Call d 33 [(0, x7), (0, v279), (0, 0)] M).bind fun r283 => am_g (am_ar (am_rd M x0 3) 20 v280) <| am_let (am_wr r283.2 (am_rd M x0 3) v280 r283.1) fun M285 => am_Ex d 123 134 [(2, x0), (2, x1), am_N, (0, x3), (0, v280), (0, x5), am_N, am_N, am_N, am_N, am_N, am_N, am_N] [] M285) else ((am_Call d 32 [(0, x7), (0, 0)] M).bind fun r286 => am_g (am_ar (am_rd M x0 3) 20 v280) <| am_let (am_wr r286.2 (am_rd M x0 3) v280 r286.1) fun M288 => am_Ex d 123 134 [(2, x0), (2, x1), am_N, (0, x3), (0, v280), (0, x5), am_N, am_N, am_N, am_N, am_N, am_N, am_N] [] M288)) else (if x6 < 0 then (am_g (am_ar (am_rd M x0 2) 20 (am_w32 (x7 - 12))) <| am_g (am_ar (am_rd M x0 3) 20 v280) <| am_let (am_wr M (am_rd M x0 3) v280 (am_rd M (am_rd M x0 2) (am_w32 (x7 - 12)))) fun M292 => am_Ex d 123 134 [(2, x0), (2, x1), am_N, (0, x3), (0, v280), (0, x5), am_N, am_N, am_N, am_N, am_N, am_N, am_N] [] M292) else (am_g (am_ar (am_rd M x0 3) 20 v280) <| am_let (am_wr M (am_rd M x0 3) v280 x6) fun M294 => am_Ex d 123 134 [(2, x0), (2, x1), am_N, (0, x3), (0, v280), (0, x5), am_N, am_N, am_N, am_N, am_N, am_N, am_N] [] M294)))) else (am_g (am_ob x0 4) <| am_g (am_ar (am_rd M x0 3) 20 (am_w32 (x4 - 1))) <| am_let (am_rd M (am_rd M x0 3) (am_w32 (x4 - 1))) fun v297 => if (0 : Int) ≤ 1 then (am_let (am_w32 (x4 - 0)) fun v299 => if (0 : Int) = 0 then (if (0 : Int) = 0 then ((am_Call d 33 [(0, x7), (0, 0), (0, v297)] M).bind fun r302 => am_g (am_ar (am_rd M x0 3) 20 v299) <| am_let (am_wr r302.2 (am_rd M x0 3) v299 r302.1) fun M304 => am_Ex d 123 134 [(2, x0), (2, x1), am_N, (0, x3), (0, v299), (0, x5), am_N, am_N, am_N, am_N, am_N, am_N, am_N] [] M304) else ((am_Call d 32 [(0, x7), (0, v297)] M).bind fun r305 => am_g (am_ar (am_rd M x0 3) 20 v299) <| am_let (am_wr r305.2 (am_rd M x0 3) v299 r305.1) fun M307 => am_Ex d 123 134 [(2, x0), (2, x1), am_N, (0, x3), (0, v299), (0, x5), am_N, am_N, am_N, am_N, am_N, am_N, am_N] [] M307)) else (if x6 < 0 then (am_g (am_ar (am_rd M x0 2) 20 (am_w32 (x7 - 12))) <| am_g (am_ar (am_rd M x0 3) 20 v299) <| am_let (am_wr M (am_rd M x0 3) v299 (am_rd M (am_rd M x0 2) (am_w32 (x7 - 12)))) fun M311 => am_Ex d 123 134 [(2, x0), (2, x1), am_N, (0, x3), (0, v299), (0, x5), am_N, am_N, am_N, am_N, am_N, am_N, am_N] [] M311) else (am_g (am_ar (am_rd M x0 3) 20 v299) <| am_let (am_wr M (am_rd M x0 3) v299 x6) fun M313 => am_Ex d 123 134 [(2, x0), (2, x1), am_N, (0, x3), (0, v299), (0, x5), am_N, am_N, am_N, am_N, am_N, am_N, am_N] [] M313))) else (am_g (am_ar (am_rd M x0 3) 20 (am_w32 (x4 - 2))) <| am_let (am_rd M (am_rd M x0 3) (am_w32 (x4 - 2))) fun v315 => am_let (am_w32 (x4 - 0)) fun v316 => if (0 : Int) = 0 then (if (0 : Int) = 0 then ((am_Call d 33 [(0, x7), (0, v315), (0, v297)] M).bind fun r319 => am_g (am_ar (am_rd M x0 3) 20 v316) <| am_let (am_wr r319.2 (am_rd M x0 3) v316 r319.1) fun M321 => am_Ex d 123 134 [(2, x0), (2, x1), am_N, (0, x3), (0, v316), (0, x5), am_N, am_N, am_N, am_N, am_N, am_N, am_N] [] M321) else ((am_Call d 32 [(0, x7), (0, v297)] M).bind fun r322 => am_g (am_ar (am_rd M x0 3) 20 v316) <| am_let (am_wr r322.2 (am_rd M x0 3) v316 r322.1) fun M324 => am_Ex d 123 134 [(2, x0), (2, x1), am_N, (0, x3), (0, v316), (0, x5), am_N, am_N, am_N, am_N, am_N, am_N, am_N] [] M324)) else (if x6 < 0 then (am_g (am_ar (am_rd M x0 2) 20 (am_w32 (x7 - 12))) <| am_g (am_ar (am_rd M x0 3) 20 v316) <| am_let (am_wr M (am_rd M x0 3) v316 (am_rd M (am_rd M x0 2) (am_w32 (x7 - 12)))) fun M328 => am_Ex d 123 134 [(2, x0), (2, x1), am_N, (0, x3), (0, v316), (0, x5), am_N, am_N, am_N, am_N, am_N, am_N, am_N] [] M328) else (am_g (am_ar (am_rd M x0 3) 20 v316) <| am_let (am_wr M (am_rd M x0 3) v316 x6) fun M330 => am_Ex d 123 134 [(2, x0), (2, x1), am_N, (0, x3), (0, v316), (0, x5), am_N, am_N, am_N, am_N, am_N, am_N, am_N] [] M330))))) else (some (0, M)))))))) := by
  refine (am_e0 rfl rfl).trans ?_
  refine (am_e0 rfl rfl).trans ?_
  refine (am_e0 rfl rfl).trans ?_
  refine (am_e0 rfl rfl).trans ?_
  refine (am_i_eq rfl).trans (am_if_congr (fun c101 => ?_) (fun c101 => ?_))
  · exact (am_e5 rfl).trans rfl
  · refine (am_e0 rfl rfl).trans ?_
    refine (am_e0 rfl rfl).trans ?_
    refine (am_i_eq rfl).trans (am_if_congr (fun c102 => ?_) (fun c102 => ?_))
    · exact (am_e5 rfl).trans rfl
    · refine (am_e0 rfl rfl).trans ?_
      refine (am_e0 rfl rfl).trans ?_
      refine (am_i_ne rfl).trans (am_if_congr (fun c103 => ?_) (fun c103 => ?_))
      · exact (am_e5 rfl).trans rfl
      · refine (am_e0 rfl rfl).trans ?_
        refine (am_e0 rfl rfl).trans ?_
        refine (am_e0 rfl rfl).trans ?_
        refine (am_z_eq rfl).trans (am_if_congr (fun c104 => ?_) (fun c104 => ?_))
        · refine (am_e0 rfl rfl).trans ?_
          refine (am_z_eq rfl).trans (am_if_congr (fun c105 => ?_) (fun c105 => ?_))
          · refine (am_e0 rfl rfl).trans ?_
            refine (am_e0 rfl rfl).trans ?_
            refine (am_e0 rfl rfl).trans ?_
            refine (am_e0 rfl rfl).trans ?_
            refine (am_i_lt rfl).trans (am_if_congr (fun c106 => ?_) (fun c106 => ?_))
            · refine (am_e5 rfl).trans ?_
              show am_Ex d 123 73 [am_N, am_N, am_N, am_N, am_N, am_N, am_N, am_N, am_N, am_N, am_N, am_N, am_N] [] M = _
              refine (am_e0 rfl rfl).trans ?_
              exact (am_e4i rfl rfl).trans rfl
            · refine (am_e0 rfl rfl).trans ?_
              refine (am_e0 rfl rfl).trans ?_
              refine (am_e0 rfl rfl).trans ?_
              refine (am_e0 rfl rfl).trans ?_
              refine (am_i_lt rfl).trans (am_if_congr (fun c107 => ?_) (fun c107 => ?_))
              · refine (am_e0 rfl rfl).trans ?_
                refine (am_z_le rfl).trans (am_if_congr (fun c108 => ?_) (fun c108 => ?_))
                · refine (am_e0 rfl rfl).trans ?_
                  refine (am_e0 rfl rfl).trans ?_
                  refine (am_e0 rfl rfl).trans ?_
                  refine (am_e0 rfl rfl).trans ?_
                  refine (am_i_le rfl).trans (am_if_congr (fun c109 => ?_) (fun c109 => ?_))
                  · refine (am_e0 rfl rfl).trans ?_
                    refine (am_e0 rfl rfl).trans ?_
                    refine (am_e0 rfl rfl).trans ?_
                    refine (am_e0 rfl rfl).trans ?_
                    refine (am_e0 rfl rfl).trans ?_
                    refine (am_e0 rfl rfl).trans ?_
                    refine am_lets (L := fun v110 => [(2, x0), (2, x1), am_N, (0, x3), (0, v110), (0, x5), (0, x6), (0, x7), (0, 0), (0, 0), (0, 2), (0, 0), (0, 0)]) (fun v110 => ?_)
                    refine (am_e0 rfl rfl).trans ?_
                    refine (am_z_eq rfl).trans (am_if_congr (fun c111 => ?_) (fun c111 => ?_))
                    · refine (am_e0 rfl rfl).trans ?_
                      refine (am_gf (c := 4) (t := 2) rfl rfl rfl).trans (am_g_congr fun h112 => ?_)
                      refine (am_e0 rfl rfl).trans ?_
                      refine (am_e0 rfl rfl).trans ?_
                      refine (am_z_eq rfl).trans (am_if_congr (fun c113 => ?_) (fun c113 => ?_))
                      · refine (am_e0 rfl rfl).trans ?_
                        refine (am_e0 rfl rfl).trans ?_
                        refine (am_e0 rfl rfl).trans ?_
                        refine (am_cal3 (z := 33) (k := 3) (c := true) rfl rfl rfl rfl rfl rfl rfl rfl).trans ((am_g_t rfl).trans ?_)
                        refine am_bind_congr fun r114 => ?_
                        show am_Ex d 123 132 [(2, x0), (2, x1), am_N, (0, x3), (0, v110), (0, x5), (0, x6), (0, x7), (0, 0), (0, 0), (0, 2), (0, 0), (0, 0)] [(0, r114.1), (0, v110), (2, am_rd M x0 3)] r114.2 = _
                        refine (am_ias rfl).trans (am_g_congr fun h115 => ?_)
                        refine am_letm (fun M116 => ?_)
                        exact (am_e5 rfl).trans rfl
                      · refine (am_e0 rfl rfl).trans ?_
                        refine (am_e0 rfl rfl).trans ?_
                        refine (am_cal3 (z := 32) (k := 2) (c := true) rfl rfl rfl rfl rfl rfl rfl rfl).trans ((am_g_t rfl).trans ?_)
                        refine am_bind_congr fun r117 => ?_
                        show am_Ex d 123 127 [(2, x0), (2, x1), am_N, (0, x3), (0, v110), (0, x5), (0, x6), (0, x7), (0, 0), (0, 0), (0, 2), (0, 0), (0, 0)] [(0, r117.1), (0, v110), (2, am_rd M x0 3)] r117.2 = _
                        refine (am_e1 rfl rfl).trans ?_
                        refine (am_ias rfl).trans (am_g_congr fun h118 => ?_)
                        refine am_letm (fun M119 => ?_)
                        exact (am_e5 rfl).trans rfl
                    · refine (am_e0 rfl rfl).trans ?_
                      refine (am_gf (c := 4) (t := 2) rfl rfl rfl).trans (am_g_congr fun h120 => ?_)
                      refine (am_e0 rfl rfl).trans ?_
                      refine (am_e0 rfl rfl).trans ?_
                      refine (am_z_lt rfl).trans (am_if_congr (fun c121 => ?_) (fun c121 => ?_))
                      · refine (am_e0 rfl rfl).trans ?_
                        refine (am_gf (c := 4) (t := 2) rfl rfl rfl).trans ((am_g_t h120).trans ?_)
                        refine (am_e0 rfl rfl).trans ?_
                        refine (am_e0 rfl rfl).trans ?_
                        refine (am_e0 rfl rfl).trans ?_
                        refine (am_ial rfl).trans (am_g_congr fun h122 => ?_)
                        refine (am_ias rfl).trans (am_g_congr fun h123 => ?_)
                        refine am_letm (fun M124 => ?_)
                        refine (am_e1 rfl rfl).trans ?_
                        exact (am_e5 rfl).trans rfl
                      · refine (am_e0 rfl rfl).trans ?_
                        refine (am_e1 rfl rfl).trans ?_
                        refine (am_ias rfl).trans (am_g_congr fun h125 => ?_)
                        refine am_letm (fun M126 => ?_)
                        refine (am_e1 rfl rfl).trans ?_
                        exact (am_e5 rfl).trans rfl
                  · refine (am_e0 rfl rfl).trans ?_
                    refine (am_gf (c := 4) (t := 2) rfl rfl rfl).trans (am_g_congr fun h127 => ?_)
                    refine (am_e0 rfl rfl).trans ?_
                    refine (am_e0 rfl rfl).trans ?_
                    refine (am_e0 rfl rfl).trans ?_
                    refine (am_ial rfl).trans (am_g_congr fun h128 => ?_)
                    refine (am_e1 rfl rfl).trans ?_
                    refine (am_e0 rfl rfl).trans ?_
                    refine am_lets (L := fun v129 => [(2, x0), (2, x1), am_N, (0, x3), (0, x4), (0, x5), (0, x6), (0, x7), (0, 0), (0, 0), (0, 2), (0, 0), (0, v129)]) (fun v129 => ?_)
                    refine (am_e0 rfl rfl).trans ?_
                    refine (am_e0 rfl rfl).trans ?_
                    refine (am_e0 rfl rfl).trans ?_
                    refine (am_e0 rfl rfl).trans ?_
                    refine am_lets (L := fun v130 => [(2, x0), (2, x1), am_N, (0, x3), (0, v130), (0, x5), (0, x6), (0, x7), (0, 0), (0, 0), (0, 2), (0, 0), (0, v129)]) (fun v130 => ?_)
                    refine (am_e0 rfl rfl).trans ?_
                    refine (am_z_eq rfl).trans (am_if_congr (fun c131 => ?_) (fun c131 => ?_))
                    · refine (am_e0 rfl rfl).trans ?_
                      refine (am_gf (c := 4) (t := 2) rfl rfl rfl).trans ((am_g_t h127).trans ?_)
                      refine (am_e0 rfl rfl).trans ?_
                      refine (am_e0 rfl rfl).trans ?_
                      refine (am_z_eq rfl).trans (am_if_congr (fun c132 => ?_) (fun c132 => ?_))
                      · refine (am_e0 rfl rfl).trans ?_
                        refine (am_e0 rfl rfl).trans ?_
                        refine (am_e0 rfl rfl).trans ?_
                        refine (am_cal3 (z := 33) (k := 3) (c := true) rfl rfl rfl rfl rfl rfl rfl rfl).trans ((am_g_t rfl).trans ?_)
                        refine am_bind_congr fun r133 => ?_
                        show am_Ex d 123 132 [(2, x0), (2, x1), am_N, (0, x3), (0, v130), (0, x5), (0, x6), (0, x7), (0, 0), (0, 0), (0, 2), (0, 0), (0, v129)] [(0, r133.1), (0, v130), (2, am_rd M x0 3)] r133.2 = _
                        refine (am_ias rfl).trans (am_g_congr fun h134 => ?_)
                        refine am_letm (fun M135 => ?_)
                        exact (am_e5 rfl).trans rfl
                      · refine (am_e0 rfl rfl).trans ?_
                        refine (am_e0 rfl rfl).trans ?_
                        refine (am_cal3 (z := 32) (k := 2) (c := true) rfl rfl rfl rfl rfl rfl rfl rfl).trans ((am_g_t rfl).trans ?_)
                        refine am_bind_congr fun r136 => ?_
                        show am_Ex d 123 127 [(2, x0), (2, x1), am_N, (0, x3), (0, v130), (0, x5), (0, x6), (0, x7), (0, 0), (0, 0), (0, 2), (0, 0), (0, v129)] [(0, r136.1), (0, v130), (2, am_rd M x0 3)] r136.2 = _
                        refine (am_e1 rfl rfl).trans ?_
                        refine (am_ias rfl).trans (am_g_congr fun h137 => ?_)
                        refine am_letm (fun M138 => ?_)
                        exact (am_e5 rfl).trans rfl
                    · refine (am_e0 rfl rfl).trans ?_
                      refine (am_gf (c := 4) (t := 2) rfl rfl rfl).trans ((am_g_t h127).trans ?_)
                      refine (am_e0 rfl rfl).trans ?_
                      refine (am_e0 rfl rfl).trans ?_
                      refine (am_z_lt rfl).trans (am_if_congr (fun c139 => ?_) (fun c139 => ?_))
                      · refine (am_e0 rfl rfl).trans ?_
                        refine (am_gf (c := 4) (t := 2) rfl rfl rfl).trans ((am_g_t h127).trans ?_)
                        refine (am_e0 rfl rfl).trans ?_
                        refine (am_e0 rfl rfl).trans ?_
                        refine (am_e0 rfl rfl).trans ?_
                        refine (am_ial rfl).trans (am_g_congr fun h140 => ?_)
                        refine (am_ias rfl).trans (am_g_congr fun h141 => ?_)
                        refine am_letm (fun M142 => ?_)
                        refine (am_e1 rfl rfl).trans ?_
                        exact (am_e5 rfl).trans rfl
                      · refine (am_e0 rfl rfl).trans ?_
                        refine (am_e1 rfl rfl).trans ?_
                        refine (am_ias rfl).trans (am_g_congr fun h143 => ?_)
                        refine am_letm (fun M144 => ?_)
                        refine (am_e1 rfl rfl).trans ?_
                        exact (am_e5 rfl).trans rfl
                · refine (am_e0 rfl rfl).trans ?_
                  refine (am_gf (c := 4) (t := 2) rfl rfl rfl).trans (am_g_congr fun h145 => ?_)
                  refine (am_e0 rfl rfl).trans ?_
                  refine (am_e0 rfl rfl).trans ?_
                  refine (am_e0 rfl rfl).trans ?_
                  refine (am_ial rfl).trans (am_g_congr fun h146 => ?_)
                  refine (am_e1 rfl rfl).trans ?_
                  refine (am_e0 rfl rfl).trans ?_
                  refine am_lets (L := fun v147 => [(2, x0), (2, x1), am_N, (0, x3), (0, x4), (0, x5), (0, x6), (0, x7), (0, 0), (0, 0), (0, 2), (0, v147), am_N]) (fun v147 => ?_)
                  refine (am_e0 rfl rfl).trans ?_
                  refine (am_e0 rfl rfl).trans ?_
                  refine (am_i_le rfl).trans (am_if_congr (fun c148 => ?_) (fun c148 => ?_))
                  · refine (am_e0 rfl rfl).trans ?_
                    refine (am_e0 rfl rfl).trans ?_
                    refine (am_e0 rfl rfl).trans ?_
                    refine (am_e0 rfl rfl).trans ?_
                    refine (am_e0 rfl rfl).trans ?_
                    refine (am_e0 rfl rfl).trans ?_
                    refine am_lets (L := fun v149 => [(2, x0), (2, x1), am_N, (0, x3), (0, v149), (0, x5), (0, x6), (0, x7), (0, 0), (0, 0), (0, 2), (0, v147), (0, 0)]) (fun v149 => ?_)
                    refine (am_e0 rfl rfl).trans ?_
                    refine (am_z_eq rfl).trans (am_if_congr (fun c150 => ?_) (fun c150 => ?_))
                    · refine (am_e0 rfl rfl).trans ?_
                      refine (am_gf (c := 4) (t := 2) rfl rfl rfl).trans ((am_g_t h145).trans ?_)
                      refine (am_e0 rfl rfl).trans ?_
                      refine (am_e0 rfl rfl).trans ?_
                      refine (am_z_eq rfl).trans (am_if_congr (fun c151 => ?_) (fun c151 => ?_))
                      · refine (am_e0 rfl rfl).trans ?_
                        refine (am_e0 rfl rfl).trans ?_
                        refine (am_e0 rfl rfl).trans ?_
                        refine (am_cal3 (z := 33) (k := 3) (c := true) rfl rfl rfl rfl rfl rfl rfl rfl).trans ((am_g_t rfl).trans ?_)
                        refine am_bind_congr fun r152 => ?_
                        show am_Ex d 123 132 [(2, x0), (2, x1), am_N, (0, x3), (0, v149), (0, x5), (0, x6), (0, x7), (0, 0), (0, 0), (0, 2), (0, v147), (0, 0)] [(0, r152.1), (0, v149), (2, am_rd M x0 3)] r152.2 = _
                        refine (am_ias rfl).trans (am_g_congr fun h153 => ?_)
                        refine am_letm (fun M154 => ?_)
                        exact (am_e5 rfl).trans rfl
                      · refine (am_e0 rfl rfl).trans ?_
                        refine (am_e0 rfl rfl).trans ?_
                        refine (am_cal3 (z := 32) (k := 2) (c := true) rfl rfl rfl rfl rfl rfl rfl rfl).trans ((am_g_t rfl).trans ?_)
                        refine am_bind_congr fun r155 => ?_
                        show am_Ex d 123 127 [(2, x0), (2, x1), am_N, (0, x3), (0, v149), (0, x5), (0, x6), (0, x7), (0, 0), (0, 0), (0, 2), (0, v147), (0, 0)] [(0, r155.1), (0, v149), (2, am_rd M x0 3)] r155.2 = _
                        refine (am_e1 rfl rfl).trans ?_
                        refine (am_ias rfl).trans (am_g_congr fun h156 => ?_)
                        refine am_letm (fun M157 => ?_)
                        exact (am_e5 rfl).trans rfl
                    · refine (am_e0 rfl rfl).trans ?_
                      refine (am_gf (c := 4) (t := 2) rfl rfl rfl).trans ((am_g_t h145).trans ?_)
                      refine (am_e0 rfl rfl).trans ?_
                      refine (am_e0 rfl rfl).trans ?_
                      refine (am_z_lt rfl).trans (am_if_congr (fun c158 => ?_) (fun c158 => ?_))
                      · refine (am_e0 rfl rfl).trans ?_
                        refine (am_gf (c := 4) (t := 2) rfl rfl rfl).trans ((am_g_t h145).trans ?_)
                        refine (am_e0 rfl rfl).trans ?_
                        refine (am_e0 rfl rfl).trans ?_
                        refine (am_e0 rfl rfl).trans ?_
                        refine (am_ial rfl).trans (am_g_congr fun h159 => ?_)
                        refine (am_ias rfl).trans (am_g_congr fun h160 => ?_)
                        refine am_letm (fun M161 => ?_)
                        refine (am_e1 rfl rfl).trans ?_
                        exact (am_e5 rfl).trans rfl
                      · refine (am_e0 rfl rfl).trans ?_
                        refine (am_e1 rfl rfl).trans ?_
                        refine (am_ias rfl).trans (am_g_congr fun h162 => ?_)
                        refine am_letm (fun M163 => ?_)
                        refine (am_e1 rfl rfl).trans ?_
                        exact (am_e5 rfl).trans rfl
                  · refine (am_e0 rfl rfl).trans ?_
                    refine (am_gf (c := 4) (t := 2) rfl rfl rfl).trans ((am_g_t h145).trans ?_)
                    refine (am_e0 rfl rfl).trans ?_
                    refine (am_e0 rfl rfl).trans ?_
                    refine (am_e0 rfl rfl).trans ?_
                    refine (am_ial rfl).trans (am_g_congr fun h164 => ?_)
                    refine (am_e1 rfl rfl).trans ?_
                    refine (am_e0 rfl rfl).trans ?_
                    refine am_lets (L := fun v165 => [(2, x0), (2, x1), am_N, (0, x3), (0, x4), (0, x5), (0, x6), (0, x7), (0, 0), (0, 0), (0, 2), (0, v147), (0, v165)]) (fun v165 => ?_)
                    refine (am_e0 rfl rfl).trans ?_
                    refine (am_e0 rfl rfl).trans ?_
                    refine (am_e0 rfl rfl).trans ?_
                    refine (am_e0 rfl rfl).trans ?_
                    refine am_lets (L := fun v166 => [(2, x0), (2, x1), am_N, (0, x3), (0, v166), (0, x5), (0, x6), (0, x7), (0, 0), (0, 0), (0, 2), (0, v147), (0, v165)]) (fun v166 => ?_)
                    refine (am_e0 rfl rfl).trans ?_
                    refine (am_z_eq rfl).trans (am_if_congr (fun c167 => ?_) (fun c167 => ?_))
                    · refine (am_e0 rfl rfl).trans ?_
                      refine (am_gf (c := 4) (t := 2) rfl rfl rfl).trans ((am_g_t h145).trans ?_)
                      refine (am_e0 rfl rfl).trans ?_
                      refine (am_e0 rfl rfl).trans ?_
                      refine (am_z_eq rfl).trans (am_if_congr (fun c168 => ?_) (fun c168 => ?_))
                      · refine (am_e0 rfl rfl).trans ?_
                        refine (am_e0 rfl rfl).trans ?_
                        refine (am_e0 rfl rfl).trans ?_
                        refine (am_cal3 (z := 33) (k := 3) (c := true) rfl rfl rfl rfl rfl rfl rfl rfl).trans ((am_g_t rfl).trans ?_)
                        refine am_bind_congr fun r169 => ?_
                        show am_Ex d 123 132 [(2, x0), (2, x1), am_N, (0, x3), (0, v166), (0, x5), (0, x6), (0, x7), (0, 0), (0, 0), (0, 2), (0, v147), (0, v165)] [(0, r169.1), (0, v166), (2, am_rd M x0 3)] r169.2 = _
                        refine (am_ias rfl).trans (am_g_congr fun h170 => ?_)
                        refine am_letm (fun M171 => ?_)
                        exact (am_e5 rfl).trans rfl
                      · refine (am_e0 rfl rfl).trans ?_
                        refine (am_e0 rfl rfl).trans ?_
                        refine (am_cal3 (z := 32) (k := 2) (c := true) rfl rfl rfl rfl rfl rfl rfl rfl).trans ((am_g_t rfl).trans ?_)
                        refine am_bind_congr fun r172 => ?_
                        show am_Ex d 123 127 [(2, x0), (2, x1), am_N, (0, x3), (0, v166), (0, x5), (0, x6), (0, x7), (0, 0), (0, 0), (0, 2), (0, v147), (0, v165)] [(0, r172.1), (0, v166), (2, am_rd M x0 3)] r172.2 = _
                        refine (am_e1 rfl rfl).trans ?_
                        refine (am_ias rfl).trans (am_g_congr fun h173 => ?_)
                        refine am_letm (fun M174 => ?_)
                        exact (am_e5 rfl).trans rfl
                    · refine (am_e0 rfl rfl).trans ?_
                      refine (am_gf (c := 4) (t := 2) rfl rfl rfl).trans ((am_g_t h145).trans ?_)
                      refine (am_e0 rfl rfl).trans ?_
                      refine (am_e0 rfl rfl).trans ?_
                      refine (am_z_lt rfl).trans (am_if_congr (fun c175 => ?_) (fun c175 => ?_))
                      · refine (am_e0 rfl rfl).trans ?_
                        refine (am_gf (c := 4) (t := 2) rfl rfl rfl).trans ((am_g_t h145).trans ?_)
                        refine (am_e0 rfl rfl).trans ?_
                        refine (am_e0 rfl rfl).trans ?_
                        refine (am_e0 rfl rfl).trans ?_
                        refine (am_ial rfl).trans (am_g_congr fun h176 => ?_)
                        refine (am_ias rfl).trans (am_g_congr fun h177 => ?_)
                        refine am_letm (fun M178 => ?_)
                        refine (am_e1 rfl rfl).trans ?_
                        exact (am_e5 rfl).trans rfl
                      · refine (am_e0 rfl rfl).trans ?_
                        refine (am_e1 rfl rfl).trans ?_
                        refine (am_ias rfl).trans (am_g_congr fun h179 => ?_)
                        refine am_letm (fun M180 => ?_)
                        refine (am_e1 rfl rfl).trans ?_
                        exact (am_e5 rfl).trans rfl
              · refine (am_e5 rfl).trans ?_
                show am_Ex d 123 73 [am_N, am_N, am_N, am_N, am_N, am_N, am_N, am_N, am_N, am_N, am_N, am_N, am_N] [] M = _
                refine (am_e0 rfl rfl).trans ?_
                exact (am_e4i rfl rfl).trans rfl
          · refine (am_e0 rfl rfl).trans ?_
            refine (am_e1 rfl rfl).trans ?_
            refine (am_e0 rfl rfl).trans ?_
            refine (am_e0 rfl rfl).trans ?_
            refine (am_e0 rfl rfl).trans ?_
            refine (am_i_lt rfl).trans (am_if_congr (fun c181 => ?_) (fun c181 => ?_))
            · refine (am_e5 rfl).trans ?_
              show am_Ex d 123 73 [am_N, am_N, am_N, am_N, am_N, am_N, am_N, am_N, am_N, am_N, am_N, am_N, am_N] [] M = _
              refine (am_e0 rfl rfl).trans ?_
              exact (am_e4i rfl rfl).trans rfl
            · refine (am_e0 rfl rfl).trans ?_
              refine (am_e0 rfl rfl).trans ?_
              refine (am_e0 rfl rfl).trans ?_
              refine (am_e0 rfl rfl).trans ?_
              refine (am_i_lt rfl).trans (am_if_congr (fun c182 => ?_) (fun c182 => ?_))
              · refine (am_e0 rfl rfl).trans ?_
                refine (am_z_le rfl).trans (am_if_congr (fun c183 => ?_) (fun c183 => ?_))
                · refine (am_e0 rfl rfl).trans ?_
                  refine (am_e0 rfl rfl).trans ?_
                  refine (am_e0 rfl rfl).trans ?_
                  refine (am_e0 rfl rfl).trans ?_
                  refine (am_i_le rfl).trans (am_if_congr (fun c184 => ?_) (fun c184 => ?_))
                  · refine (am_e0 rfl rfl).trans ?_
                    refine (am_e0 rfl rfl).trans ?_
                    refine (am_e0 rfl rfl).trans ?_
                    refine (am_e0 rfl rfl).trans ?_
                    refine (am_e0 rfl rfl).trans ?_
                    refine (am_e0 rfl rfl).trans ?_
                    refine am_lets (L := fun v185 => [(2, x0), (2, x1), am_N, (0, x3), (0, v185), (0, x5), (0, x6), (0, x7), (0, 0), (0, 0), (0, 1), (0, 0), (0, 0)]) (fun v185 => ?_)
                    refine (am_e0 rfl rfl).trans ?_
                    refine (am_z_eq rfl).trans (am_if_congr (fun c186 => ?_) (fun c186 => ?_))
                    · refine (am_e0 rfl rfl).trans ?_
                      refine (am_gf (c := 4) (t := 2) rfl rfl rfl).trans (am_g_congr fun h187 => ?_)
                      refine (am_e0 rfl rfl).trans ?_
                      refine (am_e0 rfl rfl).trans ?_
                      refine (am_z_eq rfl).trans (am_if_congr (fun c188 => ?_) (fun c188 => ?_))
                      · refine (am_e0 rfl rfl).trans ?_
                        refine (am_e0 rfl rfl).trans ?_
                        refine (am_e0 rfl rfl).trans ?_
                        refine (am_cal3 (z := 33) (k := 3) (c := true) rfl rfl rfl rfl rfl rfl rfl rfl).trans ((am_g_t rfl).trans ?_)
                        refine am_bind_congr fun r189 => ?_
                        show am_Ex d 123 132 [(2, x0), (2, x1), am_N, (0, x3), (0, v185), (0, x5), (0, x6), (0, x7), (0, 0), (0, 0), (0, 1), (0, 0), (0, 0)] [(0, r189.1), (0, v185), (2, am_rd M x0 3)] r189.2 = _
                        refine (am_ias rfl).trans (am_g_congr fun h190 => ?_)
                        refine am_letm (fun M191 => ?_)
                        exact (am_e5 rfl).trans rfl
                      · refine (am_e0 rfl rfl).trans ?_
                        refine (am_e0 rfl rfl).trans ?_
                        refine (am_cal3 (z := 32) (k := 2) (c := true) rfl rfl rfl rfl rfl rfl rfl rfl).trans ((am_g_t rfl).trans ?_)
                        refine am_bind_congr fun r192 => ?_
                        show am_Ex d 123 127 [(2, x0), (2, x1), am_N, (0, x3), (0, v185), (0, x5), (0, x6), (0, x7), (0, 0), (0, 0), (0, 1), (0, 0), (0, 0)] [(0, r192.1), (0, v185), (2, am_rd M x0 3)] r192.2 = _
                        refine (am_e1 rfl rfl).trans ?_
                        refine (am_ias rfl).trans (am_g_congr fun h193 => ?_)
                        refine am_letm (fun M194 => ?_)
                        exact (am_e5 rfl).trans rfl
                    · refine (am_e0 rfl rfl).trans ?_
                      refine (am_gf (c := 4) (t := 2) rfl rfl rfl).trans (am_g_congr fun h195 => ?_)
                      refine (am_e0 rfl rfl).trans ?_
                      refine (am_e0 rfl rfl).trans ?_
                      refine (am_z_lt rfl).trans (am_if_congr (fun c196 => ?_) (fun c196 => ?_))
                      · refine (am_e0 rfl rfl).trans ?_
                        refine (am_gf (c := 4) (t := 2) rfl rfl rfl).trans ((am_g_t h195).trans ?_)
                        refine (am_e0 rfl rfl).trans ?_
                        refine (am_e0 rfl rfl).trans ?_
                        refine (am_e0 rfl rfl).trans ?_
                        refine (am_ial rfl).trans (am_g_congr fun h197 => ?_)
                        refine (am_ias rfl).trans (am_g_congr fun h198 => ?_)
                        refine am_letm (fun M199 => ?_)
                        refine (am_e1 rfl rfl).trans ?_
                        exact (am_e5 rfl).trans rfl
                      · refine (am_e0 rfl rfl).trans ?_
                        refine (am_e1 rfl rfl).trans ?_
                        refine (am_ias rfl).trans (am_g_congr fun h200 => ?_)
                        refine am_letm (fun M201 => ?_)
                        refine (am_e1 rfl rfl).trans ?_
                        exact (am_e5 rfl).trans rfl
                  · refine (am_e0 rfl rfl).trans ?_
                    refine (am_gf (c := 4) (t := 2) rfl rfl rfl).trans (am_g_congr fun h202 => ?_)
                    refine (am_e0 rfl rfl).trans ?_
                    refine (am_e0 rfl rfl).trans ?_
                    refine (am_e0 rfl rfl).trans ?_
                    refine (am_ial rfl).trans (am_g_congr fun h203 => ?_)
                    refine (am_e1 rfl rfl).trans ?_
                    refine (am_e0 rfl rfl).trans ?_
                    refine am_lets (L := fun v204 => [(2, x0), (2, x1), am_N, (0, x3), (0, x4), (0, x5), (0, x6), (0, x7), (0, 0), (0, 0), (0, 1), (0, 0), (0, v204)]) (fun v204 => ?_)
                    refine (am_e0 rfl rfl).trans ?_
                    refine (am_e0 rfl rfl).trans ?_
                    refine (am_e0 rfl rfl).trans ?_
                    refine (am_e0 rfl rfl).trans ?_
                    refine am_lets (L := fun v205 => [(2, x0), (2, x1), am_N, (0, x3), (0, v205), (0, x5), (0, x6), (0, x7), (0, 0), (0, 0), (0, 1), (0, 0), (0, v204)]) (fun v205 => ?_)
                    refine (am_e0 rfl rfl).trans ?_
                    refine (am_z_eq rfl).trans (am_if_congr (fun c206 => ?_) (fun c206 => ?_))
                    · refine (am_e0 rfl rfl).trans ?_
                      refine (am_gf (c := 4) (t := 2) rfl rfl rfl).trans ((am_g_t h202).trans ?_)
                      refine (am_e0 rfl rfl).trans ?_
                      refine (am_e0 rfl rfl).trans ?_
                      refine (am_z_eq rfl).trans (am_if_congr (fun c207 => ?_) (fun c207 => ?_))
                      · refine (am_e0 rfl rfl).trans ?_
                        refine (am_e0 rfl rfl).trans ?_
                        refine (am_e0 rfl rfl).trans ?_
                        refine (am_cal3 (z := 33) (k := 3) (c := true) rfl rfl rfl rfl rfl rfl rfl rfl).trans ((am_g_t rfl).trans ?_)
                        refine am_bind_congr fun r208 => ?_
                        show am_Ex d 123 132 [(2, x0), (2, x1), am_N, (0, x3), (0, v205), (0, x5), (0, x6), (0, x7), (0, 0), (0, 0), (0, 1), (0, 0), (0, v204)] [(0, r208.1), (0, v205), (2, am_rd M x0 3)] r208.2 = _
                        refine (am_ias rfl).trans (am_g_congr fun h209 => ?_)
                        refine am_letm (fun M210 => ?_)
                        exact (am_e5 rfl).trans rfl
                      · refine (am_e0 rfl rfl).trans ?_
                        refine (am_e0 rfl rfl).trans ?_
                        refine (am_cal3 (z := 32) (k := 2) (c := true) rfl rfl rfl rfl rfl rfl rfl rfl).trans ((am_g_t rfl).trans ?_)
                        refine am_bind_congr fun r211 => ?_
                        show am_Ex d 123 127 [(2, x0), (2, x1), am_N, (0, x3), (0, v205), (0, x5), (0, x6), (0, x7), (0, 0), (0, 0), (0, 1), (0, 0), (0, v204)] [(0, r211.1), (0, v205), (2, am_rd M x0 3)] r211.2 = _
                        refine (am_e1 rfl rfl).trans ?_
                        refine (am_ias rfl).trans (am_g_congr fun h212 => ?_)
                        refine am_letm (fun M213 => ?_)
                        exact (am_e5 rfl).trans rfl
                    · refine (am_e0 rfl rfl).trans ?_
                      refine (am_gf (c := 4) (t := 2) rfl rfl rfl).trans ((am_g_t h202).trans ?_)
                      refine (am_e0 rfl rfl).trans ?_
                      refine (am_e0 rfl rfl).trans ?_
                      refine (am_z_lt rfl).trans (am_if_congr (fun c214 => ?_) (fun c214 => ?_))
                      · refine (am_e0 rfl rfl).trans ?_
                        refine (am_gf (c := 4) (t := 2) rfl rfl rfl).trans ((am_g_t h202).trans ?_)
                        refine (am_e0 rfl rfl).trans ?_
                        refine (am_e0 rfl rfl).trans ?_
                        refine (am_e0 rfl rfl).trans ?_
                        refine (am_ial rfl).trans (am_g_congr fun h215 => ?_)
                        refine (am_ias rfl).trans (am_g_congr fun h216 => ?_)
                        refine am_letm (fun M217 => ?_)
                        refine (am_e1 rfl rfl).trans ?_
                        exact (am_e5 rfl).trans rfl
                      · refine (am_e0 rfl rfl).trans ?_
                        refine (am_e1 rfl rfl).trans ?_
                        refine (am_ias rfl).trans (am_g_congr fun h218 => ?_)
                        refine am_letm (fun M219 => ?_)
                        refine (am_e1 rfl rfl).trans ?_
                        exact (am_e5 rfl).trans rfl
                · refine (am_e0 rfl rfl).trans ?_
                  refine (am_gf (c := 4) (t := 2) rfl rfl rfl).trans (am_g_congr fun h220 => ?_)
                  refine (am_e0 rfl rfl).trans ?_
                  refine (am_e0 rfl rfl).trans ?_
                  refine (am_e0 rfl rfl).trans ?_
                  refine (am_ial rfl).trans (am_g_congr fun h221 => ?_)
                  refine (am_e1 rfl rfl).trans ?_
                  refine (am_e0 rfl rfl).trans ?_
                  refine am_lets (L := fun v222 => [(2, x0), (2, x1), am_N, (0, x3), (0, x4), (0, x5), (0, x6), (0, x7), (0, 0), (0, 0), (0, 1), (0, v222), am_N]) (fun v222 => ?_)
                  refine (am_e0 rfl rfl).trans ?_
                  refine (am_e0 rfl rfl).trans ?_
                  refine (am_i_le rfl).trans (am_if_congr (fun c223 => ?_) (fun c223 => ?_))
                  · refine (am_e0 rfl rfl).trans ?_
                    refine (am_e0 rfl rfl).trans ?_
                    refine (am_e0 rfl rfl).trans ?_
                    refine (am_e0 rfl rfl).trans ?_
                    refine (am_e0 rfl rfl).trans ?_
                    refine (am_e0 rfl rfl).trans ?_
                    refine am_lets (L := fun v224 => [(2, x0), (2, x1), am_N, (0, x3), (0, v224), (0, x5), (0, x6), (0, x7), (0, 0), (0, 0), (0, 1), (0, v222), (0, 0)]) (fun v224 => ?_)
                    refine (am_e0 rfl rfl).trans ?_
                    refine (am_z_eq rfl).trans (am_if_congr (fun c225 => ?_) (fun c225 => ?_))
                    · refine (am_e0 rfl rfl).trans ?_
                      refine (am_gf (c := 4) (t := 2) rfl rfl rfl).trans ((am_g_t h220).trans ?_)
                      refine (am_e0 rfl rfl).trans ?_
                      refine (am_e0 rfl rfl).trans ?_
                      refine (am_z_eq rfl).trans (am_if_congr (fun c226 => ?_) (fun c226 => ?_))
                      · refine (am_e0 rfl rfl).trans ?_
                        refine (am_e0 rfl rfl).trans ?_
                        refine (am_e0 rfl rfl).trans ?_
                        refine (am_cal3 (z := 33) (k := 3) (c := true) rfl rfl rfl rfl rfl rfl rfl rfl).trans ((am_g_t rfl).trans ?_)
                        refine am_bind_congr fun r227 => ?_
                        show am_Ex d 123 132 [(2, x0), (2, x1), am_N, (0, x3), (0, v224), (0, x5), (0, x6), (0, x7), (0, 0), (0, 0), (0, 1), (0, v222), (0, 0)] [(0, r227.1), (0, v224), (2, am_rd M x0 3)] r227.2 = _
                        refine (am_ias rfl).trans (am_g_congr fun h228 => ?_)
                        refine am_letm (fun M229 => ?_)
                        exact (am_e5 rfl).trans rfl
                      · refine (am_e0 rfl rfl).trans ?_
                        refine (am_e0 rfl rfl).trans ?_
                        refine (am_cal3 (z := 32) (k := 2) (c := true) rfl rfl rfl rfl rfl rfl rfl rfl).trans ((am_g_t rfl).trans ?_)
                        refine am_bind_congr fun r230 => ?_
                        show am_Ex d 123 127 [(2, x0), (2, x1), am_N, (0, x3), (0, v224), (0, x5), (0, x6), (0, x7), (0, 0), (0, 0), (0, 1), (0, v222), (0, 0)] [(0, r230.1), (0, v224), (2, am_rd M x0 3)] r230.2 = _
                        refine (am_e1 rfl rfl).trans ?_
                        refine (am_ias rfl).trans (am_g_congr fun h231 => ?_)
                        refine am_letm (fun M232 => ?_)
                        exact (am_e5 rfl).trans rfl
                    · refine (am_e0 rfl rfl).trans ?_
                      refine (am_gf (c := 4) (t := 2) rfl rfl rfl).trans ((am_g_t h220).trans ?_)
                      refine (am_e0 rfl rfl).trans ?_
                      refine (am_e0 rfl rfl).trans ?_
                      refine (am_z_lt rfl).trans (am_if_congr (fun c233 => ?_) (fun c233 => ?_))
                      · refine (am_e0 rfl rfl).trans ?_
                        refine (am_gf (c := 4) (t := 2) rfl rfl rfl).trans ((am_g_t h220).trans ?_)
                        refine (am_e0 rfl rfl).trans ?_
                        refine (am_e0 rfl rfl).trans ?_
                        refine (am_e0 rfl rfl).trans ?_
                        refine (am_ial rfl).trans (am_g_congr fun h234 => ?_)
                        refine (am_ias rfl).trans (am_g_congr fun h235 => ?_)
                        refine am_letm (fun M236 => ?_)
                        refine (am_e1 rfl rfl).trans ?_
                        exact (am_e5 rfl).trans rfl
                      · refine (am_e0 rfl rfl).trans ?_
                        refine (am_e1 rfl rfl).trans ?_
                        refine (am_ias rfl).trans (am_g_congr fun h237 => ?_)
                        refine am_letm (fun M238 => ?_)
                        refine (am_e1 rfl rfl).trans ?_
                        exact (am_e5 rfl).trans rfl
                  · refine (am_e0 rfl rfl).trans ?_
                    refine (am_gf (c := 4) (t := 2) rfl rfl rfl).trans ((am_g_t h220).trans ?_)
                    refine (am_e0 rfl rfl).trans ?_
                    refine (am_e0 rfl rfl).trans ?_
                    refine (am_e0 rfl rfl).trans ?_
                    refine (am_ial rfl).trans (am_g_congr fun h239 => ?_)
                    refine (am_e1 rfl rfl).trans ?_
                    refine (am_e0 rfl rfl).trans ?_
                    refine am_lets (L := fun v240 => [(2, x0), (2, x1), am_N, (0, x3), (0, x4), (0, x5), (0, x6), (0, x7), (0, 0), (0, 0), (0, 1), (0, v222), (0, v240)]) (fun v240 => ?_)
                    refine (am_e0 rfl rfl).trans ?_
                    refine (am_e0 rfl rfl).trans ?_
                    refine (am_e0 rfl rfl).trans ?_
                    refine (am_e0 rfl rfl).trans ?_
                    refine am_lets (L := fun v241 => [(2, x0), (2, x1), am_N, (0, x3), (0, v241), (0, x5), (0, x6), (0, x7), (0, 0), (0, 0), (0, 1), (0, v222), (0, v240)]) (fun v241 => ?_)
                    refine (am_e0 rfl rfl).trans ?_
                    refine (am_z_eq rfl).trans (am_if_congr (fun c242 => ?_) (fun c242 => ?_))
                    · refine (am_e0 rfl rfl).trans ?_
                      refine (am_gf (c := 4) (t := 2) rfl rfl rfl).trans ((am_g_t h220).trans ?_)
                      refine (am_e0 rfl rfl).trans ?_
                      refine (am_e0 rfl rfl).trans ?_
                      refine (am_z_eq rfl).trans (am_if_congr (fun c243 => ?_) (fun c243 => ?_))
                      · refine (am_e0 rfl rfl).trans ?_
                        refine (am_e0 rfl rfl).trans ?_
                        refine (am_e0 rfl rfl).trans ?_
                        refine (am_cal3 (z := 33) (k := 3) (c := true) rfl rfl rfl rfl rfl rfl rfl rfl).trans ((am_g_t rfl).trans ?_)
                        refine am_bind_congr fun r244 => ?_
                        show am_Ex d 123 132 [(2, x0), (2, x1), am_N, (0, x3), (0, v241), (0, x5), (0, x6), (0, x7), (0, 0), (0, 0), (0, 1), (0, v222), (0, v240)] [(0, r244.1), (0, v241), (2, am_rd M x0 3)] r244.2 = _
                        refine (am_ias rfl).trans (am_g_congr fun h245 => ?_)
                        refine am_letm (fun M246 => ?_)
                        exact (am_e5 rfl).trans rfl
                      · refine (am_e0 rfl rfl).trans ?_
                        refine (am_e0 rfl rfl).trans ?_
                        refine (am_cal3 (z := 32) (k := 2) (c := true) rfl rfl rfl rfl rfl rfl rfl rfl).trans ((am_g_t rfl).trans ?_)
                        refine am_bind_congr fun r247 => ?_
                        show am_Ex d 123 127 [(2, x0), (2, x1), am_N, (0, x3), (0, v241), (0, x5), (0, x6), (0, x7), (0, 0), (0, 0), (0, 1), (0, v222), (0, v240)] [(0, r247.1), (0, v241), (2, am_rd M x0 3)] r247.2 = _
                        refine (am_e1 rfl rfl).trans ?_
                        refine (am_ias rfl).trans (am_g_congr fun h248 => ?_)
                        refine am_letm (fun M249 => ?_)
                        exact (am_e5 rfl).trans rfl
                    · refine (am_e0 rfl rfl).trans ?_
                      refine (am_gf (c := 4) (t := 2) rfl rfl rfl).trans ((am_g_t h220).trans ?_)
                      refine (am_e0 rfl rfl).trans ?_
                      refine (am_e0 rfl rfl).trans ?_
                      refine (am_z_lt rfl).trans (am_if_congr (fun c250 => ?_) (fun c250 => ?_))
                      · refine (am_e0 rfl rfl).trans ?_
                        refine (am_gf (c := 4) (t := 2) rfl rfl rfl).trans ((am_g_t h220).trans ?_)
                        refine (am_e0 rfl rfl).trans ?_
                        refine (am_e0 rfl rfl).trans ?_
                        refine (am_e0 rfl rfl).trans ?_
                        refine (am_ial rfl).trans (am_g_congr fun h251 => ?_)
                        refine (am_ias rfl).trans (am_g_congr fun h252 => ?_)
                        refine am_letm (fun M253 => ?_)
                        refine (am_e1 rfl rfl).trans ?_
                        exact (am_e5 rfl).trans rfl
                      · refine (am_e0 rfl rfl).trans ?_
                        refine (am_e1 rfl rfl).trans ?_
                        refine (am_ias rfl).trans (am_g_congr fun h254 => ?_)
                        refine am_letm (fun M255 => ?_)
                        refine (am_e1 rfl rfl).trans ?_
                        exact (am_e5 rfl).trans rfl
              · refine (am_e5 rfl).trans ?_
                show am_Ex d 123 73 [am_N, am_N, am_N, am_N, am_N, am_N, am_N, am_N, am_N, am_N, am_N, am_N, am_N] [] M = _
                refine (am_e0 rfl rfl).trans ?_
                exact (am_e4i rfl rfl).trans rfl
        · refine (am_e0 rfl rfl).trans ?_
          refine (am_e1 rfl rfl).trans ?_
          refine (am_e0 rfl rfl).trans ?_
          refine (am_e0 rfl rfl).trans ?_
          refine (am_e0 rfl rfl).trans ?_
          refine (am_i_lt rfl).trans (am_if_congr (fun c256 => ?_) (fun c256 => ?_))
          · refine (am_e5 rfl).trans ?_
            show am_Ex d 123 73 [am_N, am_N, am_N, am_N, am_N, am_N, am_N, am_N, am_N, am_N, am_N, am_N, am_N] [] M = _
            refine (am_e0 rfl rfl).trans ?_
            exact (am_e4i rfl rfl).trans rfl
          · refine (am_e0 rfl rfl).trans ?_
            refine (am_e0 rfl rfl).trans ?_
            refine (am_e0 rfl rfl).trans ?_
            refine (am_e0 rfl rfl).trans ?_
            refine (am_i_lt rfl).trans (am_if_congr (fun c257 => ?_) (fun c257 => ?_))
            · refine (am_e0 rfl rfl).trans ?_
              refine (am_z_le rfl).trans (am_if_congr (fun c258 => ?_) (fun c258 => ?_))
              · refine (am_e0 rfl rfl).trans ?_
                refine (am_e0 rfl rfl).trans ?_
                refine (am_e0 rfl rfl).trans ?_
                refine (am_e0 rfl rfl).trans ?_
                refine (am_i_le rfl).trans (am_if_congr (fun c259 => ?_) (fun c259 => ?_))
                · refine (am_e0 rfl rfl).trans ?_
                  refine (am_e0 rfl rfl).trans ?_
                  refine (am_e0 rfl rfl).trans ?_
                  refine (am_e0 rfl rfl).trans ?_
                  refine (am_e0 rfl rfl).trans ?_
                  refine (am_e0 rfl rfl).trans ?_
                  refine am_lets (L := fun v260 => [(2, x0), (2, x1), am_N, (0, x3), (0, v260), (0, x5), (0, x6), (0, x7), (0, 0), (0, 0), (0, 0), (0, 0), (0, 0)]) (fun v260 => ?_)
                  refine (am_e0 rfl rfl).trans ?_
                  refine (am_z_eq rfl).trans (am_if_congr (fun c261 => ?_) (fun c261 => ?_))
                  · refine (am_e0 rfl rfl).trans ?_
                    refine (am_gf (c := 4) (t := 2) rfl rfl rfl).trans (am_g_congr fun h262 => ?_)
                    refine (am_e0 rfl rfl).trans ?_
                    refine (am_e0 rfl rfl).trans ?_
                    refine (am_z_eq rfl).trans (am_if_congr (fun c263 => ?_) (fun c263 => ?_))
                    · refine (am_e0 rfl rfl).trans ?_
                      refine (am_e0 rfl rfl).trans ?_
                      refine (am_e0 rfl rfl).trans ?_
                      refine (am_cal3 (z := 33) (k := 3) (c := true) rfl rfl rfl rfl rfl rfl rfl rfl).trans ((am_g_t rfl).trans ?_)
                      refine am_bind_congr fun r264 => ?_
                      show am_Ex d 123 132 [(2, x0), (2, x1), am_N, (0, x3), (0, v260), (0, x5), (0, x6), (0, x7), (0, 0), (0, 0), (0, 0), (0, 0), (0, 0)] [(0, r264.1), (0, v260), (2, am_rd M x0 3)] r264.2 = _
                      refine (am_ias rfl).trans (am_g_congr fun h265 => ?_)
                      refine am_letm (fun M266 => ?_)
                      exact (am_e5 rfl).trans rfl
                    · refine (am_e0 rfl rfl).trans ?_
                      refine (am_e0 rfl rfl).trans ?_
                      refine (am_cal3 (z := 32) (k := 2) (c := true) rfl rfl rfl rfl rfl rfl rfl rfl).trans ((am_g_t rfl).trans ?_)
                      refine am_bind_congr fun r267 => ?_
                      show am_Ex d 123 127 [(2, x0), (2, x1), am_N, (0, x3), (0, v260), (0, x5), (0, x6), (0, x7), (0, 0), (0, 0), (0, 0), (0, 0), (0, 0)] [(0, r267.1), (0, v260), (2, am_rd M x0 3)] r267.2 = _
                      refine (am_e1 rfl rfl).trans ?_
                      refine (am_ias rfl).trans (am_g_congr fun h268 => ?_)
                      refine am_letm (fun M269 => ?_)
                      exact (am_e5 rfl).trans rfl
                  · refine (am_e0 rfl rfl).trans ?_
                    refine (am_gf (c := 4) (t := 2) rfl rfl rfl).trans (am_g_congr fun h270 => ?_)
                    refine (am_e0 rfl rfl).trans ?_
                    refine (am_e0 rfl rfl).trans ?_
                    refine (am_z_lt rfl).trans (am_if_congr (fun c271 => ?_) (fun c271 => ?_))
                    · refine (am_e0 rfl rfl).trans ?_
                      refine (am_gf (c := 4) (t := 2) rfl rfl rfl).trans ((am_g_t h270).trans ?_)
                      refine (am_e0 rfl rfl).trans ?_
                      refine (am_e0 rfl rfl).trans ?_
                      refine (am_e0 rfl rfl).trans ?_
                      refine (am_ial rfl).trans (am_g_congr fun h272 => ?_)
                      refine (am_ias rfl).trans (am_g_congr fun h273 => ?_)
                      refine am_letm (fun M274 => ?_)
                      refine (am_e1 rfl rfl).trans ?_
                      exact (am_e5 rfl).trans rfl
                    · refine (am_e0 rfl rfl).trans ?_
                      refine (am_e1 rfl rfl).trans ?_
                      refine (am_ias rfl).trans (am_g_congr fun h275 => ?_)
                      refine am_letm (fun M276 => ?_)
                      refine (am_e1 rfl rfl).trans ?_
                      exact (am_e5 rfl).trans rfl
                · refine (am_e0 rfl rfl).trans ?_
                  refine (am_gf (c := 4) (t := 2) rfl rfl rfl).trans (am_g_congr fun h277 => ?_)
                  refine (am_e0 rfl rfl).trans ?_
                  refine (am_e0 rfl rfl).trans ?_
                  refine (am_e0 rfl rfl).trans ?_
                  refine (am_ial rfl).trans (am_g_congr fun h278 => ?_)
                  refine (am_e1 rfl rfl).trans ?_
                  refine (am_e0 rfl rfl).trans ?_
                  refine am_lets (L := fun v279 => [(2, x0), (2, x1), am_N, (0, x3), (0, x4), (0, x5), (0, x6), (0, x7), (0, 0), (0, 0), (0, 0), (0, 0), (0, v279)]) (fun v279 => ?_)
                  refine (am_e0 rfl rfl).trans ?_
                  refine (am_e0 rfl rfl).trans ?_
                  refine (am_e0 rfl rfl).trans ?_
                  refine (am_e0 rfl rfl).trans ?_
                  refine am_lets (L := fun v280 => [(2, x0), (2, x1), am_N, (0, x3), (0, v280), (0, x5), (0, x6), (0, x7), (0, 0), (0, 0), (0, 0), (0, 0), (0, v279)]) (fun v280 => ?_)
                  refine (am_e0 rfl rfl).trans ?_
                  refine (am_z_eq rfl).trans (am_if_congr (fun c281 => ?_) (fun c281 => ?_))
                  · refine (am_e0 rfl rfl).trans ?_
                    refine (am_gf (c := 4) (t := 2) rfl rfl rfl).trans ((am_g_t h277).trans ?_)
                    refine (am_e0 rfl rfl).trans ?_
                    refine (am_e0 rfl rfl).trans ?_
                    refine (am_z_eq rfl).trans (am_if_congr (fun c282 => ?_) (fun c282 => ?_))
                    · refine (am_e0 rfl rfl).trans ?_
                      refine (am_e0 rfl rfl).trans ?_
                      refine (am_e0 rfl rfl).trans ?_
                      refine (am_cal3 (z := 33) (k := 3) (c := true) rfl rfl rfl rfl rfl rfl rfl rfl).trans ((am_g_t rfl).trans ?_)
                      refine am_bind_congr fun r283 => ?_
                      show am_Ex d 123 132 [(2, x0), (2, x1), am_N, (0, x3), (0, v280), (0, x5), (0, x6), (0, x7), (0, 0), (0, 0), (0, 0), (0, 0), (0, v279)] [(0, r283.1), (0, v280), (2, am_rd M x0 3)] r283.2 = _
                      refine (am_ias rfl).trans (am_g_congr fun h284 => ?_)
                      refine am_letm (fun M285 => ?_)
                      exact (am_e5 rfl).trans rfl
                    · refine (am_e0 rfl rfl).trans ?_
                      refine (am_e0 rfl rfl).trans ?_
                      refine (am_cal3 (z := 32) (k := 2) (c := true) rfl rfl rfl rfl rfl rfl rfl rfl).trans ((am_g_t rfl).trans ?_)
                      refine am_bind_congr fun r286 => ?_
                      show am_Ex d 123 127 [(2, x0), (2, x1), am_N, (0, x3), (0, v280), (0, x5), (0, x6), (0, x7), (0, 0), (0, 0), (0, 0), (0, 0), (0, v279)] [(0, r286.1), (0, v280), (2, am_rd M x0 3)] r286.2 = _
                      refine (am_e1 rfl rfl).trans ?_
                      refine (am_ias rfl).trans (am_g_congr fun h287 => ?_)
                      refine am_letm (fun M288 => ?_)
                      exact (am_e5 rfl).trans rfl
                  · refine (am_e0 rfl rfl).trans ?_
                    refine (am_gf (c := 4) (t := 2) rfl rfl rfl).trans ((am_g_t h277).trans ?_)
                    refine (am_e0 rfl rfl).trans ?_
                    refine (am_e0 rfl rfl).trans ?_
                    refine (am_z_lt rfl).trans (am_if_congr (fun c289 => ?_) (fun c289 => ?_))
                    · refine (am_e0 rfl rfl).trans ?_
                      refine (am_gf (c := 4) (t := 2) rfl rfl rfl).trans ((am_g_t h277).trans ?_)
                      refine (am_e0 rfl rfl).trans ?_
                      refine (am_e0 rfl rfl).trans ?_
                      refine (am_e0 rfl rfl).trans ?_
                      refine (am_ial rfl).trans (am_g_congr fun h290 => ?_)
                      refine (am_ias rfl).trans (am_g_congr fun h291 => ?_)
                      refine am_letm (fun M292 => ?_)
                      refine (am_e1 rfl rfl).trans ?_
                      exact (am_e5 rfl).trans rfl
                    · refine (am_e0 rfl rfl).trans ?_
                      refine (am_e1 rfl rfl).trans ?_
                      refine (am_ias rfl).trans (am_g_congr fun h293 => ?_)
                      refine am_letm (fun M294 => ?_)
                      refine (am_e1 rfl rfl).trans ?_
                      exact (am_e5 rfl).trans rfl
              · refine (am_e0 rfl rfl).trans ?_
                refine (am_gf (c := 4) (t := 2) rfl rfl rfl).trans (am_g_congr fun h295 => ?_)
                refine (am_e0 rfl rfl).trans ?_
                refine (am_e0 rfl rfl).trans ?_
                refine (am_e0 rfl rfl).trans ?_
                refine (am_ial rfl).trans (am_g_congr fun h296 => ?_)
                refine (am_e1 rfl rfl).trans ?_
                refine (am_e0 rfl rfl).trans ?_
                refine am_lets (L := fun v297 => [(2, x0), (2, x1), am_N, (0, x3), (0, x4), (0, x5), (0, x6), (0, x7), (0, 0), (0, 0), (0, 0), (0, v297), am_N]) (fun v297 => ?_)
                refine (am_e0 rfl rfl).trans ?_
                refine (am_e0 rfl rfl).trans ?_
                refine (am_i_le rfl).trans (am_if_congr (fun c298 => ?_) (fun c298 => ?_))
                · refine (am_e0 rfl rfl).trans ?_
                  refine (am_e0 rfl rfl).trans ?_
                  refine (am_e0 rfl rfl).trans ?_
                  refine (am_e0 rfl rfl).trans ?_
                  refine (am_e0 rfl rfl).trans ?_
                  refine (am_e0 rfl rfl).trans ?_
                  refine am_lets (L := fun v299 => [(2, x0), (2, x1), am_N, (0, x3), (0, v299), (0, x5), (0, x6), (0, x7), (0, 0), (0, 0), (0, 0), (0, v297), (0, 0)]) (fun v299 => ?_)
                  refine (am_e0 rfl rfl).trans ?_
                  refine (am_z_eq rfl).trans (am_if_congr (fun c300 => ?_) (fun c300 => ?_))
                  · refine (am_e0 rfl rfl).trans ?_
                    refine (am_gf (c := 4) (t := 2) rfl rfl rfl).trans ((am_g_t h295).trans ?_)
                    refine (am_e0 rfl rfl).trans ?_
                    refine (am_e0 rfl rfl).trans ?_
                    refine (am_z_eq rfl).trans (am_if_congr (fun c301 => ?_) (fun c301 => ?_))
                    · refine (am_e0 rfl rfl).trans ?_
                      refine (am_e0 rfl rfl).trans ?_
                      refine (am_e0 rfl rfl).trans ?_
                      refine (am_cal3 (z := 33) (k := 3) (c := true) rfl rfl rfl rfl rfl rfl rfl rfl).trans ((am_g_t rfl).trans ?_)
                      refine am_bind_congr fun r302 => ?_
                      show am_Ex d 123 132 [(2, x0), (2, x1), am_N, (0, x3), (0, v299), (0, x5), (0, x6), (0, x7), (0, 0), (0, 0), (0, 0), (0, v297), (0, 0)] [(0, r302.1), (0, v299), (2, am_rd M x0 3)] r302.2 = _
                      refine (am_ias rfl).trans (am_g_congr fun h303 => ?_)
                      refine am_letm (fun M304 => ?_)
                      exact (am_e5 rfl).trans rfl
                    · refine (am_e0 rfl rfl).trans ?_
                      refine (am_e0 rfl rfl).trans ?_
                      refine (am_cal3 (z := 32) (k := 2) (c := true) rfl rfl rfl rfl rfl rfl rfl rfl).trans ((am_g_t rfl).trans ?_)
                      refine am_bind_congr fun r305 => ?_
                      show am_Ex d 123 127 [(2, x0), (2, x1), am_N, (0, x3), (0, v299), (0, x5), (0, x6), (0, x7), (0, 0), (0, 0), (0, 0), (0, v297), (0, 0)] [(0, r305.1), (0, v299), (2, am_rd M x0 3)] r305.2 = _
                      refine (am_e1 rfl rfl).trans ?_
                      refine (am_ias rfl).trans (am_g_congr fun h306 => ?_)
                      refine am_letm (fun M307 => ?_)
                      exact (am_e5 rfl).trans rfl
                  · refine (am_e0 rfl rfl).trans ?_
                    refine (am_gf (c := 4) (t := 2) rfl rfl rfl).trans ((am_g_t h295).trans ?_)
                    refine (am_e0 rfl rfl).trans ?_
                    refine (am_e0 rfl rfl).trans ?_
                    refine (am_z_lt rfl).trans (am_if_congr (fun c308 => ?_) (fun c308 => ?_))
                    · refine (am_e0 rfl rfl).trans ?_
                      refine (am_gf (c := 4) (t := 2) rfl rfl rfl).trans ((am_g_t h295).trans ?_)
                      refine (am_e0 rfl rfl).trans ?_
                      refine (am_e0 rfl rfl).trans ?_
                      refine (am_e0 rfl rfl).trans ?_
                      refine (am_ial rfl).trans (am_g_congr fun h309 => ?_)
                      refine (am_ias rfl).trans (am_g_congr fun h310 => ?_)
                      refine am_letm (fun M311 => ?_)
                      refine (am_e1 rfl rfl).trans ?_
                      exact (am_e5 rfl).trans rfl
                    · refine (am_e0 rfl rfl).trans ?_
                      refine (am_e1 rfl rfl).trans ?_
                      refine (am_ias rfl).trans (am_g_congr fun h312 => ?_)
                      refine am_letm (fun M313 => ?_)
                      refine (am_e1 rfl rfl).trans ?_
                      exact (am_e5 rfl).trans rfl
                · refine (am_e0 rfl rfl).trans ?_
                  refine (am_gf (c := 4) (t := 2) rfl rfl rfl).trans ((am_g_t h295).trans ?_)
                  refine (am_e0 rfl rfl).trans ?_
                  refine (am_e0 rfl rfl).trans ?_
                  refine (am_e0 rfl rfl).trans ?_
                  refine (am_ial rfl).trans (am_g_congr fun h314 => ?_)
                  refine (am_e1 rfl rfl).trans ?_
                  refine (am_e0 rfl rfl).trans ?_
                  refine am_lets (L := fun v315 => [(2, x0), (2, x1), am_N, (0, x3), (0, x4), (0, x5), (0, x6), (0, x7), (0, 0), (0, 0), (0, 0), (0, v297), (0, v315)]) (fun v315 => ?_)
                  refine (am_e0 rfl rfl).trans ?_
                  refine (am_e0 rfl rfl).trans ?_
                  refine (am_e0 rfl rfl).trans ?_
                  refine (am_e0 rfl rfl).trans ?_
                  refine am_lets (L := fun v316 => [(2, x0), (2, x1), am_N, (0, x3), (0, v316), (0, x5), (0, x6), (0, x7), (0, 0), (0, 0), (0, 0), (0, v297), (0, v315)]) (fun v316 => ?_)
                  refine (am_e0 rfl rfl).trans ?_
                  refine (am_z_eq rfl).trans (am_if_congr (fun c317 => ?_) (fun c317 => ?_))
                  · refine (am_e0 rfl rfl).trans ?_
                    refine (am_gf (c := 4) (t := 2) rfl rfl rfl).trans ((am_g_t h295).trans ?_)
                    refine (am_e0 rfl rfl).trans ?_
                    refine (am_e0 rfl rfl).trans ?_
                    refine (am_z_eq rfl).trans (am_if_congr (fun c318 => ?_) (fun c318 => ?_))
                    · refine (am_e0 rfl rfl).trans ?_
                      refine (am_e0 rfl rfl).trans ?_
                      refine (am_e0 rfl rfl).trans ?_
                      refine (am_cal3 (z := 33) (k := 3) (c := true) rfl rfl rfl rfl rfl rfl rfl rfl).trans ((am_g_t rfl).trans ?_)
                      refine am_bind_congr fun r319 => ?_
                      show am_Ex d 123 132 [(2, x0), (2, x1), am_N, (0, x3), (0, v316), (0, x5), (0, x6), (0, x7), (0, 0), (0, 0), (0, 0), (0, v297), (0, v315)] [(0, r319.1), (0, v316), (2, am_rd M x0 3)] r319.2 = _
                      refine (am_ias rfl).trans (am_g_congr fun h320 => ?_)
                      refine am_letm (fun M321 => ?_)
                      exact (am_e5 rfl).trans rfl
                    · refine (am_e0 rfl rfl).trans ?_
                      refine (am_e0 rfl rfl).trans ?_
                      refine (am_cal3 (z := 32) (k := 2) (c := true) rfl rfl rfl rfl rfl rfl rfl rfl).trans ((am_g_t rfl).trans ?_)
                      refine am_bind_congr fun r322 => ?_
                      show am_Ex d 123 127 [(2, x0), (2, x1), am_N, (0, x3), (0, v316), (0, x5), (0, x6), (0, x7), (0, 0), (0, 0), (0, 0), (0, v297), (0, v315)] [(0, r322.1), (0, v316), (2, am_rd M x0 3)] r322.2 = _
                      refine (am_e1 rfl rfl).trans ?_
                      refine (am_ias rfl).trans (am_g_congr fun h323 => ?_)
                      refine am_letm (fun M324 => ?_)
                      exact (am_e5 rfl).trans rfl
                  · refine (am_e0 rfl rfl).trans ?_
                    refine (am_gf (c := 4) (t := 2) rfl rfl rfl).trans ((am_g_t h295).trans ?_)
                    refine (am_e0 rfl rfl).trans ?_
                    refine (am_e0 rfl rfl).trans ?_
                    refine (am_z_lt rfl).trans (am_if_congr (fun c325 => ?_) (fun c325 => ?_))
                    · refine (am_e0 rfl rfl).trans ?_
                      refine (am_gf (c := 4) (t := 2) rfl rfl rfl).trans ((am_g_t h295).trans ?_)
                      refine (am_e0 rfl rfl).trans ?_
                      refine (am_e0 rfl rfl).trans ?_
                      refine (am_e0 rfl rfl).trans ?_
                      refine (am_ial rfl).trans (am_g_congr fun h326 => ?_)
                      refine (am_ias rfl).trans (am_g_congr fun h327 => ?_)
                      refine am_letm (fun M328 => ?_)
                      refine (am_e1 rfl rfl).trans ?_
                      exact (am_e5 rfl).trans rfl
                    · refine (am_e0 rfl rfl).trans ?_
                      refine (am_e1 rfl rfl).trans ?_
                      refine (am_ias rfl).trans (am_g_congr fun h329 => ?_)
                      refine am_letm (fun M330 => ?_)
                      refine (am_e1 rfl rfl).trans ?_
                      exact (am_e5 rfl).trans rfl
            · refine (am_e5 rfl).trans ?_
              show am_Ex d 123 73 [am_N, am_N, am_N, am_N, am_N, am_N, am_N, am_N, am_N, am_N, am_N, am_N, am_N] [] M = _
              refine (am_e0 rfl rfl).trans ?_
              exact (am_e4i rfl rfl).trans rfl
set_option maxRecDepth 10000 in
theorem aq_123_50 (d : Nat) (x0 x1 x3 x4 x5 x6 x7 x8 : Int) (M : am_M) : am_Ex d 123 50 [(2, x0), (2, x1), am_N, (0, x3), (0, x4), (0, x5), (0, x6), (0, x7), (0, x8), am_N, am_N, am_N, am_N] [] M = (if x8 = 0 then (if (1 : Int) = 0 then (if x4 < 2 then (some (0, M)) else (if am_w32 (x4 - 2) < 64 then (if (2 : Int) ≤ 0 then (if (2 : Int) ≤ 1 then (am_let (am_w32 (x4 - 2)) fun v107 => if x8 = 0 then (am_g (am_ob x0 4) <| if (1 : Int) = 0 then ((am_Call d 33 [(0, x7), (0, 0), (0, 0)] M).bind fun r111 => am_g (am_ar (am_rd M x0 3) 20 v107) <| am_let (am_wr r111.2 (am_rd M x0 3) v107 r111.1) fun M113 => am_Ex d 123 134 [(2, x0), (2, x1), am_N, (0, x3), (0, v107), (0, x5), am_N, am_N, am_N, am_N, am_N, am_N, am_N] [] M113) else ((am_Call d 32 [(0, x7), (0, 0)] M).bind fun r114 => am_g (am_ar (am_rd M x0 3) 20 v107) <| am_let (am_wr r114.2 (am_rd M x0 3) v107 r114.1) fun M116 => am_Ex d 123 134 [(2, x0), (2, x1), am_N, (0, x3), (0, v107), (0, x5), am_N, am_N, am_N, am_N, am_N, am_N, am_N] [] M116)) else (am_g (am_ob x0 4) <| if x6 < 0 then (am_g (am_ar (am_rd M x0 2) 20 (am_w32 (x7 - 12))) <| am_g (am_ar (am_rd M x0 3) 20 v107) <| am_let (am_wr M (am_rd M x0 3) v107 (am_rd M (am_rd M x0 2) (am_w32 (x7 - 12)))) fun M121 => am_Ex d 123 134 [(2, x0), (2, x1), am_N, (0, x3), (0, v107), (0, x5), am_N, am_N, am_N, am_N, am_N, am_N, am_N] [] M121) else (am_g (am_ar (am_rd M x0 3) 20 v107) <| am_let (am_wr M (am_rd M x0 3) v107 x6) fun M123 => am_Ex d 123 134 [(2, x0), (2, x1), am_N, (0, x3), (0, v107), (0, x5), am_N, am_N, am_N, am_N, am_N, am_N, am_N] [] M123))) else (am_g (am_ob x0 4) <| am_g (am_ar (am_rd M x0 3) 20 (am_w32 (x4 - 2))) <| am_let (am_rd M (am_rd M x0 3) (am_w32 (x4 - 2))) fun v126 => am_let (am_w32 (x4 - 2)) fun v127 => if x8 = 0 then (if (1 : Int) = 0 then ((am_Call d 33 [(0, x7), (0, v126), (0, 0)] M).bind fun r130 => am_g (am_ar (am_rd M x0 3) 20 v127) <| am_let (am_wr r130.2 (am_rd M x0 3) v127 r130.1) fun M132 => am_Ex d 123 134 [(2, x0), (2, x1), am_N, (0, x3), (0, v127), (0, x5), am_N, am_N, am_N, am_N, am_N, am_N, am_N] [] M132) else ((am_Call d 32 [(0, x7), (0, 0)] M).bind fun r133 => am_g (am_ar (am_rd M x0 3) 20 v127) <| am_let (am_wr r133.2 (am_rd M x0 3) v127 r133.1) fun M135 => am_Ex d 123 134 [(2, x0), (2, x1), am_N, (0, x3), (0, v127), (0, x5), am_N, am_N, am_N, am_N, am_N, am_N, am_N] [] M135)) else (if x6 < 0 then (am_g (am_ar (am_rd M x0 2) 20 (am_w32 (x7 - 12))) <| am_g (am_ar (am_rd M x0 3) 20 v127) <| am_let (am_wr M (am_rd M x0 3) v127 (am_rd M (am_rd M x0 2) (am_w32 (x7 - 12)))) fun M139 => am_Ex d 123 134 [(2, x0), (2, x1), am_N, (0, x3), (0, v127), (0, x5), am_N, am_N, am_N, am_N, am_N, am_N, am_N] [] M139) else (am_g (am_ar (am_rd M x0 3) 20 v127) <| am_let (am_wr M (am_rd M x0 3) v127 x6) fun M141 => am_Ex d 123 134 [(2, x0), (2, x1), am_N, (0, x3), (0, v127), (0, x5), am_N, am_N, am_N, am_N, am_N, am_N, am_N] [] M141)))) else (am_g (am_ob x0 4) <| am_g (am_ar (am_rd M x0 3) 20 (am_w32 (x4 - 1))) <| am_let (am_rd M (am_rd M x0 3) (am_w32 (x4 - 1))) fun v144 => if (2 : Int) ≤ 1 then (am_let (am_w32 (x4 - 2)) fun v146 => if x8 = 0 then (if (1 : Int) = 0 then ((am_Call d 33 [(0, x7), (0, 0), (0, v144)] M).bind fun r149 => am_g (am_ar (am_rd M x0 3) 20 v146) <| am_let (am_wr r149.2 (am_rd M x0 3) v146 r149.1) fun M151 => am_Ex d 123 134 [(2, x0), (2, x1), am_N, (0, x3), (0, v146), (0, x5), am_N, am_N, am_N, am_N, am_N, am_N, am_N] [] M151) else ((am_Call d 32 [(0, x7), (0, v144)] M).bind fun r152 => am_g (am_ar (am_rd M x0 3) 20 v146) <| am_let (am_wr r152.2 (am_rd M x0 3) v146 r152.1) fun M154 => am_Ex d 123 134 [(2, x0), (2, x1), am_N, (0, x3), (0, v146), (0, x5), am_N, am_N, am_N, am_N, am_N, am_N, am_N] [] M154)) else (if x6 < 0 then (am_g (am_ar (am_rd M x0 2) 20 (am_w32 (x7 - 12))) <| am_g (am_ar (am_rd M x0 3) 20 v146) <| am_let (am_wr M (am_rd M x0 3) v146 (am_rd M (am_rd M x0 2) (am_w32 (x7 - 12)))) fun M158 => am_Ex d 123 134 [(2, x0), (2, x1), am_N, (0, x3), (0, v146), (0, x5), am_N, am_N, am_N, am_N, am_N, am_N, am_N] [] M158) else (am_g (am_ar (am_rd M x0 3) 20 v146) <| am_let (am_wr M (am_rd M x0 3) v146 x6) fun M160 => am_Ex d 123 134 [(2, x0), (2, x1), am_N, (0, x3), (0, v146), (0, x5), am_N, am_N, am_N, am_N, am_N, am_N, am_N] [] M160))) else (am_g (am_ar (am_rd M x0 3) 20 (am_w32 (x4 - 2))) <| am_let (am_rd M (am_rd M x0 3) (am_w32 (x4 - 2))) fun v162 => am_let (am_w32 (x4 - 2)) fun v163 => if x8 = 0 then (if (1 : Int) = 0 then ((am_Call d 33 [(0, x7), (0, v162), (0, v144)] M).bind fun r166 => am_g (am_ar (am_rd M x0 3) 20 v163) <| am_let (am_wr r166.2 (am_rd M x0 3) v163 r166.1) fun M168 => am_Ex d 123 134 [(2, x0), (2, x1), am_N, (0, x3), (0, v163), (0, x5), am_N, am_N, am_N, am_N, am_N, am_N, am_N] [] M168) else ((am_Call d 32 [(0, x7), (0, v144)] M).bind fun r169 => am_g (am_ar (am_rd M x0 3) 20 v163) <| am_let (am_wr r169.2 (am_rd M x0 3) v163 r169.1) fun M171 => am_Ex d 123 134 [(2, x0), (2, x1), am_N, (0, x3), (0, v163), (0, x5), am_N, am_N, am_N, am_N, am_N, am_N, am_N] [] M171)) else (if x6 < 0 then (am_g (am_ar (am_rd M x0 2) 20 (am_w32 (x7 - 12))) <| am_g (am_ar (am_rd M x0 3) 20 v163) <| am_let (am_wr M (am_rd M x0 3) v163 (am_rd M (am_rd M x0 2) (am_w32 (x7 - 12)))) fun M175 => am_Ex d 123 134 [(2, x0), (2, x1), am_N, (0, x3), (0, v163), (0, x5), am_N, am_N, am_N, am_N, am_N, am_N, am_N] [] M175) else (am_g (am_ar (am_rd M x0 3) 20 v163) <| am_let (am_wr M (am_rd M x0 3) v163 x6) fun M177 => am_Ex d 123 134 [(2, x0), (2, x1), am_N, (0, x3), (0, v163), (0, x5), am_N, am_N, am_N, am_N, am_N, am_N, am_N] [] M177))))) else (some (0, M)))) else (if x4 < 1 then (some (0, M)) else (if am_w32 (x4 - 1) < 64 then (if (1 : Int) ≤ 0 then (if (1 : Int) ≤ 1 then (am_let (am_w32 (x4 - 1)) fun v182 => if x8 = 0 then (am_g (am_ob x0 4) <| if (1 : Int) = 0 then ((am_Call d 33 [(0, x7), (0, 0), (0, 0)] M).bind fun r186 => am_g (am_ar (am_rd M x0 3) 20 v182) <| am_let (am_wr r186.2 (am_rd M x0 3) v182 r186.1) fun M188 => am_Ex d 123 134 [(2, x0), (2, x1), am_N, (0, x3), (0, v182), (0, x5), am_N, am_N, am_N, am_N, am_N, am_N, am_N] [] M188) else ((am_Call d 32 [(0, x7), (0, 0)] M).bind fun r189 => am_g (am_ar (am_rd M x0 3) 20 v182) <| am_let (am_wr r189.2 (am_rd M x0 3) v182 r189.1) fun M191 => am_Ex d 123 134 [(2, x0), (2, x1), am_N, (0, x3), (0, v182), (0, x5), am_N, am_N, am_N, am_N, am_N, am_N, am_N] [] M191)) else (am_g (am_ob x0 4) <| if x6 < 0 then (am_g (am_ar (am_rd M x0 2) 20 (am_w32 (x7 - 12))) <| am_g (am_ar (am_rd M x0 3) 20 v182) <| am_let (am_wr M (am_rd M x0 3) v182 (am_rd M (am_rd M x0 2) (am_w32 (x7 - 12)))) fun M196 => am_Ex d 123 134 [(2, x0), (2, x1), am_N, (0, x3), (0, v182), (0, x5), am_N, am_N, am_N, am_N, am_N, am_N, am_N] [] M196) else (am_g (am_ar (am_rd M x0 3) 20 v182) <| am_let (am_wr M (am_rd M x0 3) v182 x6) fun M198 => am_Ex d 123 134 [(2, x0), (2, x1), am_N, (0, x3), (0, v182), (0, x5), am_N, am_N, am_N, am_N, am_N, am_N, am_N] [] M198))) else (am_g (am_ob x0 4) <| am_g (am_ar (am_rd M x0 3) 20 (am_w32 (x4 - 2))) <| am_let (am_rd M (am_rd M x0 3) (am_w32 (x4 - 2))) fun v201 => am_let (am_w32 (x4 - 1)) fun v202 => if x8 = 0 then (if (1 : Int) = 0 then ((am_Call d 33 [(0, x7), (0, v201), (0, 0)] M).bind fun r205 => am_g (am_ar (am_rd M x0 3) 20 v202) <| am_let (am_wr r205.2 (am_rd M x0 3) v202 r205.1) fun M207 => am_Ex d 123 134 [(2, x0), (2, x1), am_N, (0, x3), (0, v202), (0, x5), am_N, am_N, am_N, am_N, am_N, am_N, am_N] [] M207) else ((am_Call d 32 [(0, x7), (0, 0)] M).bind fun r208 => am_g (am_ar (am_rd M x0 3) 20 v202) <| am_let (am_wr r208.2 (am_rd M x0 3) v202 r208.1) fun M210 => am_Ex d 123 134 [(2, x0), (2, x1), am_N, (0, x3), (0, v202), (0, x5), am_N, am_N, am_N, am_N, am_N, am_N, am_N] [] M210)) else (if x6 < 0 then (am_g (am_ar (am_rd M x0 2) 20 (am_w32 (x7 - 12))) <| am_g (am_ar (am_rd M x0 3) 20 v202) <| am_let (am_wr M (am_rd M x0 3) v202 (am_rd M (am_rd M x0 2) (am_w32 (x7 - 12)))) fun M214 => am_Ex d 123 134 [(2, x0), (2, x1), am_N, (0, x3), (0, v202), (0, x5), am_N, am_N, am_N, am_N, am_N, am_N, am_N] [] M214) else (am_g (am_ar (am_rd M x0 3) 20 v202) <| am_let (am_wr M (am_rd M x0 3) v202 x6) fun M216 => am_Ex d 123 134 [(2, x0), (2, x1), am_N, (0, x3), (0, v202), (0, x5), am_N, am_N, am_N, am_N, am_N, am_N, am_N] [] M216)))) else (am_g (am_ob x0 4) <| am_g (am_ar (am_rd M x0 3) 20 (am_w32 (x4 - 1))) <| am_let (am_rd M (am_rd M x0 3) (am_w32 (x4 - 1))) fun v219 => if (1 : Int) ≤ 1 then (am_let (am_w32 (x4 - 1)) fun v221 => if x8 = 0 then (if (1 : Int) = 0 then ((am_Call d 33 [(0, x7), (0, 0), (0, v219)] M).bind fun r224 => am_g (am_ar (am_rd M x0 3) 20 v221) <| am_let (am_wr r224.2 (am_rd M x0 3) v221 r224.1) fun M226 => am_Ex d 123 134 [(2, x0), (2, x1), am_N, (0, x3), (0, v221), (0, x5), am_N, am_N, am_N, am_N, am_N, am_N, am_N] [] M226) else ((am_Call d 32 [(0, x7), (0, v219)] M).bind fun r227 => am_g (am_ar (am_rd M x0 3) 20 v221) <| am_let (am_wr r227.2 (am_rd M x0 3) v221 r227.1) fun M229 => am_Ex d 123 134 [(2, x0), (2, x1), am_N, (0, x3), (0, v221), (0, x5), am_N, am_N, am_N, am_N, am_N, am_N, am_N] [] M229)) else (if x6 < 0 then (am_g (am_ar (am_rd M x0 2) 20 (am_w32 (x7 - 12))) <| am_g (am_ar (am_rd M x0 3) 20 v221) <| am_let (am_wr M (am_rd M x0 3) v221 (am_rd M (am_rd M x0 2) (am_w32 (x7 - 12)))) fun M233 => am_Ex d 123 134 [(2, x0), (2, x1), am_N, (0, x3), (0, v221), (0, x5), am_N, am_N, am_N, am_N, am_N, am_N, am_N] [] M233) else (am_g (am_ar (am_rd M x0 3) 20 v221) <| am_let (am_wr M (am_rd M x0 3) v221 x6) fun M235 => am_Ex d 123 134 [(2, x0), (2, x1), am_N, (0, x3), (0, v221), (0, x5), am_N, am_N, am_N, am_N, am_N, am_N, am_N] [] M235))) else (am_g (am_ar (am_rd M x0 3) 20 (am_w32 (x4 - 2))) <| am_let (am_rd M (am_rd M x0 3) (am_w32 (x4 - 2))) fun v237 => am_let (am_w32 (x4 - 1)) fun v238 => if x8 = 0 then (if (1 : Int) = 0 then ((am_Call d 33 [(0, x7), (0, v237), (0, v219)] M).bind fun r241 => am_g (am_ar (am_rd M x0 3) 20 v238) <| am_let (am_wr r241.2 (am_rd M x0 3) v238 r241.1) fun M243 => am_Ex d 123 134 [(2, x0), (2, x1), am_N, (0, x3), (0, v238), (0, x5), am_N, am_N, am_N, am_N, am_N, am_N, am_N] [] M243) else ((am_Call d 32 [(0, x7), (0, v219)] M).bind fun r244 => am_g (am_ar (am_rd M x0 3) 20 v238) <| am_let (am_wr r244.2 (am_rd M x0 3) v238 r244.1) fun M246 => am_Ex d 123 134 [(2, x0), (2, x1), am_N, (0, x3), (0, v238), (0, x5), am_N, am_N, am_N, am_N, am_N, am_N, am_N] [] M246)) else (if x6 < 0 then (am_g (am_ar (am_rd M x0 2) 20 (am_w32 (x7 - 12))) <| am_g (am_ar (am_rd M x0 3) 20 v238) <| am_let (am_wr M (am_rd M x0 3) v238 (am_rd M (am_rd M x0 2) (am_w32 (x7 - 12)))) fun M250 => am_Ex d 123 134 [(2, x0), (2, x1), am_N, (0, x3), (0, v238), (0, x5), am_N, am_N, am_N, am_N, am_N, am_N, am_N] [] M250) else (am_g (am_ar (am_rd M x0 3) 20 v238) <| am_let (am_wr M (am_rd M x0 3) v238 x6) fun M252 => am_Ex d 123 134 [(2, x0), (2, x1), am_N, (0, x3), (0, v238), (0, x5), am_N, am_N, am_N, am_N, am_N, am_N, am_N] [] M252))))) else (some (0, M))))) else (if x4 < 0 then (some (0, M)) else (if am_w32 (x4 - 0) < 64 then (if (0 : Int) ≤ 0 then (if (0 : Int) ≤ 1 then (am_let (am_w32 (x4 - 0)) fun v257 => if x8 = 0 then (am_g (am_ob x0 4) <| if (1 : Int) = 0 then ((am_Call d 33 [(0, x7), (0, 0), (0, 0)] M).bind fun r261 => am_g (am_ar (am_rd M x0 3) 20 v257) <| am_let (am_wr r261.2 (am_rd M x0 3) v257 r261.1) fun M263 => am_Ex d 123 134 [(2, x0), (2, x1), am_N, (0, x3), (0, v257), (0, x5), am_N, am_N, am_N, am_N, am_N, am_N, am_N] [] M263) else ((am_Call d 32 [(0, x7), (0, 0)] M).bind fun r264 => am_g (am_ar (am_rd M x0 3) 20 v257) <| am_let (am_wr r264.2 (am_rd M x0 3) v257 r264.1) fun M266 => am_Ex d 123 134 [(2, x0), (2, x1), am_N, (0, x3), (0, v257), (0, x5), am_N, am_N, am_N, am_N, am_N, am_N, am_N] [] M266)) else (am_g (am_ob x0 4) <| if x6 < 0 then (am_g (am_ar (am_rd M x0 2) 20 (am_w32 (x7 - 12))) <| am_g (am_ar (am_rd M x0 3) 20 v257) <| am_let (am_wr M (am_rd M x0 3) v257 (am_rd M (am_rd M x0 2) (am_w32 (x7 - 12)))) fun M271 => am_Ex d 123 134 [(2, x0), (2, x1), am_N, (0, x3), (0, v257), (0, x5), am_N, am_N, am_N, am_N, am_N, am_N, am_N] [] M271) else (am_g (am_ar (am_rd M x0 3) 20 v257) <| am_let (am_wr M (am_rd M x0 3) v257 x6) fun M273 => am_Ex d 123 134 [(2, x0), (2, x1), am_N, (0, x3), (0, v257), (0, x5), am_N, am_N, am_N, am_N, am_N, am_N, am_N] [] M273))) else (am_g (am_ob x0 4) <| am_g (am_ar (am_rd M x0 3) 20 (am_w32 (x4 - 2))) <| am_let (am_rd M (am_rd M x0 3) (am_w32 (x4 - 2))) fun v276 => am_let (am_w32 (x4 - 0)) fun v277 => if x8 = 0 then (if (1 : Int) = 0 then ((am_Call d 33 [(0, x7), (0, v276), (0, 0)] M).bind fun r280 => am_g (am_ar (am_rd M x0 3) 20 v277) <| am_let (am_wr r280.2 (am_rd M x0 3) v277 r280.1) fun M282 => am_Ex d 123 134 [(2, x0), (2, x1), am_N, (0, x3), (0, v277), (0, x5), am_N, am_N, am_N, am_N, am_N, am_N, am_N] [] M282) else ((am_Call d 32 [(0, x7), (0, 0)] M).bind fun r283 => am_g (am_ar (am_rd M x0 3) 20 v277) <| am_let (am_wr r283.2 (am_rd M x0 3) v277 r283.1) fun M285 => am_Ex d 123 134 [(2, x0), (2, x1), am_N, (0, x3), (0, v277), (0, x5), am_N, am_N, am_N, am_N, am_N, am_N, am_N] [] M285)) else (if x6 < 0 then (am_g (am_ar (am_rd M x0 2) 20 (am_w32 (x7 - 12))) <| am_g (am_ar (am_rd M x0 3) 20 v277) <| am_let (am_wr M (am_rd M x0 3) v277 (am_rd M (am_rd M x0 2) (am_w32 (x7 - 12)))) fun M289 => am_Ex d 123 134 [(2, x0), (2, x1), am_N, (0, x3), (0, v277), (0, x5), am_N, am_N, am_N, am_N, am_N, am_N, am_N] [] M289) else (am_g (am_ar (am_rd M x0 3) 20 v277) <| am_let (am_wr M (am_rd M x0 3) v277 x6) fun M291 => am_Ex d 123 134 [(2, x0), (2, x1), am_N, (0, x3), (0, v277), (0, x5), am_N, am_N, am_N, am_N, am_N, am_N, am_N] [] M291)))) else (am_g (am_ob x0 4) <| am_g (am_ar (am_rd M x0 3) 20 (am_w32 (x4 - 1))) <| am_let (am_rd M (am_rd M x0 3) (am_w32 (x4 - 1))) fun v294 => if (0 : Int) ≤ 1 then (am_let (am_w32 (x4 - 0)) fun v296 => if x8 = 0 then (if (1 : Int) = 0 then ((am_Call d 33 [(0, x7), (0, 0), (0, v294)] M).bind fun r299 => am_g (am_ar (am_rd M x0 3) 20 v296) <| am_let (am_wr r299.2 (am_rd M x0 3) v296 r299.1) fun M301 => am_Ex d 123 134 [(2, x0), (2, x1), am_N, (0, x3), (0, v296), (0, x5), am_N, am_N, am_N, am_N, am_N, am_N, am_N] [] M301) else ((am_Call d 32 [(0, x7), (0, v294)] M).bind fun r302 => am_g (am_ar (am_rd M x0 3) 20 v296) <| am_let (am_wr r302.2 (am_rd M x0 3) v296 r302.1) fun M304 => am_Ex d 123 134 [(2, x0), (2, x1), am_N, (0, x3), (0, v296), (0, x5), am_N, am_N, am_N, am_N, am_N, am_N, am_N] [] M304)) else (if x6 < 0 then (am_g (am_ar (am_rd M x0 2) 20 (am_w32 (x7 - 12))) <| am_g (am_ar (am_rd M x0 3) 20 v296) <| am_let (am_wr M (am_rd M x0 3) v296 (am_rd M (am_rd M x0 2) (am_w32 (x7 - 12)))) fun M308 => am_Ex d 123 134 [(2, x0), (2, x1), am_N, (0, x3), (0, v296), (0, x5), am_N, am_N, am_N, am_N, am_N, am_N, am_N] [] M308) else (am_g (am_ar (am_rd M x0 3) 20 v296) <| am_let (am_wr M (am_rd M x0 3) v296 x6) fun M310 => am_Ex d 123 134 [(2, x0), (2, x1), am_N, (0, x3), (0, v296), (0, x5), am_N, am_N, am_N, am_N, am_N, am_N, am_N] [] M310))) else (am_g (am_ar (am_rd M x0 3) 20 (am_w32 (x4 - 2))) <| am_let (am_rd M (am_rd M x0 3) (am_w32 (x4 - 2))) fun v312 => am_let (am_w32 (x4 - 0)) fun v313 => if x8 = 0 then (if (1 : Int) = 0 then ((am_Call d 33 [(0, x7), (0, v312), (0, v294)] M).bind fun r316 => am_g (am_ar (am_rd M x0 3) 20 v313) <| am_let (am_wr r316.2 (am_rd M x0 3) v313 r316.1) fun M318 => am_Ex d 123 134 [(2, x0), (2, x1), am_N, (0, x3), (0, v313), (0, x5), am_N, am_N, am_N, am_N, am_N, am_N, am_N] [] M318) else ((am_Call d 32 [(0, x7), (0, v294)] M).bind fun r319 => am_g (am_ar (am_rd M x0 3) 20 v313) <| am_let (am_wr r319.2 (am_rd M x0 3) v313 r319.1) fun M321 => am_Ex d 123 134 [(2, x0), (2, x1), am_N, (0, x3), (0, v313), (0, x5), am_N, am_N, am_N, am_N, am_N, am_N, am_N] [] M321)) else (if x6 < 0 then (am_g (am_ar (am_rd M x0 2) 20 (am_w32 (x7 - 12))) <| am_g (am_ar (am_rd M x0 3) 20 v313) <| am_let (am_wr M (am_rd M x0 3) v313 (am_rd M (am_rd M x0 2) (am_w32 (x7 - 12)))) fun M325 => am_Ex d 123 134 [(2, x0), (2, x1), am_N, (0, x3), (0, v313), (0, x5), am_N, am_N, am_N, am_N, am_N, am_N, am_N] [] M325) else (am_g (am_ar (am_rd M x0 3) 20 v313) <| am_let (am_wr M (am_rd M x0 3) v313 x6) fun M327 => am_Ex d 123 134 [(2, x0), (2, x1), am_N, (0, x3), (0, v313), (0, x5), am_N, am_N, am_N, am_N, am_N, am_N, am_N] [] M327))))) else (some (0, M))))) := by
  refine (am_e0 rfl rfl).trans ?_
  refine (am_e1 rfl rfl).trans ?_
  refine (am_e0 rfl rfl).trans ?_
  refine (am_e0 rfl rfl).trans ?_
  refine (am_z_eq rfl).trans (am_if_congr (fun c101 => ?_) (fun c101 => ?_))
  · refine (am_e0 rfl rfl).trans ?_
    refine (am_z_eq rfl).trans (am_if_congr (fun c102 => ?_) (fun c102 => ?_))
    · refine (am_e0 rfl rfl).trans ?_
      refine (am_e0 rfl rfl).trans ?_
      refine (am_e0 rfl rfl).trans ?_
      refine (am_e0 rfl rfl).trans ?_
      refine (am_i_lt rfl).trans (am_if_congr (fun c103 => ?_) (fun c103 => ?_))
      · refine (am_e5 rfl).trans ?_
        show am_Ex d 123 73 [am_N, am_N, am_N, am_N, am_N, am_N, am_N, am_N, am_N, am_N, am_N, am_N, am_N] [] M = _
        refine (am_e0 rfl rfl).trans ?_
        exact (am_e4i rfl rfl).trans rfl
      · refine (am_e0 rfl rfl).trans ?_
        refine (am_e0 rfl rfl).trans ?_
        refine (am_e0 rfl rfl).trans ?_
        refine (am_e0 rfl rfl).trans ?_
        refine (am_i_lt rfl).trans (am_if_congr (fun c104 => ?_) (fun c104 => ?_))
        · refine (am_e0 rfl rfl).trans ?_
          refine (am_z_le rfl).trans (am_if_congr (fun c105 => ?_) (fun c105 => ?_))
          · refine (am_e0 rfl rfl).trans ?_
            refine (am_e0 rfl rfl).trans ?_
            refine (am_e0 rfl rfl).trans ?_
            refine (am_e0 rfl rfl).trans ?_
            refine (am_i_le rfl).trans (am_if_congr (fun c106 => ?_) (fun c106 => ?_))
            · refine (am_e0 rfl rfl).trans ?_
              refine (am_e0 rfl rfl).trans ?_
              refine (am_e0 rfl rfl).trans ?_
              refine (am_e0 rfl rfl).trans ?_
              refine (am_e0 rfl rfl).trans ?_
              refine (am_e0 rfl rfl).trans ?_
              refine am_lets (L := fun v107 => [(2, x0), (2, x1), am_N, (0, x3), (0, v107), (0, x5), (0, x6), (0, x7), (0, x8), (0, 1), (0, 2), (0, 0), (0, 0)]) (fun v107 => ?_)
              refine (am_e0 rfl rfl).trans ?_
              refine (am_z_eq rfl).trans (am_if_congr (fun c108 => ?_) (fun c108 => ?_))
              · refine (am_e0 rfl rfl).trans ?_
                refine (am_gf (c := 4) (t := 2) rfl rfl rfl).trans (am_g_congr fun h109 => ?_)
                refine (am_e0 rfl rfl).trans ?_
                refine (am_e0 rfl rfl).trans ?_
                refine (am_z_eq rfl).trans (am_if_congr (fun c110 => ?_) (fun c110 => ?_))
                · refine (am_e0 rfl rfl).trans ?_
                  refine (am_e0 rfl rfl).trans ?_
                  refine (am_e0 rfl rfl).trans ?_
                  refine (am_cal3 (z := 33) (k := 3) (c := true) rfl rfl rfl rfl rfl rfl rfl rfl).trans ((am_g_t rfl).trans ?_)
                  refine am_bind_congr fun r111 => ?_
                  show am_Ex d 123 132 [(2, x0), (2, x1), am_N, (0, x3), (0, v107), (0, x5), (0, x6), (0, x7), (0, x8), (0, 1), (0, 2), (0, 0), (0, 0)] [(0, r111.1), (0, v107), (2, am_rd M x0 3)] r111.2 = _
                  refine (am_ias rfl).trans (am_g_congr fun h112 => ?_)
                  refine am_letm (fun M113 => ?_)
                  exact (am_e5 rfl).trans rfl
                · refine (am_e0 rfl rfl).trans ?_
                  refine (am_e0 rfl rfl).trans ?_
                  refine (am_cal3 (z := 32) (k := 2) (c := true) rfl rfl rfl rfl rfl rfl rfl rfl).trans ((am_g_t rfl).trans ?_)
                  refine am_bind_congr fun r114 => ?_
                  show am_Ex d 123 127 [(2, x0), (2, x1), am_N, (0, x3), (0, v107), (0, x5), (0, x6), (0, x7), (0, x8), (0, 1), (0, 2), (0, 0), (0, 0)] [(0, r114.1), (0, v107), (2, am_rd M x0 3)] r114.2 = _
                  refine (am_e1 rfl rfl).trans ?_
                  refine (am_ias rfl).trans (am_g_congr fun h115 => ?_)
                  refine am_letm (fun M116 => ?_)
                  exact (am_e5 rfl).trans rfl
              · refine (am_e0 rfl rfl).trans ?_
                refine (am_gf (c := 4) (t := 2) rfl rfl rfl).trans (am_g_congr fun h117 => ?_)
                refine (am_e0 rfl rfl).trans ?_
                refine (am_e0 rfl rfl).trans ?_
                refine (am_z_lt rfl).trans (am_if_congr (fun c118 => ?_) (fun c118 => ?_))
                · refine (am_e0 rfl rfl).trans ?_
                  refine (am_gf (c := 4) (t := 2) rfl rfl rfl).trans ((am_g_t h117).trans ?_)
                  refine (am_e0 rfl rfl).trans ?_
                  refine (am_e0 rfl rfl).trans ?_
                  refine (am_e0 rfl rfl).trans ?_
                  refine (am_ial rfl).trans (am_g_congr fun h119 => ?_)
                  refine (am_ias rfl).trans (am_g_congr fun h120 => ?_)
                  refine am_letm (fun M121 => ?_)
                  refine (am_e1 rfl rfl).trans ?_
                  exact (am_e5 rfl).trans rfl
                · refine (am_e0 rfl rfl).trans ?_
                  refine (am_e1 rfl rfl).trans ?_
                  refine (am_ias rfl).trans (am_g_congr fun h122 => ?_)
                  refine am_letm (fun M123 => ?_)
                  refine (am_e1 rfl rfl).trans ?_
                  exact (am_e5 rfl).trans rfl
            · refine (am_e0 rfl rfl).trans ?_
              refine (am_gf (c := 4) (t := 2) rfl rfl rfl).trans (am_g_congr fun h124 => ?_)
              refine (am_e0 rfl rfl).trans ?_
              refine (am_e0 rfl rfl).trans ?_
              refine (am_e0 rfl rfl).trans ?_
              refine (am_ial rfl).trans (am_g_congr fun h125 => ?_)
              refine (am_e1 rfl rfl).trans ?_
              refine (am_e0 rfl rfl).trans ?_
              refine am_lets (L := fun v126 => [(2, x0), (2, x1), am_N, (0, x3), (0, x4), (0, x5), (0, x6), (0, x7), (0, x8), (0, 1), (0, 2), (0, 0), (0, v126)]) (fun v126 => ?_)
              refine (am_e0 rfl rfl).trans ?_
              refine (am_e0 rfl rfl).trans ?_
              refine (am_e0 rfl rfl).trans ?_
              refine (am_e0 rfl rfl).trans ?_
              refine am_lets (L := fun v127 => [(2, x0), (2, x1), am_N, (0, x3), (0, v127), (0, x5), (0, x6), (0, x7), (0, x8), (0, 1), (0, 2), (0, 0), (0, v126)]) (fun v127 => ?_)
              refine (am_e0 rfl rfl).trans ?_
              refine (am_z_eq rfl).trans (am_if_congr (fun c128 => ?_) (fun c128 => ?_))
              · refine (am_e0 rfl rfl).trans ?_
                refine (am_gf (c := 4) (t := 2) rfl rfl rfl).trans ((am_g_t h124).trans ?_)
                refine (am_e0 rfl rfl).trans ?_
                refine (am_e0 rfl rfl).trans ?_
                refine (am_z_eq rfl).trans (am_if_congr (fun c129 => ?_) (fun c129 => ?_))
                · refine (am_e0 rfl rfl).trans ?_
                  refine (am_e0 rfl rfl).trans ?_
                  refine (am_e0 rfl rfl).trans ?_
                  refine (am_cal3 (z := 33) (k := 3) (c := true) rfl rfl rfl rfl rfl rfl rfl rfl).trans ((am_g_t rfl).trans ?_)
                  refine am_bind_congr fun r130 => ?_
                  show am_Ex d 123 132 [(2, x0), (2, x1), am_N, (0, x3), (0, v127), (0, x5), (0, x6), (0, x7), (0, x8), (0, 1), (0, 2), (0, 0), (0, v126)] [(0, r130.1), (0, v127), (2, am_rd M x0 3)] r130.2 = _
                  refine (am_ias rfl).trans (am_g_congr fun h131 => ?_)
                  refine am_letm (fun M132 => ?_)
                  exact (am_e5 rfl).trans rfl
                · refine (am_e0 rfl rfl).trans ?_
                  refine (am_e0 rfl rfl).trans ?_
                  refine (am_cal3 (z := 32) (k := 2) (c := true) rfl rfl rfl rfl rfl rfl rfl rfl).trans ((am_g_t rfl).trans ?_)
                  refine am_bind_congr fun r133 => ?_
                  show am_Ex d 123 127 [(2, x0), (2, x1), am_N, (0, x3), (0, v127), (0, x5), (0, x6), (0, x7), (0, x8), (0, 1), (0, 2), (0, 0), (0, v126)] [(0, r133.1), (0, v127), (2, am_rd M x0 3)] r133.2 = _
                  refine (am_e1 rfl rfl).trans ?_
                  refine (am_ias rfl).trans (am_g_congr fun h134 => ?_)
                  refine am_letm (fun M135 => ?_)
                  exact (am_e5 rfl).trans rfl
              · refine (am_e0 rfl rfl).trans ?_
                refine (am_gf (c := 4) (t := 2) rfl rfl rfl).trans ((am_g_t h124).trans ?_)
                refine (am_e0 rfl rfl).trans ?_
                refine (am_e0 rfl rfl).trans ?_
                refine (am_z_lt rfl).trans (am_if_congr (fun c136 => ?_) (fun c136 => ?_))
                · refine (am_e0 rfl rfl).trans ?_
                  refine (am_gf (c := 4) (t := 2) rfl rfl rfl).trans ((am_g_t h124).trans ?_)
                  refine (am_e0 rfl rfl).trans ?_
                  refine (am_e0 rfl rfl).trans ?_
                  refine (am_e0 rfl rfl).trans ?_
                  refine (am_ial rfl).trans (am_g_congr fun h137 => ?_)
                  refine (am_ias rfl).trans (am_g_congr fun h138 => ?_)
                  refine am_letm (fun M139 => ?_)
                  refine (am_e1 rfl rfl).trans ?_
                  exact (am_e5 rfl).trans rfl
                · refine (am_e0 rfl rfl).trans ?_
                  refine (am_e1 rfl rfl).trans ?_
                  refine (am_ias rfl).trans (am_g_congr fun h140 => ?_)
                  refine am_letm (fun M141 => ?_)
                  refine (am_e1 rfl rfl).trans ?_
                  exact (am_e5 rfl).trans rfl
          · refine (am_e0 rfl rfl).trans ?_
            refine (am_gf (c := 4) (t := 2) rfl rfl rfl).trans (am_g_congr fun h142 => ?_)
            refine (am_e0 rfl rfl).trans ?_
            refine (am_e0 rfl rfl).trans ?_
            refine (am_e0 rfl rfl).trans ?_
            refine (am_ial rfl).trans (am_g_congr fun h143 => ?_)
            refine (am_e1 rfl rfl).trans ?_
            refine (am_e0 rfl rfl).trans ?_
            refine am_lets (L := fun v144 => [(2, x0), (2, x1), am_N, (0, x3), (0, x4), (0, x5), (0, x6), (0, x7), (0, x8), (0, 1), (0, 2), (0, v144), am_N]) (fun v144 => ?_)
            refine (am_e0 rfl rfl).trans ?_
            refine (am_e0 rfl rfl).trans ?_
            refine (am_i_le rfl).trans (am_if_congr (fun c145 => ?_) (fun c145 => ?_))
            · refine (am_e0 rfl rfl).trans ?_
              refine (am_e0 rfl rfl).trans ?_
              refine (am_e0 rfl rfl).trans ?_
              refine (am_e0 rfl rfl).trans ?_
              refine (am_e0 rfl rfl).trans ?_
              refine (am_e0 rfl rfl).trans ?_
              refine am_lets (L := fun v146 => [(2, x0), (2, x1), am_N, (0, x3), (0, v146), (0, x5), (0, x6), (0, x7), (0, x8), (0, 1), (0, 2), (0, v144), (0, 0)]) (fun v146 => ?_)
              refine (am_e0 rfl rfl).trans ?_
              refine (am_z_eq rfl).trans (am_if_congr (fun c147 => ?_) (fun c147 => ?_))
              · refine (am_e0 rfl rfl).trans ?_
                refine (am_gf (c := 4) (t := 2) rfl rfl rfl).trans ((am_g_t h142).trans ?_)
                refine (am_e0 rfl rfl).trans ?_
                refine (am_e0 rfl rfl).trans ?_
                refine (am_z_eq rfl).trans (am_if_congr (fun c148 => ?_) (fun c148 => ?_))
                · refine (am_e0 rfl rfl).trans ?_
                  refine (am_e0 rfl rfl).trans ?_
                  refine (am_e0 rfl rfl).trans ?_
                  refine (am_cal3 (z := 33) (k := 3) (c := true) rfl rfl rfl rfl rfl rfl rfl rfl).trans ((am_g_t rfl).trans ?_)
                  refine am_bind_congr fun r149 => ?_
                  show am_Ex d 123 132 [(2, x0), (2, x1), am_N, (0, x3), (0, v146), (0, x5), (0, x6), (0, x7), (0, x8), (0, 1), (0, 2), (0, v144), (0, 0)] [(0, r149.1), (0, v146), (2, am_rd M x0 3)] r149.2 = _
                  refine (am_ias rfl).trans (am_g_congr fun h150 => ?_)
                  refine am_letm (fun M151 => ?_)
                  exact (am_e5 rfl).trans rfl
                · refine (am_e0 rfl rfl).trans ?_
                  refine (am_e0 rfl rfl).trans ?_
                  refine (am_cal3 (z := 32) (k := 2) (c := true) rfl rfl rfl rfl rfl rfl rfl rfl).trans ((am_g_t rfl).trans ?_)
                  refine am_bind_congr fun r152 => ?_
                  show am_Ex d 123 127 [(2, x0), (2, x1), am_N, (0, x3), (0, v146), (0, x5), (0, x6), (0, x7), (0, x8), (0, 1), (0, 2), (0, v144), (0, 0)] [(0, r152.1), (0, v146), (2, am_rd M x0 3)] r152.2 = _
                  refine (am_e1 rfl rfl).trans ?_
                  refine (am_ias rfl).trans (am_g_congr fun h153 => ?_)
                  refine am_letm (fun M154 => ?_)
                  exact (am_e5 rfl).trans rfl
              · refine (am_e0 rfl rfl).trans ?_
                refine (am_gf (c := 4) (t := 2) rfl rfl rfl).trans ((am_g_t h142).trans ?_)
                refine (am_e0 rfl rfl).trans ?_
                refine (am_e0 rfl rfl).trans ?_
                refine (am_z_lt rfl).trans (am_if_congr (fun c155 => ?_) (fun c155 => ?_))
                · refine (am_e0 rfl rfl).trans ?_
                  refine (am_gf (c := 4) (t := 2) rfl rfl rfl).trans ((am_g_t h142).trans ?_)
                  refine (am_e0 rfl rfl).trans ?_
                  refine (am_e0 rfl rfl).trans ?_
                  refine (am_e0 rfl rfl).trans ?_
                  refine (am_ial rfl).trans (am_g_congr fun h156 => ?_)
                  refine (am_ias rfl).trans (am_g_congr fun h157 => ?_)
                  refine am_letm (fun M158 => ?_)
                  refine (am_e1 rfl rfl).trans ?_
                  exact (am_e5 rfl).trans rfl
                · refine (am_e0 rfl rfl).trans ?_
                  refine (am_e1 rfl rfl).trans ?_
                  refine (am_ias rfl).trans (am_g_congr fun h159 => ?_)
                  refine am_letm (fun M160 => ?_)
                  refine (am_e1 rfl rfl).trans ?_
                  exact (am_e5 rfl).trans rfl
            · refine (am_e0 rfl rfl).trans ?_
              refine (am_gf (c := 4) (t := 2) rfl rfl rfl).trans ((am_g_t h142).trans ?_)
              refine (am_e0 rfl rfl).trans ?_
              refine (am_e0 rfl rfl).trans ?_
              refine (am_e0 rfl rfl).trans ?_
              refine (am_ial rfl).trans (am_g_congr fun h161 => ?_)
              refine (am_e1 rfl rfl).trans ?_
              refine (am_e0 rfl rfl).trans ?_
              refine am_lets (L := fun v162 => [(2, x0), (2, x1), am_N, (0, x3), (0, x4), (0, x5), (0, x6), (0, x7), (0, x8), (0, 1), (0, 2), (0, v144), (0, v162)]) (fun v162 => ?_)
              refine (am_e0 rfl rfl).trans ?_
              refine (am_e0 rfl rfl).trans ?_
              refine (am_e0 rfl rfl).trans ?_
              refine (am_e0 rfl rfl).trans ?_
              refine am_lets (L := fun v163 => [(2, x0), (2, x1), am_N, (0, x3), (0, v163), (0, x5), (0, x6), (0, x7), (0, x8), (0, 1), (0, 2), (0, v144), (0, v162)]) (fun v163 => ?_)
              refine (am_e0 rfl rfl).trans ?_
              refine (am_z_eq rfl).trans (am_if_congr (fun c164 => ?_) (fun c164 => ?_))
              · refine (am_e0 rfl rfl).trans ?_
                refine (am_gf (c := 4) (t := 2) rfl rfl rfl).trans ((am_g_t h142).trans ?_)
                refine (am_e0 rfl rfl).trans ?_
                refine (am_e0 rfl rfl).trans ?_
                refine (am_z_eq rfl).trans (am_if_congr (fun c165 => ?_) (fun c165 => ?_))
                · refine (am_e0 rfl rfl).trans ?_
                  refine (am_e0 rfl rfl).trans ?_
                  refine (am_e0 rfl rfl).trans ?_
                  refine (am_cal3 (z := 33) (k := 3) (c := true) rfl rfl rfl rfl rfl rfl rfl rfl).trans ((am_g_t rfl).trans ?_)
                  refine am_bind_congr fun r166 => ?_
                  show am_Ex d 123 132 [(2, x0), (2, x1), am_N, (0, x3), (0, v163), (0, x5), (0, x6), (0, x7), (0, x8), (0, 1), (0, 2), (0, v144), (0, v162)] [(0, r166.1), (0, v163), (2, am_rd M x0 3)] r166.2 = _
                  refine (am_ias rfl).trans (am_g_congr fun h167 => ?_)
                  refine am_letm (fun M168 => ?_)
                  exact (am_e5 rfl).trans rfl
                · refine (am_e0 rfl rfl).trans ?_
                  refine (am_e0 rfl rfl).trans ?_
                  refine (am_cal3 (z := 32) (k := 2) (c := true) rfl rfl rfl rfl rfl rfl rfl rfl).trans ((am_g_t rfl).trans ?_)
                  refine am_bind_congr fun r169 => ?_
                  show am_Ex d 123 127 [(2, x0), (2, x1), am_N, (0, x3), (0, v163), (0, x5), (0, x6), (0, x7), (0, x8), (0, 1), (0, 2), (0, v144), (0, v162)] [(0, r169.1), (0, v163), (2, am_rd M x0 3)] r169.2 = _
                  refine (am_e1 rfl rfl).trans ?_
                  refine (am_ias rfl).trans (am_g_congr fun h170 => ?_)
                  refine am_letm (fun M171 => ?_)
                  exact (am_e5 rfl).trans rfl
              · refine (am_e0 rfl rfl).trans ?_
                refine (am_gf (c := 4) (t := 2) rfl rfl rfl).trans ((am_g_t h142).trans ?_)
                refine (am_e0 rfl rfl).trans ?_
                refine (am_e0 rfl rfl).trans ?_
                refine (am_z_lt rfl).trans (am_if_congr (fun c172 => ?_) (fun c172 => ?_))
                · refine (am_e0 rfl rfl).trans ?_
                  refine (am_gf (c := 4) (t := 2) rfl rfl rfl).trans ((am_g_t h142).trans ?_)
                  refine (am_e0 rfl rfl).trans ?_
                  refine (am_e0 rfl rfl).trans ?_
                  refine (am_e0 rfl rfl).trans ?_
                  refine (am_ial rfl).trans (am_g_congr fun h173 => ?_)
                  refine (am_ias rfl).trans (am_g_congr fun h174 => ?_)
                  refine am_letm (fun M175 => ?_)
                  refine (am_e1 rfl rfl).trans ?_
                  exact (am_e5 rfl).trans rfl
                · refine (am_e0 rfl rfl).trans ?_
                  refine (am_e1 rfl rfl).trans ?_
                  refine (am_ias rfl).trans (am_g_congr fun h176 => ?_)
                  refine am_letm (fun M177 => ?_)
                  refine (am_e1 rfl rfl).trans ?_
                  exact (am_e5 rfl).trans rfl
        · refine (am_e5 rfl).trans ?_
          show am_Ex d 123 73 [am_N, am_N, am_N, am_N, am_N, am_N, am_N, am_N, am_N, am_N, am_N, am_N, am_N] [] M = _
          refine (am_e0 rfl rfl).trans ?_
          exact (am_e4i rfl rfl).trans rfl
    · refine (am_e0 rfl rfl).trans ?_
      refine (am_e1 rfl rfl).trans ?_
      refine (am_e0 rfl rfl).trans ?_
      refine (am_e0 rfl rfl).trans ?_
      refine (am_e0 rfl rfl).trans ?_
      refine (am_i_lt rfl).trans (am_if_congr (fun c178 => ?_) (fun c178 => ?_))
      · refine (am_e5 rfl).trans ?_
        show am_Ex d 123 73 [am_N, am_N, am_N, am_N, am_N, am_N, am_N, am_N, am_N, am_N, am_N, am_N, am_N] [] M = _
        refine (am_e0 rfl rfl).trans ?_
        exact (am_e4i rfl rfl).trans rfl
      · refine (am_e0 rfl rfl).trans ?_
        refine (am_e0 rfl rfl).trans ?_
        refine (am_e0 rfl rfl).trans ?_
        refine (am_e0 rfl rfl).trans ?_
        refine (am_i_lt rfl).trans (am_if_congr (fun c179 => ?_) (fun c179 => ?_))
        · refine (am_e0 rfl rfl).trans ?_
          refine (am_z_le rfl).trans (am_if_congr (fun c180 => ?_) (fun c180 => ?_))
          · refine (am_e0 rfl rfl).trans ?_
            refine (am_e0 rfl rfl).trans ?_
            refine (am_e0 rfl rfl).trans ?_
            refine (am_e0 rfl rfl).trans ?_
            refine (am_i_le rfl).trans (am_if_congr (fun c181 => ?_) (fun c181 => ?_))
            · refine (am_e0 rfl rfl).trans ?_
              refine (am_e0 rfl rfl).trans ?_
              refine (am_e0 rfl rfl).trans ?_
              refine (am_e0 rfl rfl).trans ?_
              refine (am_e0 rfl rfl).trans ?_
              refine (am_e0 rfl rfl).trans ?_
              refine am_lets (L := fun v182 => [(2, x0), (2, x1), am_N, (0, x3), (0, v182), (0, x5), (0, x6), (0, x7), (0, x8), (0, 1), (0, 1), (0, 0), (0, 0)]) (fun v182 => ?_)
              refine (am_e0 rfl rfl).trans ?_
              refine (am_z_eq rfl).trans (am_if_congr (fun c183 => ?_) (fun c183 => ?_))
              · refine (am_e0 rfl rfl).trans ?_
                refine (am_gf (c := 4) (t := 2) rfl rfl rfl).trans (am_g_congr fun h184 => ?_)
                refine (am_e0 rfl rfl).trans ?_
                refine (am_e0 rfl rfl).trans ?_
                refine (am_z_eq rfl).trans (am_if_congr (fun c185 => ?_) (fun c185 => ?_))
                · refine (am_e0 rfl rfl).trans ?_
                  refine (am_e0 rfl rfl).trans ?_
                  refine (am_e0 rfl rfl).trans ?_
                  refine (am_cal3 (z := 33) (k := 3) (c := true) rfl rfl rfl rfl rfl rfl rfl rfl).trans ((am_g_t rfl).trans ?_)
                  refine am_bind_congr fun r186 => ?_
                  show am_Ex d 123 132 [(2, x0), (2, x1), am_N, (0, x3), (0, v182), (0, x5), (0, x6), (0, x7), (0, x8), (0, 1), (0, 1), (0, 0), (0, 0)] [(0, r186.1), (0, v182), (2, am_rd M x0 3)] r186.2 = _
                  refine (am_ias rfl).trans (am_g_congr fun h187 => ?_)
                  refine am_letm (fun M188 => ?_)
                  exact (am_e5 rfl).trans rfl
                · refine (am_e0 rfl rfl).trans ?_
                  refine (am_e0 rfl rfl).trans ?_
                  refine (am_cal3 (z := 32) (k := 2) (c := true) rfl rfl rfl rfl rfl rfl rfl rfl).trans ((am_g_t rfl).trans ?_)
                  refine am_bind_congr fun r189 => ?_
                  show am_Ex d 123 127 [(2, x0), (2, x1), am_N, (0, x3), (0, v182), (0, x5), (0, x6), (0, x7), (0, x8), (0, 1), (0, 1), (0, 0), (0, 0)] [(0, r189.1), (0, v182), (2, am_rd M x0 3)] r189.2 = _
                  refine (am_e1 rfl rfl).trans ?_
                  refine (am_ias rfl).trans (am_g_congr fun h190 => ?_)
                  refine am_letm (fun M191 => ?_)
                  exact (am_e5 rfl).trans rfl
              · refine (am_e0 rfl rfl).trans ?_
                refine (am_gf (c := 4) (t := 2) rfl rfl rfl).trans (am_g_congr fun h192 => ?_)
                refine (am_e0 rfl rfl).trans ?_
                refine (am_e0 rfl rfl).trans ?_
                refine (am_z_lt rfl).trans (am_if_congr (fun c193 => ?_) (fun c193 => ?_))
                · refine (am_e0 rfl rfl).trans ?_
                  refine (am_gf (c := 4) (t := 2) rfl rfl rfl).trans ((am_g_t h192).trans ?_)
                  refine (am_e0 rfl rfl).trans ?_
                  refine (am_e0 rfl rfl).trans ?_
                  refine (am_e0 rfl rfl).trans ?_
                  refine (am_ial rfl).trans (am_g_congr fun h194 => ?_)
                  refine (am_ias rfl).trans (am_g_congr fun h195 => ?_)
                  refine am_letm (fun M196 => ?_)
                  refine (am_e1 rfl rfl).trans ?_
                  exact (am_e5 rfl).trans rfl
                · refine (am_e0 rfl rfl).trans ?_
                  refine (am_e1 rfl rfl).trans ?_
                  refine (am_ias rfl).trans (am_g_congr fun h197 => ?_)
                  refine am_letm (fun M198 => ?_)
                  refine (am_e1 rfl rfl).trans ?_
                  exact (am_e5 rfl).trans rfl
            · refine (am_e0 rfl rfl).trans ?_
              refine (am_gf (c := 4) (t := 2) rfl rfl rfl).trans (am_g_congr fun h199 => ?_)
              refine (am_e0 rfl rfl).trans ?_
              refine (am_e0 rfl rfl).trans ?_
              refine (am_e0 rfl rfl).trans ?_
              refine (am_ial rfl).trans (am_g_congr fun h200 => ?_)
              refine (am_e1 rfl rfl).trans ?_
              refine (am_e0 rfl rfl).trans ?_
              refine am_lets (L := fun v201 => [(2, x0), (2, x1), am_N, (0, x3), (0, x4), (0, x5), (0, x6), (0, x7), (0, x8), (0, 1), (0, 1), (0, 0), (0, v201)]) (fun v201 => ?_)
              refine (am_e0 rfl rfl).trans ?_
              refine (am_e0 rfl rfl).trans ?_
              refine (am_e0 rfl rfl).trans ?_
              refine (am_e0 rfl rfl).trans ?_
              refine am_lets (L := fun v202 => [(2, x0), (2, x1), am_N, (0, x3), (0, v202), (0, x5), (0, x6), (0, x7), (0, x8), (0, 1), (0, 1), (0, 0), (0, v201)]) (fun v202 => ?_)
              refine (am_e0 rfl rfl).trans ?_
              refine (am_z_eq rfl).trans (am_if_congr (fun c203 => ?_) (fun c203 => ?_))
              · refine (am_e0 rfl rfl).trans ?_
                refine (am_gf (c := 4) (t := 2) rfl rfl rfl).trans ((am_g_t h199).trans ?_)
                refine (am_e0 rfl rfl).trans ?_
                refine (am_e0 rfl rfl).trans ?_
                refine (am_z_eq rfl).trans (am_if_congr (fun c204 => ?_) (fun c204 => ?_))
                · refine (am_e0 rfl rfl).trans ?_
                  refine (am_e0 rfl rfl).trans ?_
                  refine (am_e0 rfl rfl).trans ?_
                  refine (am_cal3 (z := 33) (k := 3) (c := true) rfl rfl rfl rfl rfl rfl rfl rfl).trans ((am_g_t rfl).trans ?_)
                  refine am_bind_congr fun r205 => ?_
                  show am_Ex d 123 132 [(2, x0), (2, x1), am_N, (0, x3), (0, v202), (0, x5), (0, x6), (0, x7), (0, x8), (0, 1), (0, 1), (0, 0), (0, v201)] [(0, r205.1), (0, v202), (2, am_rd M x0 3)] r205.2 = _
                  refine (am_ias rfl).trans (am_g_congr fun h206 => ?_)
                  refine am_letm (fun M207 => ?_)
                  exact (am_e5 rfl).trans rfl
                · refine (am_e0 rfl rfl).trans ?_
                  refine (am_e0 rfl rfl).trans ?_
                  refine (am_cal3 (z := 32) (k := 2) (c := true) rfl rfl rfl rfl rfl rfl rfl rfl).trans ((am_g_t rfl).trans ?_)
                  refine am_bind_congr fun r208 => ?_
                  show am_Ex d 123 127 [(2, x0), (2, x1), am_N, (0, x3), (0, v202), (0, x5), (0, x6), (0, x7), (0, x8), (0, 1), (0, 1), (0, 0), (0, v201)] [(0, r208.1), (0, v202), (2, am_rd M x0 3)] r208.2 = _
                  refine (am_e1 rfl rfl).trans ?_
                  refine (am_ias rfl).trans (am_g_congr fun h209 => ?_)
                  refine am_letm (fun M210 => ?_)
                  exact (am_e5 rfl).trans rfl
              · refine (am_e0 rfl rfl).trans ?_
                refine (am_gf (c := 4) (t := 2) rfl rfl rfl).trans ((am_g_t h199).trans ?_)
                refine (am_e0 rfl rfl).trans ?_
                refine (am_e0 rfl rfl).trans ?_
                refine (am_z_lt rfl).trans (am_if_congr (fun c211 => ?_) (fun c211 => ?_))
                · refine (am_e0 rfl rfl).trans ?_
                  refine (am_gf (c := 4) (t := 2) rfl rfl rfl).trans ((am_g_t h199).trans ?_)
                  refine (am_e0 rfl rfl).trans ?_
                  refine (am_e0 rfl rfl).trans ?_
                  refine (am_e0 rfl rfl).trans ?_
                  refine (am_ial rfl).trans (am_g_congr fun h212 => ?_)
                  refine (am_ias rfl).trans (am_g_congr fun h213 => ?_)
                  refine am_letm (fun M214 => ?_)
                  refine (am_e1 rfl rfl).trans ?_
                  exact (am_e5 rfl).trans rfl
                · refine (am_e0 rfl rfl).trans ?_
                  refine (am_e1 rfl rfl).trans ?_
                  refine (am_ias rfl).trans (am_g_congr fun h215 => ?_)
                  refine am_letm (fun M216 => ?_)
                  refine (am_e1 rfl rfl).trans ?_
                  exact (am_e5 rfl).trans rfl
          · refine (am_e0 rfl rfl).trans ?_
            refine (am_gf (c := 4) (t := 2) rfl rfl rfl).trans (am_g_congr fun h217 => ?_)
            refine (am_e0 rfl rfl).trans ?_
            refine (am_e0 rfl rfl).trans ?_
            refine (am_e0 rfl rfl).trans ?_
            refine (am_ial rfl).trans (am_g_congr fun h218 => ?_)
            refine (am_e1 rfl rfl).trans ?_
            refine (am_e0 rfl rfl).trans ?_
            refine am_lets (L := fun v219 => [(2, x0), (2, x1), am_N, (0, x3), (0, x4), (0, x5), (0, x6), (0, x7), (0, x8), (0, 1), (0, 1), (0, v219), am_N]) (fun v219 => ?_)
            refine (am_e0 rfl rfl).trans ?_
            refine (am_e0 rfl rfl).trans ?_
            refine (am_i_le rfl).trans (am_if_congr (fun c220 => ?_) (fun c220 => ?_))
            · refine (am_e0 rfl rfl).trans ?_
              refine (am_e0 rfl rfl).trans ?_
              refine (am_e0 rfl rfl).trans ?_
              refine (am_e0 rfl rfl).trans ?_
              refine (am_e0 rfl rfl).trans ?_
              refine (am_e0 rfl rfl).trans ?_
              refine am_lets (L := fun v221 => [(2, x0), (2, x1), am_N, (0, x3), (0, v221), (0, x5), (0, x6), (0, x7), (0, x8), (0, 1), (0, 1), (0, v219), (0, 0)]) (fun v221 => ?_)
              refine (am_e0 rfl rfl).trans ?_
              refine (am_z_eq rfl).trans (am_if_congr (fun c222 => ?_) (fun c222 => ?_))
              · refine (am_e0 rfl rfl).trans ?_
                refine (am_gf (c := 4) (t := 2) rfl rfl rfl).trans ((am_g_t h217).trans ?_)
                refine (am_e0 rfl rfl).trans ?_
                refine (am_e0 rfl rfl).trans ?_
                refine (am_z_eq rfl).trans (am_if_congr (fun c223 => ?_) (fun c223 => ?_))
                · refine (am_e0 rfl rfl).trans ?_
                  refine (am_e0 rfl rfl).trans ?_
                  refine (am_e0 rfl rfl).trans ?_
                  refine (am_cal3 (z := 33) (k := 3) (c := true) rfl rfl rfl rfl rfl rfl rfl rfl).trans ((am_g_t rfl).trans ?_)
                  refine am_bind_congr fun r224 => ?_
                  show am_Ex d 123 132 [(2, x0), (2, x1), am_N, (0, x3), (0, v221), (0, x5), (0, x6), (0, x7), (0, x8), (0, 1), (0, 1), (0, v219), (0, 0)] [(0, r224.1), (0, v221), (2, am_rd M x0 3)] r224.2 = _
                  refine (am_ias rfl).trans (am_g_congr fun h225 => ?_)
                  refine am_letm (fun M226 => ?_)
                  exact (am_e5 rfl).trans rfl
                · refine (am_e0 rfl rfl).trans ?_
                  refine (am_e0 rfl rfl).trans ?_
                  refine (am_cal3 (z := 32) (k := 2) (c := true) rfl rfl rfl rfl rfl rfl rfl rfl).trans ((am_g_t rfl).trans ?_)
                  refine am_bind_congr fun r227 => ?_
                  show am_Ex d 123 127 [(2, x0), (2, x1), am_N, (0, x3), (0, v221), (0, x5), (0, x6), (0, x7), (0, x8), (0, 1), (0, 1), (0, v219), (0, 0)] [(0, r227.1), (0, v221), (2, am_rd M x0 3)] r227.2 = _
                  refine (am_e1 rfl rfl).trans ?_
                  refine (am_ias rfl).trans (am_g_congr fun h228 => ?_)
                  refine am_letm (fun M229 => ?_)
                  exact (am_e5 rfl).trans rfl
              · refine (am_e0 rfl rfl).trans ?_
                refine (am_gf (c := 4) (t := 2) rfl rfl rfl).trans ((am_g_t h217).trans ?_)
                refine (am_e0 rfl rfl).trans ?_
                refine (am_e0 rfl rfl).trans ?_
                refine (am_z_lt rfl).trans (am_if_congr (fun c230 => ?_) (fun c230 => ?_))
                · refine (am_e0 rfl rfl).trans ?_
                  refine (am_gf (c := 4) (t := 2) rfl rfl rfl).trans ((am_g_t h217).trans ?_)
                  refine (am_e0 rfl rfl).trans ?_
                  refine (am_e0 rfl rfl).trans ?_
                  refine (am_e0 rfl rfl).trans ?_
                  refine (am_ial rfl).trans (am_g_congr fun h231 => ?_)
                  refine (am_ias rfl).trans (am_g_congr fun h232 => ?_)
                  refine am_letm (fun M233 => ?_)
                  refine (am_e1 rfl rfl).trans ?_
                  exact (am_e5 rfl).trans rfl
                · refine (am_e0 rfl rfl).trans ?_
                  refine (am_e1 rfl rfl).trans ?_
                  refine (am_ias rfl).trans (am_g_congr fun h234 => ?_)
                  refine am_letm (fun M235 => ?_)
                  refine (am_e1 rfl rfl).trans ?_
                  exact (am_e5 rfl).trans rfl
            · refine (am_e0 rfl rfl).trans ?_
              refine (am_gf (c := 4) (t := 2) rfl rfl rfl).trans ((am_g_t h217).trans ?_)
              refine (am_e0 rfl rfl).trans ?_
              refine (am_e0 rfl rfl).trans ?_
              refine (am_e0 rfl rfl).trans ?_
              refine (am_ial rfl).trans (am_g_congr fun h236 => ?_)
              refine (am_e1 rfl rfl).trans ?_
              refine (am_e0 rfl rfl).trans ?_
              refine am_lets (L := fun v237 => [(2, x0), (2, x1), am_N, (0, x3), (0, x4), (0, x5), (0, x6), (0, x7), (0, x8), (0, 1), (0, 1), (0, v219), (0, v237)]) (fun v237 => ?_)
              refine (am_e0 rfl rfl).trans ?_
              refine (am_e0 rfl rfl).trans ?_
              refine (am_e0 rfl rfl).trans ?_
              refine (am_e0 rfl rfl).trans ?_
              refine am_lets (L := fun v238 => [(2, x0), (2, x1), am_N, (0, x3), (0, v238), (0, x5), (0, x6), (0, x7), (0, x8), (0, 1), (0, 1), (0, v219), (0, v237)]) (fun v238 => ?_)
              refine (am_e0 rfl rfl).trans ?_
              refine (am_z_eq rfl).trans (am_if_congr (fun c239 => ?_) (fun c239 => ?_))
              · refine (am_e0 rfl rfl).trans ?_
                refine (am_gf (c := 4) (t := 2) rfl rfl rfl).trans ((am_g_t h217).trans ?_)
                refine (am_e0 rfl rfl).trans ?_
                refine (am_e0 rfl rfl).trans ?_
                refine (am_z_eq rfl).trans (am_if_congr (fun c240 => ?_) (fun c240 => ?_))
                · refine (am_e0 rfl rfl).trans ?_
                  refine (am_e0 rfl rfl).trans ?_
                  refine (am_e0 rfl rfl).trans ?_
                  refine (am_cal3 (z := 33) (k := 3) (c := true) rfl rfl rfl rfl rfl rfl rfl rfl).trans ((am_g_t rfl).trans ?_)
                  refine am_bind_congr fun r241 => ?_
                  show am_Ex d 123 132 [(2, x0), (2, x1), am_N, (0, x3), (0, v238), (0, x5), (0, x6), (0, x7), (0, x8), (0, 1), (0, 1), (0, v219), (0, v237)] [(0, r241.1), (0, v238), (2, am_rd M x0 3)] r241.2 = _
                  refine (am_ias rfl).trans (am_g_congr fun h242 => ?_)
                  refine am_letm (fun M243 => ?_)
                  exact (am_e5 rfl).trans rfl
                · refine (am_e0 rfl rfl).trans ?_
                  refine (am_e0 rfl rfl).trans ?_
                  refine (am_cal3 (z := 32) (k := 2) (c := true) rfl rfl rfl rfl rfl rfl rfl rfl).trans ((am_g_t rfl).trans ?_)
                  refine am_bind_congr fun r244 => ?_
                  show am_Ex d 123 127 [(2, x0), (2, x1), am_N, (0, x3), (0, v238), (0, x5), (0, x6), (0, x7), (0, x8), (0, 1), (0, 1), (0, v219), (0, v237)] [(0, r244.1), (0, v238), (2, am_rd M x0 3)] r244.2 = _
                  refine (am_e1 rfl rfl).trans ?_
                  refine (am_ias rfl).trans (am_g_congr fun h245 => ?_)
                  refine am_letm (fun M246 => ?_)
                  exact (am_e5 rfl).trans rfl
              · refine (am_e0 rfl rfl).trans ?_
                refine (am_gf (c := 4) (t := 2) rfl rfl rfl).trans ((am_g_t h217).trans ?_)
                refine (am_e0 rfl rfl).trans ?_
                refine (am_e0 rfl rfl).trans ?_
                refine (am_z_lt rfl).trans (am_if_congr (fun c247 => ?_) (fun c247 => ?_))
                · refine (am_e0 rfl rfl).trans ?_
                  refine (am_gf (c := 4) (t := 2) rfl rfl rfl).trans ((am_g_t h217).trans ?_)
                  refine (am_e0 rfl rfl).trans ?_
                  refine (am_e0 rfl rfl).trans ?_
                  refine (am_e0 rfl rfl).trans ?_
                  refine (am_ial rfl).trans (am_g_congr fun h248 => ?_)
                  refine (am_ias rfl).trans (am_g_congr fun h249 => ?_)
                  refine am_letm (fun M250 => ?_)
                  refine (am_e1 rfl rfl).trans ?_
                  exact (am_e5 rfl).trans rfl
                · refine (am_e0 rfl rfl).trans ?_
                  refine (am_e1 rfl rfl).trans ?_
                  refine (am_ias rfl).trans (am_g_congr fun h251 => ?_)
                  refine am_letm (fun M252 => ?_)
                  refine (am_e1 rfl rfl).trans ?_
                  exact (am_e5 rfl).trans rfl
        · refine (am_e5 rfl).trans ?_
          show am_Ex d 123 73 [am_N, am_N, am_N, am_N, am_N, am_N, am_N, am_N, am_N, am_N, am_N, am_N, am_N] [] M = _
          refine (am_e0 rfl rfl).trans ?_
          exact (am_e4i rfl rfl).trans rfl
  · refine (am_e0 rfl rfl).trans ?_
    refine (am_e1 rfl rfl).trans ?_
    refine (am_e0 rfl rfl).trans ?_
    refine (am_e0 rfl rfl).trans ?_
    refine (am_e0 rfl rfl).trans ?_
    refine (am_i_lt rfl).trans (am_if_congr (fun c253 => ?_) (fun c253 => ?_))
    · refine (am_e5 rfl).trans ?_
      show am_Ex d 123 73 [am_N, am_N, am_N, am_N, am_N, am_N, am_N, am_N, am_N, am_N, am_N, am_N, am_N] [] M = _
      refine (am_e0 rfl rfl).trans ?_
      exact (am_e4i rfl rfl).trans rfl
    · refine (am_e0 rfl rfl).trans ?_
      refine (am_e0 rfl rfl).trans ?_
      refine (am_e0 rfl rfl).trans ?_
      refine (am_e0 rfl rfl).trans ?_
      refine (am_i_lt rfl).trans (am_if_congr (fun c254 => ?_) (fun c254 => ?_))
      · refine (am_e0 rfl rfl).trans ?_
        refine (am_z_le rfl).trans (am_if_congr (fun c255 => ?_) (fun c255 => ?_))
        · refine (am_e0 rfl rfl).trans ?_
          refine (am_e0 rfl rfl).trans ?_
          refine (am_e0 rfl rfl).trans ?_
          refine (am_e0 rfl rfl).trans ?_
          refine (am_i_le rfl).trans (am_if_congr (fun c256 => ?_) (fun c256 => ?_))
          · refine (am_e0 rfl rfl).trans ?_
            refine (am_e0 rfl rfl).trans ?_
            refine (am_e0 rfl rfl).trans ?_
            refine (am_e0 rfl rfl).trans ?_
            refine (am_e0 rfl rfl).trans ?_
            refine (am_e0 rfl rfl).trans ?_
            refine am_lets (L := fun v257 => [(2, x0), (2, x1), am_N, (0, x3), (0, v257), (0, x5), (0, x6), (0, x7), (0, x8), (0, 1), (0, 0), (0, 0), (0, 0)]) (fun v257 => ?_)
            refine (am_e0 rfl rfl).trans ?_
            refine (am_z_eq rfl).trans (am_if_congr (fun c258 => ?_) (fun c258 => ?_))
            · refine (am_e0 rfl rfl).trans ?_
              refine (am_gf (c := 4) (t := 2) rfl rfl rfl).trans (am_g_congr fun h259 => ?_)
              refine (am_e0 rfl rfl).trans ?_
              refine (am_e0 rfl rfl).trans ?_
              refine (am_z_eq rfl).trans (am_if_congr (fun c260 => ?_) (fun c260 => ?_))
              · refine (am_e0 rfl rfl).trans ?_
                refine (am_e0 rfl rfl).trans ?_
                refine (am_e0 rfl rfl).trans ?_
                refine (am_cal3 (z := 33) (k := 3) (c := true) rfl rfl rfl rfl rfl rfl rfl rfl).trans ((am_g_t rfl).trans ?_)
                refine am_bind_congr fun r261 => ?_
                show am_Ex d 123 132 [(2, x0), (2, x1), am_N, (0, x3), (0, v257), (0, x5), (0, x6), (0, x7), (0, x8), (0, 1), (0, 0), (0, 0), (0, 0)] [(0, r261.1), (0, v257), (2, am_rd M x0 3)] r261.2 = _
                refine (am_ias rfl).trans (am_g_congr fun h262 => ?_)
                refine am_letm (fun M263 => ?_)
                exact (am_e5 rfl).trans rfl
              · refine (am_e0 rfl rfl).trans ?_
                refine (am_e0 rfl rfl).trans ?_
                refine (am_cal3 (z := 32) (k := 2) (c := true) rfl rfl rfl rfl rfl rfl rfl rfl).trans ((am_g_t rfl).trans ?_)
                refine am_bind_congr fun r264 => ?_
                show am_Ex d 123 127 [(2, x0), (2, x1), am_N, (0, x3), (0, v257), (0, x5), (0, x6), (0, x7), (0, x8), (0, 1), (0, 0), (0, 0), (0, 0)] [(0, r264.1), (0, v257), (2, am_rd M x0 3)] r264.2 = _
                refine (am_e1 rfl rfl).trans ?_
                refine (am_ias rfl).trans (am_g_congr fun h265 => ?_)
                refine am_letm (fun M266 => ?_)
                exact (am_e5 rfl).trans rfl
            · refine (am_e0 rfl rfl).trans ?_
              refine (am_gf (c := 4) (t := 2) rfl rfl rfl).trans (am_g_congr fun h267 => ?_)
              refine (am_e0 rfl rfl).trans ?_
              refine (am_e0 rfl rfl).trans ?_
              refine (am_z_lt rfl).trans (am_if_congr (fun c268 => ?_) (fun c268 => ?_))
              · refine (am_e0 rfl rfl).trans ?_
                refine (am_gf (c := 4) (t := 2) rfl rfl rfl).trans ((am_g_t h267).trans ?_)
                refine (am_e0 rfl rfl).trans ?_
                refine (am_e0 rfl rfl).trans ?_
                refine (am_e0 rfl rfl).trans ?_
                refine (am_ial rfl).trans (am_g_congr fun h269 => ?_)
                refine (am_ias rfl).trans (am_g_congr fun h270 => ?_)
                refine am_letm (fun M271 => ?_)
                refine (am_e1 rfl rfl).trans ?_
                exact (am_e5 rfl).trans rfl
              · refine (am_e0 rfl rfl).trans ?_
                refine (am_e1 rfl rfl).trans ?_
                refine (am_ias rfl).trans (am_g_congr fun h272 => ?_)
                refine am_letm (fun M273 => ?_)
                refine (am_e1 rfl rfl).trans ?_
                exact (am_e5 rfl).trans rfl
          · refine (am_e0 rfl rfl).trans ?_
            refine (am_gf (c := 4) (t := 2) rfl rfl rfl).trans (am_g_congr fun h274 => ?_)
            refine (am_e0 rfl rfl).trans ?_
            refine (am_e0 rfl rfl).trans ?_
            refine (am_e0 rfl rfl).trans ?_
            refine (am_ial rfl).trans (am_g_congr fun h275 => ?_)
            refine (am_e1 rfl rfl).trans ?_
            refine (am_e0 rfl rfl).trans ?_
            refine am_lets (L := fun v276 => [(2, x0), (2, x1), am_N, (0, x3), (0, x4), (0, x5), (0, x6), (0, x7), (0, x8), (0, 1), (0, 0), (0, 0), (0, v276)]) (fun v276 => ?_)
            refine (am_e0 rfl rfl).trans ?_
            refine (am_e0 rfl rfl).trans ?_
            refine (am_e0 rfl rfl).trans ?_
            refine (am_e0 rfl rfl).trans ?_
            refine am_lets (L := fun v277 => [(2, x0), (2, x1), am_N, (0, x3), (0, v277), (0, x5), (0, x6), (0, x7), (0, x8), (0, 1), (0, 0), (0, 0), (0, v276)]) (fun v277 => ?_)
            refine (am_e0 rfl rfl).trans ?_
            refine (am_z_eq rfl).trans (am_if_congr (fun c278 => ?_) (fun c278 => ?_))
            · refine (am_e0 rfl rfl).trans ?_
              refine (am_gf (c := 4) (t := 2) rfl rfl rfl).trans ((am_g_t h274).trans ?_)
              refine (am_e0 rfl rfl).trans ?_
              refine (am_e0 rfl rfl).trans ?_
              refine (am_z_eq rfl).trans (am_if_congr (fun c279 => ?_) (fun c279 => ?_))
              · refine (am_e0 rfl rfl).trans ?_
                refine (am_e0 rfl rfl).trans ?_
                refine (am_e0 rfl rfl).trans ?_
                refine (am_cal3 (z := 33) (k := 3) (c := true) rfl rfl rfl rfl rfl rfl rfl rfl).trans ((am_g_t rfl).trans ?_)
                refine am_bind_congr fun r280 => ?_
                show am_Ex d 123 132 [(2, x0), (2, x1), am_N, (0, x3), (0, v277), (0, x5), (0, x6), (0, x7), (0, x8), (0, 1), (0, 0), (0, 0), (0, v276)] [(0, r280.1), (0, v277), (2, am_rd M x0 3)] r280.2 = _
                refine (am_ias rfl).trans (am_g_congr fun h281 => ?_)
                refine am_letm (fun M282 => ?_)
                exact (am_e5 rfl).trans rfl
              · refine (am_e0 rfl rfl).trans ?_
                refine (am_e0 rfl rfl).trans ?_
                refine (am_cal3 (z := 32) (k := 2) (c := true) rfl rfl rfl rfl rfl rfl rfl rfl).trans ((am_g_t rfl).trans ?_)
                refine am_bind_congr fun r283 => ?_
                show am_Ex d 123 127 [(2, x0), (2, x1), am_N, (0, x3), (0, v277), (0, x5), (0, x6), (0, x7), (0, x8), (0, 1), (0, 0), (0, 0), (0, v276)] [(0, r283.1), (0, v277), (2, am_rd M x0 3)] r283.2 = _
                refine (am_e1 rfl rfl).trans ?_
                refine (am_ias rfl).trans (am_g_congr fun h284 => ?_)
                refine am_letm (fun M285 => ?_)
                exact (am_e5 rfl).trans rfl
            · refine (am_e0 rfl rfl).trans ?_
              refine (am_gf (c := 4) (t := 2) rfl rfl rfl).trans ((am_g_t h274).trans ?_)
              refine (am_e0 rfl rfl).trans ?_
              refine (am_e0 rfl rfl).trans ?_
              refine (am_z_lt rfl).trans (am_if_congr (fun c286 => ?_) (fun c286 => ?_))
              · refine (am_e0 rfl rfl).trans ?_
                refine (am_gf (c := 4) (t := 2) rfl rfl rfl).trans ((am_g_t h274).trans ?_)
                refine (am_e0 rfl rfl).trans ?_
                refine (am_e0 rfl rfl).trans ?_
                refine (am_e0 rfl rfl).trans ?_
                refine (am_ial rfl).trans (am_g_congr fun h287 => ?_)
                refine (am_ias rfl).trans (am_g_congr fun h288 => ?_)
                refine am_letm (fun M289 => ?_)
                refine (am_e1 rfl rfl).trans ?_
                exact (am_e5 rfl).trans rfl
              · refine (am_e0 rfl rfl).trans ?_
                refine (am_e1 rfl rfl).trans ?_
                refine (am_ias rfl).trans (am_g_congr fun h290 => ?_)
                refine am_letm (fun M291 => ?_)
                refine (am_e1 rfl rfl).trans ?_
                exact (am_e5 rfl).trans rfl
        · refine (am_e0 rfl rfl).trans ?_
          refine (am_gf (c := 4) (t := 2) rfl rfl rfl).trans (am_g_congr fun h292 => ?_)
          refine (am_e0 rfl rfl).trans ?_
          refine (am_e0 rfl rfl).trans ?_
          refine (am_e0 rfl rfl).trans ?_
          refine (am_ial rfl).trans (am_g_congr fun h293 => ?_)
          refine (am_e1 rfl rfl).trans ?_
          refine (am_e0 rfl rfl).trans ?_
          refine am_lets (L := fun v294 => [(2, x0), (2, x1), am_N, (0, x3), (0, x4), (0, x5), (0, x6), (0, x7), (0, x8), (0, 1), (0, 0), (0, v294), am_N]) (fun v294 => ?_)
          refine (am_e0 rfl rfl).trans ?_
          refine (am_e0 rfl rfl).trans ?_
          refine (am_i_le rfl).trans (am_if_congr (fun c295 => ?_) (fun c295 => ?_))
          · refine (am_e0 rfl rfl).trans ?_
            refine (am_e0 rfl rfl).trans ?_
            refine (am_e0 rfl rfl).trans ?_
            refine (am_e0 rfl rfl).trans ?_
            refine (am_e0 rfl rfl).trans ?_
            refine (am_e0 rfl rfl).trans ?_
            refine am_lets (L := fun v296 => [(2, x0), (2, x1), am_N, (0, x3), (0, v296), (0, x5), (0, x6), (0, x7), (0, x8), (0, 1), (0, 0), (0, v294), (0, 0)]) (fun v296 => ?_)
            refine (am_e0 rfl rfl).trans ?_
            refine (am_z_eq rfl).trans (am_if_congr (fun c297 => ?_) (fun c297 => ?_))
            · refine (am_e0 rfl rfl).trans ?_
              refine (am_gf (c := 4) (t := 2) rfl rfl rfl).trans ((am_g_t h292).trans ?_)
              refine (am_e0 rfl rfl).trans ?_
              refine (am_e0 rfl rfl).trans ?_
              refine (am_z_eq rfl).trans (am_if_congr (fun c298 => ?_) (fun c298 => ?_))
              · refine (am_e0 rfl rfl).trans ?_
                refine (am_e0 rfl rfl).trans ?_
                refine (am_e0 rfl rfl).trans ?_
                refine (am_cal3 (z := 33) (k := 3) (c := true) rfl rfl rfl rfl rfl rfl rfl rfl).trans ((am_g_t rfl).trans ?_)
                refine am_bind_congr fun r299 => ?_
                show am_Ex d 123 132 [(2, x0), (2, x1), am_N, (0, x3), (0, v296), (0, x5), (0, x6), (0, x7), (0, x8), (0, 1), (0, 0), (0, v294), (0, 0)] [(0, r299.1), (0, v296), (2, am_rd M x0 3)] r299.2 = _
                refine (am_ias rfl).trans (am_g_congr fun h300 => ?_)
                refine am_letm (fun M301 => ?_)
                exact (am_e5 rfl).trans rfl
              · refine (am_e0 rfl rfl).trans ?_
                refine (am_e0 rfl rfl).trans ?_
                refine (am_cal3 (z := 32) (k := 2) (c := true) rfl rfl rfl rfl rfl rfl rfl rfl).trans ((am_g_t rfl).trans ?_)
                refine am_bind_congr fun r302 => ?_
                show am_Ex d 123 127 [(2, x0), (2, x1), am_N, (0, x3), (0, v296), (0, x5), (0, x6), (0, x7), (0, x8), (0, 1), (0, 0), (0, v294), (0, 0)] [(0, r302.1), (0, v296), (2, am_rd M x0 3)] r302.2 = _
                refine (am_e1 rfl rfl).trans ?_
                refine (am_ias rfl).trans (am_g_congr fun h303 => ?_)
                refine am_letm (fun M304 => ?_)
                exact (am_e5 rfl).trans rfl
            · refine (am_e0 rfl rfl).trans ?_
              refine (am_gf (c := 4) (t := 2) rfl rfl rfl).trans ((am_g_t h292).trans ?_)
              refine (am_e0 rfl rfl).trans ?_
              refine (am_e0 rfl rfl).trans ?_
              refine (am_z_lt rfl).trans (am_if_congr (fun c305 => ?_) (fun c305 => ?_))
              · refine (am_e0 rfl rfl).trans ?_
                refine (am_gf (c := 4) (t := 2) rfl rfl rfl).trans ((am_g_t h292).trans ?_)
                refine (am_e0 rfl rfl).trans ?_
                refine (am_e0 rfl rfl).trans ?_
                refine (am_e0 rfl rfl).trans ?_
                refine (am_ial rfl).trans (am_g_congr fun h306 => ?_)
                refine (am_ias rfl).trans (am_g_congr fun h307 => ?_)
                refine am_letm (fun M308 => ?_)
                refine (am_e1 rfl rfl).trans ?_
                exact (am_e5 rfl).trans rfl
              · refine (am_e0 rfl rfl).trans ?_
                refine (am_e1 rfl rfl).trans ?_
                refine (am_ias rfl).trans (am_g_congr fun h309 => ?_)
                refine am_letm (fun M310 => ?_)
                refine (am_e1 rfl rfl).trans ?_
                exact (am_e5 rfl).trans rfl
          · refine (am_e0 rfl rfl).trans ?_
            refine (am_gf (c := 4) (t := 2) rfl rfl rfl).trans ((am_g_t h292).trans ?_)
            refine (am_e0 rfl rfl).trans ?_
            refine (am_e0 rfl rfl).trans ?_
            refine (am_e0 rfl rfl).trans ?_
            refine (am_ial rfl).trans (am_g_congr fun h311 => ?_)
            refine (am_e1 rfl rfl).trans ?_
            refine (am_e0 rfl rfl).trans ?_
            refine am_lets (L := fun v312 => [(2, x0), (2, x1), am_N, (0, x3), (0, x4), (0, x5), (0, x6), (0, x7), (0, x8), (0, 1), (0, 0), (0, v294), (0, v312)]) (fun v312 => ?_)
            refine (am_e0 rfl rfl).trans ?_
            refine (am_e0 rfl rfl).trans ?_
            refine (am_e0 rfl rfl).trans ?_
            refine (am_e0 rfl rfl).trans ?_
            refine am_lets (L := fun v313 => [(2, x0), (2, x1), am_N, (0, x3), (0, v313), (0, x5), (0, x6), (0, x7), (0, x8), (0, 1), (0, 0), (0, v294), (0, v312)]) (fun v313 => ?_)
            refine (am_e0 rfl rfl).trans ?_
            refine (am_z_eq rfl).trans (am_if_congr (fun c314 => ?_) (fun c314 => ?_))
            · refine (am_e0 rfl rfl).trans ?_
              refine (am_gf (c := 4) (t := 2) rfl rfl rfl).trans ((am_g_t h292).trans ?_)
              refine (am_e0 rfl rfl).trans ?_
              refine (am_e0 rfl rfl).trans ?_
              refine (am_z_eq rfl).trans (am_if_congr (fun c315 => ?_) (fun c315 => ?_))
              · refine (am_e0 rfl rfl).trans ?_
                refine (am_e0 rfl rfl).trans ?_
                refine (am_e0 rfl rfl).trans ?_
                refine (am_cal3 (z := 33) (k := 3) (c := true) rfl rfl rfl rfl rfl rfl rfl rfl).trans ((am_g_t rfl).trans ?_)
                refine am_bind_congr fun r316 => ?_
                show am_Ex d 123 132 [(2, x0), (2, x1), am_N, (0, x3), (0, v313), (0, x5), (0, x6), (0, x7), (0, x8), (0, 1), (0, 0), (0, v294), (0, v312)] [(0, r316.1), (0, v313), (2, am_rd M x0 3)] r316.2 = _
                refine (am_ias rfl).trans (am_g_congr fun h317 => ?_)
                refine am_letm (fun M318 => ?_)
                exact (am_e5 rfl).trans rfl
              · refine (am_e0 rfl rfl).trans ?_
                refine (am_e0 rfl rfl).trans ?_
                refine (am_cal3 (z := 32) (k := 2) (c := true) rfl rfl rfl rfl rfl rfl rfl rfl).trans ((am_g_t rfl).trans ?_)
                refine am_bind_congr fun r319 => ?_
                show am_Ex d 123 127 [(2, x0), (2, x1), am_N, (0, x3), (0, v313), (0, x5), (0, x6), (0, x7), (0, x8), (0, 1), (0, 0), (0, v294), (0, v312)] [(0, r319.1), (0, v313), (2, am_rd M x0 3)] r319.2 = _
                refine (am_e1 rfl rfl).trans ?_
                refine (am_ias rfl).trans (am_g_congr fun h320 => ?_)
                refine am_letm (fun M321 => ?_)
                exact (am_e5 rfl).trans rfl
            · refine (am_e0 rfl rfl).trans ?_
              refine (am_gf (c := 4) (t := 2) rfl rfl rfl).trans ((am_g_t h292).trans ?_)
              refine (am_e0 rfl rfl).trans ?_
              refine (am_e0 rfl rfl).trans ?_
              refine (am_z_lt rfl).trans (am_if_congr (fun c322 => ?_) (fun c322 => ?_))
              · refine (am_e0 rfl rfl).trans ?_
                refine (am_gf (c := 4) (t := 2) rfl rfl rfl).trans ((am_g_t h292).trans ?_)
                refine (am_e0 rfl rfl).trans ?_
                refine (am_e0 rfl rfl).trans ?_
                refine (am_e0 rfl rfl).trans ?_
                refine (am_ial rfl).trans (am_g_congr fun h323 => ?_)
                refine (am_ias rfl).trans (am_g_congr fun h324 => ?_)
                refine am_letm (fun M325 => ?_)
                refine (am_e1 rfl rfl).trans ?_
                exact (am_e5 rfl).trans rfl
              · refine (am_e0 rfl rfl).trans ?_
                refine (am_e1 rfl rfl).trans ?_
                refine (am_ias rfl).trans (am_g_congr fun h326 => ?_)
                refine am_letm (fun M327 => ?_)
                refine (am_e1 rfl rfl).trans ?_
                exact (am_e5 rfl).trans rfl
      · refine (am_e5 rfl).trans ?_
        show am_Ex d 123 73 [am_N, am_N, am_N, am_N, am_N, am_N, am_N, am_N, am_N, am_N, am_N, am_N, am_N] [] M = _
        refine (am_e0 rfl rfl).trans ?_
        exact (am_e4i rfl rfl).trans rfl
set_option maxRecDepth 10000 in
theorem aq_123_134 (d : Nat) (x0 x1 x3 x4 x5 : Int) (M : am_M) : am_Ex d 123 134 [(2, x0), (2, x1), am_N, (0, x3), (0, x4), (0, x5), am_N, am_N, am_N, am_N, am_N, am_N, am_N] [] M = (am_let (am_w32 (x4 + 1)) fun v101 => am_let (am_w32 (x5 + 1)) fun v102 => am_Ex d 123 5 [(2, x0), (2, x1), am_N, (0, x3), (0, v101), (0, v102), am_N, am_N, am_N, am_N, am_N, am_N, am_N] [] M) := by
  refine (am_e0 rfl rfl).trans ?_
  refine am_lets (L := fun v101 => [(2, x0), (2, x1), am_N, (0, x3), (0, v101), (0, x5), am_N, am_N, am_N, am_N, am_N, am_N, am_N]) (fun v101 => ?_)
  refine (am_e0 rfl rfl).trans ?_
  refine am_lets (L := fun v102 => [(2, x0), (2, x1), am_N, (0, x3), (0, v101), (0, v102), am_N, am_N, am_N, am_N, am_N, am_N, am_N]) (fun v102 => ?_)
  refine (am_e1 rfl rfl).trans ?_
  exact (am_e5 rfl).trans rfl
