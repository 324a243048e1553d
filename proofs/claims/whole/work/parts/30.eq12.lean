/-! equations of the methods 276 .. 290 -/
-- 276: UnlearnedHand$Reader.findTokens([CI)V
set_option maxRecDepth 10000 in
theorem aq_276 (d : Nat) (x0 x1 x2 : Int) (M : am_M) : am_Call d 276 [(2, x0), (2, x1), (0, x2)] M = (am_g (am_ob x0 6) <| am_let (am_wr M x0 3 0) fun M102 => am_Ex d 276 6 [(2, x0), (2, x1), (0, x2), am_N, (0, 0), am_N, am_N] [] M102) := by
  show am_Ex d 276 0 [(2, x0), (2, x1), (0, x2), am_N, am_N, am_N, am_N] [] M = _
  refine (am_e0 rfl rfl).trans ?_
  refine (am_e0 rfl rfl).trans ?_
  refine (am_pf (c := 6) rfl rfl rfl).trans (am_g_congr fun h101 => ?_)
  refine am_letm (fun M102 => ?_)
  refine (am_e0 rfl rfl).trans ?_
  refine (am_e0 rfl rfl).trans ?_
  exact (am_e5 rfl).trans rfl
set_option maxRecDepth 10000 in
theorem aq_276_6 (d : Nat) (x0 x1 x2 x4 : Int) (M : am_M) : am_Ex d 276 6 [(2, x0), (2, x1), (0, x2), am_N, (0, x4), am_N, am_N] [] M = (if x4 < x2 then (am_g (am_ia x1) <| if x4 < am_ln x1 then (am_g (am_ar x1 22 x4) <| am_let (am_rd M x1 x4) fun v105 => am_let (am_w32 (x4 + 1)) fun v106 => (am_Call d 40 [(0, v105)] M).bind fun r107 => if r107.1 = 0 then ((am_Call d 41 [(0, v105)] r107.2).bind fun r109 => if r109.1 = 0 then (if v105 = 32 then (am_Ex d 276 116 [(2, x0), (2, x1), (0, x2), (0, v106), am_N, am_N, am_N] [] r109.2) else (if v105 = 10 then (am_Ex d 276 116 [(2, x0), (2, x1), (0, x2), (0, v106), am_N, am_N, am_N] [] r109.2) else (if v106 < x2 then (if v106 < am_ln x1 then (am_g (am_ar x1 22 v106) <| (am_Call d 237 [(0, v105), (0, am_rd r109.2 x1 v106)] r109.2).bind fun r116 => am_g (am_ob x0 6) <| (am_Call d 39 [(2, x0), (0, r116.1), (0, 0), (0, x4)] r116.2).bind fun r118 => if r116.1 = 40 then (am_let (am_w32 (v106 + 1)) fun v120 => am_Ex d 276 116 [(2, x0), (2, x1), (0, x2), (0, v120), am_N, am_N, am_N] [] r118.2) else (if r116.1 = 41 then (am_let (am_w32 (v106 + 1)) fun v122 => am_Ex d 276 116 [(2, x0), (2, x1), (0, x2), (0, v122), am_N, am_N, am_N] [] r118.2) else (am_let (am_w32 (v106 + 0)) fun v123 => am_Ex d 276 116 [(2, x0), (2, x1), (0, x2), (0, v123), am_N, am_N, am_N] [] r118.2))) else ((am_Call d 237 [(0, v105), (0, 32)] r109.2).bind fun r124 => am_g (am_ob x0 6) <| (am_Call d 39 [(2, x0), (0, r124.1), (0, 0), (0, x4)] r124.2).bind fun r126 => if r124.1 = 40 then (am_let (am_w32 (v106 + 1)) fun v128 => am_Ex d 276 116 [(2, x0), (2, x1), (0, x2), (0, v128), am_N, am_N, am_N] [] r126.2) else (if r124.1 = 41 then (am_let (am_w32 (v106 + 1)) fun v130 => am_Ex d 276 116 [(2, x0), (2, x1), (0, x2), (0, v130), am_N, am_N, am_N] [] r126.2) else (am_let (am_w32 (v106 + 0)) fun v131 => am_Ex d 276 116 [(2, x0), (2, x1), (0, x2), (0, v131), am_N, am_N, am_N] [] r126.2)))) else ((am_Call d 237 [(0, v105), (0, 32)] r109.2).bind fun r132 => am_g (am_ob x0 6) <| (am_Call d 39 [(2, x0), (0, r132.1), (0, 0), (0, x4)] r132.2).bind fun r134 => if r132.1 = 40 then (am_let (am_w32 (v106 + 1)) fun v136 => am_Ex d 276 116 [(2, x0), (2, x1), (0, x2), (0, v136), am_N, am_N, am_N] [] r134.2) else (if r132.1 = 41 then (am_let (am_w32 (v106 + 1)) fun v138 => am_Ex d 276 116 [(2, x0), (2, x1), (0, x2), (0, v138), am_N, am_N, am_N] [] r134.2) else (am_let (am_w32 (v106 + 0)) fun v139 => am_Ex d 276 116 [(2, x0), (2, x1), (0, x2), (0, v139), am_N, am_N, am_N] [] r134.2)))))) else (am_Ex d 276 53 [(2, x0), (2, x1), (0, x2), (0, v106), (0, x4), am_N, am_N] [] r109.2)) else (am_Ex d 276 25 [(2, x0), (2, x1), (0, x2), (0, v106), (0, x4), am_N, am_N] [] r107.2)) else (am_Ex d 276 120 [(2, x0), am_N, (0, x2), am_N, am_N, am_N, am_N] [] M)) else (am_Ex d 276 120 [(2, x0), am_N, (0, x2), am_N, am_N, am_N, am_N] [] M)) := by
  refine (am_e0 rfl rfl).trans ?_
  refine (am_e0 rfl rfl).trans ?_
  refine (am_i_ge rfl).trans (am_if_congr (fun c101 => ?_) (fun c101 => ?_))
  · refine (am_e0 rfl rfl).trans ?_
    refine (am_e0 rfl rfl).trans ?_
    refine (am_aln rfl).trans (am_g_congr fun h102 => ?_)
    refine (am_i_ge rfl).trans (am_if_congr (fun c103 => ?_) (fun c103 => ?_))
    · refine (am_e0 rfl rfl).trans ?_
      refine (am_e0 rfl rfl).trans ?_
      refine (am_cal rfl).trans (am_g_congr fun h104 => ?_)
      refine (am_e0 rfl rfl).trans ?_
      refine am_lets (L := fun v105 => [(2, x0), (2, x1), (0, x2), am_N, (0, x4), (0, v105), am_N]) (fun v105 => ?_)
      refine (am_e0 rfl rfl).trans ?_
      refine (am_e0 rfl rfl).trans ?_
      refine (am_e0 rfl rfl).trans ?_
      refine (am_e0 rfl rfl).trans ?_
      refine am_lets (L := fun v106 => [(2, x0), (2, x1), (0, x2), (0, v106), (0, x4), (0, v105), am_N]) (fun v106 => ?_)
      refine (am_e0 rfl rfl).trans ?_
      refine (am_cal3 (z := 40) (k := 1) (c := true) rfl rfl rfl rfl rfl rfl rfl rfl).trans ((am_g_t rfl).trans ?_)
      refine am_bind_congr fun r107 => ?_
      show am_Ex d 276 23 [(2, x0), (2, x1), (0, x2), (0, v106), (0, x4), (0, v105), am_N] [(0, r107.1)] r107.2 = _
      refine (am_z_eq rfl).trans (am_if_congr (fun c108 => ?_) (fun c108 => ?_))
      · refine (am_e0 rfl rfl).trans ?_
        refine (am_cal3 (z := 41) (k := 1) (c := true) rfl rfl rfl rfl rfl rfl rfl rfl).trans ((am_g_t rfl).trans ?_)
        refine am_bind_congr fun r109 => ?_
        show am_Ex d 276 51 [(2, x0), (2, x1), (0, x2), (0, v106), (0, x4), (0, v105), am_N] [(0, r109.1)] r109.2 = _
        refine (am_z_eq rfl).trans (am_if_congr (fun c110 => ?_) (fun c110 => ?_))
        · refine (am_e0 rfl rfl).trans ?_
          refine (am_e0 rfl rfl).trans ?_
          refine (am_i_eq rfl).trans (am_if_congr (fun c111 => ?_) (fun c111 => ?_))
          · exact (am_e5 rfl).trans rfl
          · refine (am_e0 rfl rfl).trans ?_
            refine (am_e0 rfl rfl).trans ?_
            refine (am_i_eq rfl).trans (am_if_congr (fun c112 => ?_) (fun c112 => ?_))
            · exact (am_e5 rfl).trans rfl
            · refine (am_e0 rfl rfl).trans ?_
              refine (am_e0 rfl rfl).trans ?_
              refine (am_e0 rfl rfl).trans ?_
              refine (am_i_ge rfl).trans (am_if_congr (fun c113 => ?_) (fun c113 => ?_))
              · refine (am_e0 rfl rfl).trans ?_
                refine (am_e0 rfl rfl).trans ?_
                refine (am_aln rfl).trans ((am_g_t h102).trans ?_)
                refine (am_i_ge rfl).trans (am_if_congr (fun c114 => ?_) (fun c114 => ?_))
                · refine (am_e0 rfl rfl).trans ?_
                  refine (am_e0 rfl rfl).trans ?_
                  refine (am_cal rfl).trans (am_g_congr fun h115 => ?_)
                  refine (am_e1 rfl rfl).trans ?_
                  refine (am_cal3 (z := 237) (k := 2) (c := true) rfl rfl rfl rfl rfl rfl rfl rfl).trans ((am_g_t rfl).trans ?_)
                  refine am_bind_congr fun r116 => ?_
                  show am_Ex d 276 97 [(2, x0), (2, x1), (0, x2), (0, v106), (0, x4), (0, v105), am_N] [(0, r116.1)] r116.2 = _
                  refine (am_e0 rfl rfl).trans ?_
                  refine (am_e0 rfl rfl).trans ?_
                  refine (am_e0 rfl rfl).trans ?_
                  refine (am_e0 rfl rfl).trans ?_
                  refine (am_e0 rfl rfl).trans ?_
                  refine (am_cal3 (z := 39) (k := 4) (c := (am_ob x0 6)) rfl rfl rfl rfl rfl rfl rfl rfl).trans (am_g_congr fun h117 => ?_)
                  refine am_bind_congr fun r118 => ?_
                  show am_Ex d 276 103 [(2, x0), (2, x1), (0, x2), (0, v106), (0, x4), (0, v105), (0, r116.1)] [] r118.2 = _
                  refine (am_e0 rfl rfl).trans ?_
                  refine (am_e0 rfl rfl).trans ?_
                  refine (am_e0 rfl rfl).trans ?_
                  refine (am_i_eq rfl).trans (am_if_congr (fun c119 => ?_) (fun c119 => ?_))
                  · refine (am_e0 rfl rfl).trans ?_
                    refine (am_e1 rfl rfl).trans ?_
                    refine (am_e0 rfl rfl).trans ?_
                    refine (am_e0 rfl rfl).trans ?_
                    refine am_lets (L := fun v120 => [(2, x0), (2, x1), (0, x2), (0, v120), (0, x4), (0, v105), (0, r116.1)]) (fun v120 => ?_)
                    exact (am_e5 rfl).trans rfl
                  · refine (am_e0 rfl rfl).trans ?_
                    refine (am_e0 rfl rfl).trans ?_
                    refine (am_i_ne rfl).trans (am_if_congr (fun c121 => ?_) (fun c121 => ?_))
                    · refine (am_e0 rfl rfl).trans ?_
                      refine (am_e1 rfl rfl).trans ?_
                      refine (am_e0 rfl rfl).trans ?_
                      refine (am_e0 rfl rfl).trans ?_
                      refine am_lets (L := fun v122 => [(2, x0), (2, x1), (0, x2), (0, v122), (0, x4), (0, v105), (0, r116.1)]) (fun v122 => ?_)
                      exact (am_e5 rfl).trans rfl
                    · refine (am_e0 rfl rfl).trans ?_
                      refine (am_e0 rfl rfl).trans ?_
                      refine (am_e0 rfl rfl).trans ?_
                      refine am_lets (L := fun v123 => [(2, x0), (2, x1), (0, x2), (0, v123), (0, x4), (0, v105), (0, r116.1)]) (fun v123 => ?_)
                      exact (am_e5 rfl).trans rfl
                · refine (am_e0 rfl rfl).trans ?_
                  refine (am_cal3 (z := 237) (k := 2) (c := true) rfl rfl rfl rfl rfl rfl rfl rfl).trans ((am_g_t rfl).trans ?_)
                  refine am_bind_congr fun r124 => ?_
                  show am_Ex d 276 97 [(2, x0), (2, x1), (0, x2), (0, v106), (0, x4), (0, v105), am_N] [(0, r124.1)] r124.2 = _
                  refine (am_e0 rfl rfl).trans ?_
                  refine (am_e0 rfl rfl).trans ?_
                  refine (am_e0 rfl rfl).trans ?_
                  refine (am_e0 rfl rfl).trans ?_
                  refine (am_e0 rfl rfl).trans ?_
                  refine (am_cal3 (z := 39) (k := 4) (c := (am_ob x0 6)) rfl rfl rfl rfl rfl rfl rfl rfl).trans (am_g_congr fun h125 => ?_)
                  refine am_bind_congr fun r126 => ?_
                  show am_Ex d 276 103 [(2, x0), (2, x1), (0, x2), (0, v106), (0, x4), (0, v105), (0, r124.1)] [] r126.2 = _
                  refine (am_e0 rfl rfl).trans ?_
                  refine (am_e0 rfl rfl).trans ?_
                  refine (am_e0 rfl rfl).trans ?_
                  refine (am_i_eq rfl).trans (am_if_congr (fun c127 => ?_) (fun c127 => ?_))
                  · refine (am_e0 rfl rfl).trans ?_
                    refine (am_e1 rfl rfl).trans ?_
                    refine (am_e0 rfl rfl).trans ?_
                    refine (am_e0 rfl rfl).trans ?_
                    refine am_lets (L := fun v128 => [(2, x0), (2, x1), (0, x2), (0, v128), (0, x4), (0, v105), (0, r124.1)]) (fun v128 => ?_)
                    exact (am_e5 rfl).trans rfl
                  · refine (am_e0 rfl rfl).trans ?_
                    refine (am_e0 rfl rfl).trans ?_
                    refine (am_i_ne rfl).trans (am_if_congr (fun c129 => ?_) (fun c129 => ?_))
                    · refine (am_e0 rfl rfl).trans ?_
                      refine (am_e1 rfl rfl).trans ?_
                      refine (am_e0 rfl rfl).trans ?_
                      refine (am_e0 rfl rfl).trans ?_
                      refine am_lets (L := fun v130 => [(2, x0), (2, x1), (0, x2), (0, v130), (0, x4), (0, v105), (0, r124.1)]) (fun v130 => ?_)
                      exact (am_e5 rfl).trans rfl
                    · refine (am_e0 rfl rfl).trans ?_
                      refine (am_e0 rfl rfl).trans ?_
                      refine (am_e0 rfl rfl).trans ?_
                      refine am_lets (L := fun v131 => [(2, x0), (2, x1), (0, x2), (0, v131), (0, x4), (0, v105), (0, r124.1)]) (fun v131 => ?_)
                      exact (am_e5 rfl).trans rfl
              · refine (am_e0 rfl rfl).trans ?_
                refine (am_cal3 (z := 237) (k := 2) (c := true) rfl rfl rfl rfl rfl rfl rfl rfl).trans ((am_g_t rfl).trans ?_)
                refine am_bind_congr fun r132 => ?_
                show am_Ex d 276 97 [(2, x0), (2, x1), (0, x2), (0, v106), (0, x4), (0, v105), am_N] [(0, r132.1)] r132.2 = _
                refine (am_e0 rfl rfl).trans ?_
                refine (am_e0 rfl rfl).trans ?_
                refine (am_e0 rfl rfl).trans ?_
                refine (am_e0 rfl rfl).trans ?_
                refine (am_e0 rfl rfl).trans ?_
                refine (am_cal3 (z := 39) (k := 4) (c := (am_ob x0 6)) rfl rfl rfl rfl rfl rfl rfl rfl).trans (am_g_congr fun h133 => ?_)
                refine am_bind_congr fun r134 => ?_
                show am_Ex d 276 103 [(2, x0), (2, x1), (0, x2), (0, v106), (0, x4), (0, v105), (0, r132.1)] [] r134.2 = _
                refine (am_e0 rfl rfl).trans ?_
                refine (am_e0 rfl rfl).trans ?_
                refine (am_e0 rfl rfl).trans ?_
                refine (am_i_eq rfl).trans (am_if_congr (fun c135 => ?_) (fun c135 => ?_))
                · refine (am_e0 rfl rfl).trans ?_
                  refine (am_e1 rfl rfl).trans ?_
                  refine (am_e0 rfl rfl).trans ?_
                  refine (am_e0 rfl rfl).trans ?_
                  refine am_lets (L := fun v136 => [(2, x0), (2, x1), (0, x2), (0, v136), (0, x4), (0, v105), (0, r132.1)]) (fun v136 => ?_)
                  exact (am_e5 rfl).trans rfl
                · refine (am_e0 rfl rfl).trans ?_
                  refine (am_e0 rfl rfl).trans ?_
                  refine (am_i_ne rfl).trans (am_if_congr (fun c137 => ?_) (fun c137 => ?_))
                  · refine (am_e0 rfl rfl).trans ?_
                    refine (am_e1 rfl rfl).trans ?_
                    refine (am_e0 rfl rfl).trans ?_
                    refine (am_e0 rfl rfl).trans ?_
                    refine am_lets (L := fun v138 => [(2, x0), (2, x1), (0, x2), (0, v138), (0, x4), (0, v105), (0, r132.1)]) (fun v138 => ?_)
                    exact (am_e5 rfl).trans rfl
                  · refine (am_e0 rfl rfl).trans ?_
                    refine (am_e0 rfl rfl).trans ?_
                    refine (am_e0 rfl rfl).trans ?_
                    refine am_lets (L := fun v139 => [(2, x0), (2, x1), (0, x2), (0, v139), (0, x4), (0, v105), (0, r132.1)]) (fun v139 => ?_)
                    exact (am_e5 rfl).trans rfl
        · exact (am_e5 rfl).trans rfl
      · exact (am_e5 rfl).trans rfl
    · exact (am_e5 rfl).trans rfl
  · exact (am_e5 rfl).trans rfl
set_option maxRecDepth 10000 in
theorem aq_276_116 (d : Nat) (x0 x1 x2 x3 : Int) (M : am_M) : am_Ex d 276 116 [(2, x0), (2, x1), (0, x2), (0, x3), am_N, am_N, am_N] [] M = (am_Ex d 276 6 [(2, x0), (2, x1), (0, x2), am_N, (0, x3), am_N, am_N] [] M) := by
  refine (am_e0 rfl rfl).trans ?_
  refine (am_e0 rfl rfl).trans ?_
  refine (am_e1 rfl rfl).trans ?_
  exact (am_e5 rfl).trans rfl
set_option maxRecDepth 10000 in
theorem aq_276_53 (d : Nat) (x0 x1 x2 x3 x4 : Int) (M : am_M) : am_Ex d 276 53 [(2, x0), (2, x1), (0, x2), (0, x3), (0, x4), am_N, am_N] [] M = (if x3 < x2 then (am_g (am_ia x1) <| if x3 < am_ln x1 then (am_g (am_ar x1 22 x3) <| (am_Call d 41 [(0, am_rd M x1 x3)] M).bind fun r105 => if r105.1 = 0 then (am_Ex d 276 68 [(2, x0), (2, x1), (0, x2), (0, x3), (0, x4), am_N, am_N] [] r105.2) else (am_let (am_w32 (x3 + 1)) fun v107 => am_Ex d 276 53 [(2, x0), (2, x1), (0, x2), (0, v107), (0, x4), am_N, am_N] [] r105.2)) else (am_Ex d 276 68 [(2, x0), (2, x1), (0, x2), (0, x3), (0, x4), am_N, am_N] [] M)) else (am_Ex d 276 68 [(2, x0), (2, x1), (0, x2), (0, x3), (0, x4), am_N, am_N] [] M)) := by
  refine (am_e0 rfl rfl).trans ?_
  refine (am_e0 rfl rfl).trans ?_
  refine (am_i_ge rfl).trans (am_if_congr (fun c101 => ?_) (fun c101 => ?_))
  · refine (am_e0 rfl rfl).trans ?_
    refine (am_e0 rfl rfl).trans ?_
    refine (am_aln rfl).trans (am_g_congr fun h102 => ?_)
    refine (am_i_ge rfl).trans (am_if_congr (fun c103 => ?_) (fun c103 => ?_))
    · refine (am_e0 rfl rfl).trans ?_
      refine (am_e0 rfl rfl).trans ?_
      refine (am_cal rfl).trans (am_g_congr fun h104 => ?_)
      refine (am_cal3 (z := 41) (k := 1) (c := true) rfl rfl rfl rfl rfl rfl rfl rfl).trans ((am_g_t rfl).trans ?_)
      refine am_bind_congr fun r105 => ?_
      show am_Ex d 276 64 [(2, x0), (2, x1), (0, x2), (0, x3), (0, x4), am_N, am_N] [(0, r105.1)] r105.2 = _
      refine (am_z_eq rfl).trans (am_if_congr (fun c106 => ?_) (fun c106 => ?_))
      · exact (am_e5 rfl).trans rfl
      · refine (am_e0 rfl rfl).trans ?_
        refine am_lets (L := fun v107 => [(2, x0), (2, x1), (0, x2), (0, v107), (0, x4), am_N, am_N]) (fun v107 => ?_)
        refine (am_e1 rfl rfl).trans ?_
        exact (am_e5 rfl).trans rfl
    · exact (am_e5 rfl).trans rfl
  · exact (am_e5 rfl).trans rfl
set_option maxRecDepth 10000 in
theorem aq_276_25 (d : Nat) (x0 x1 x2 x3 x4 : Int) (M : am_M) : am_Ex d 276 25 [(2, x0), (2, x1), (0, x2), (0, x3), (0, x4), am_N, am_N] [] M = (if x3 < x2 then (am_g (am_ia x1) <| if x3 < am_ln x1 then (am_g (am_ar x1 22 x3) <| (am_Call d 40 [(0, am_rd M x1 x3)] M).bind fun r105 => if r105.1 = 0 then (am_Ex d 276 40 [(2, x0), (2, x1), (0, x2), (0, x3), (0, x4), am_N, am_N] [] r105.2) else (am_let (am_w32 (x3 + 1)) fun v107 => am_Ex d 276 25 [(2, x0), (2, x1), (0, x2), (0, v107), (0, x4), am_N, am_N] [] r105.2)) else (am_Ex d 276 40 [(2, x0), (2, x1), (0, x2), (0, x3), (0, x4), am_N, am_N] [] M)) else (am_Ex d 276 40 [(2, x0), (2, x1), (0, x2), (0, x3), (0, x4), am_N, am_N] [] M)) := by
  refine (am_e0 rfl rfl).trans ?_
  refine (am_e0 rfl rfl).trans ?_
  refine (am_i_ge rfl).trans (am_if_congr (fun c101 => ?_) (fun c101 => ?_))
  · refine (am_e0 rfl rfl).trans ?_
    refine (am_e0 rfl rfl).trans ?_
    refine (am_aln rfl).trans (am_g_congr fun h102 => ?_)
    refine (am_i_ge rfl).trans (am_if_congr (fun c103 => ?_) (fun c103 => ?_))
    · refine (am_e0 rfl rfl).trans ?_
      refine (am_e0 rfl rfl).trans ?_
      refine (am_cal rfl).trans (am_g_congr fun h104 => ?_)
      refine (am_cal3 (z := 40) (k := 1) (c := true) rfl rfl rfl rfl rfl rfl rfl rfl).trans ((am_g_t rfl).trans ?_)
      refine am_bind_congr fun r105 => ?_
      show am_Ex d 276 36 [(2, x0), (2, x1), (0, x2), (0, x3), (0, x4), am_N, am_N] [(0, r105.1)] r105.2 = _
      refine (am_z_eq rfl).trans (am_if_congr (fun c106 => ?_) (fun c106 => ?_))
      · exact (am_e5 rfl).trans rfl
      · refine (am_e0 rfl rfl).trans ?_
        refine am_lets (L := fun v107 => [(2, x0), (2, x1), (0, x2), (0, v107), (0, x4), am_N, am_N]) (fun v107 => ?_)
        refine (am_e1 rfl rfl).trans ?_
        exact (am_e5 rfl).trans rfl
    · exact (am_e5 rfl).trans rfl
  · exact (am_e5 rfl).trans rfl
set_option maxRecDepth 10000 in
theorem aq_276_120 (d : Nat) (x0 x2 : Int) (M : am_M) : am_Ex d 276 120 [(2, x0), am_N, (0, x2), am_N, am_N, am_N, am_N] [] M = (am_g (am_ob x0 6) <| (am_Call d 39 [(2, x0), (0, 44), (0, 0), (0, x2)] M).bind fun r102 => some (0, r102.2)) := by
  refine (am_e0 rfl rfl).trans ?_
  refine (am_e0 rfl rfl).trans ?_
  refine (am_e0 rfl rfl).trans ?_
  refine (am_e0 rfl rfl).trans ?_
  refine (am_cal3 (z := 39) (k := 4) (c := (am_ob x0 6)) rfl rfl rfl rfl rfl rfl rfl rfl).trans (am_g_congr fun h101 => ?_)
  refine am_bind_congr fun r102 => ?_
  show am_Ex d 276 125 [(2, x0), am_N, (0, x2), am_N, am_N, am_N, am_N] [] r102.2 = _
  exact (am_e4v rfl rfl).trans rfl
set_option maxRecDepth 10000 in
theorem aq_276_68 (d : Nat) (x0 x1 x2 x3 x4 : Int) (M : am_M) : am_Ex d 276 68 [(2, x0), (2, x1), (0, x2), (0, x3), (0, x4), am_N, am_N] [] M = ((am_Call d 42 [(2, x1), (0, x4), (0, x3)] M).bind fun r101 => am_g (am_ob x0 6) <| (am_Call d 39 [(2, x0), (0, 42), (0, r101.1), (0, x4)] r101.2).bind fun r103 => am_Ex d 276 116 [(2, x0), (2, x1), (0, x2), (0, x3), am_N, am_N, am_N] [] r103.2) := by
  refine (am_e0 rfl rfl).trans ?_
  refine (am_e0 rfl rfl).trans ?_
  refine (am_e0 rfl rfl).trans ?_
  refine (am_e0 rfl rfl).trans ?_
  refine (am_e0 rfl rfl).trans ?_
  refine (am_cal3 (z := 42) (k := 3) (c := true) rfl rfl rfl rfl rfl rfl rfl rfl).trans ((am_g_t rfl).trans ?_)
  refine am_bind_congr fun r101 => ?_
  show am_Ex d 276 74 [(2, x0), (2, x1), (0, x2), (0, x3), (0, x4), am_N, am_N] [(0, r101.1), (0, 42), (2, x0)] r101.2 = _
  refine (am_e0 rfl rfl).trans ?_
  refine (am_cal3 (z := 39) (k := 4) (c := (am_ob x0 6)) rfl rfl rfl rfl rfl rfl rfl rfl).trans (am_g_congr fun h102 => ?_)
  refine am_bind_congr fun r103 => ?_
  show am_Ex d 276 76 [(2, x0), (2, x1), (0, x2), (0, x3), (0, x4), am_N, am_N] [] r103.2 = _
  refine (am_e1 rfl rfl).trans ?_
  exact (am_e5 rfl).trans rfl
set_option maxRecDepth 10000 in
theorem aq_276_40 (d : Nat) (x0 x1 x2 x3 x4 : Int) (M : am_M) : am_Ex d 276 40 [(2, x0), (2, x1), (0, x2), (0, x3), (0, x4), am_N, am_N] [] M = ((am_Call d 257 [(2, x1), (0, x4), (0, x3)] M).bind fun r101 => am_g (am_ob x0 6) <| (am_Call d 39 [(2, x0), (0, r101.1), (0, 0), (0, x4)] r101.2).bind fun r103 => am_Ex d 276 116 [(2, x0), (2, x1), (0, x2), (0, x3), am_N, am_N, am_N] [] r103.2) := by
  refine (am_e0 rfl rfl).trans ?_
  refine (am_e0 rfl rfl).trans ?_
  refine (am_e0 rfl rfl).trans ?_
  refine (am_e0 rfl rfl).trans ?_
  refine (am_cal3 (z := 257) (k := 3) (c := true) rfl rfl rfl rfl rfl rfl rfl rfl).trans ((am_g_t rfl).trans ?_)
  refine am_bind_congr fun r101 => ?_
  show am_Ex d 276 45 [(2, x0), (2, x1), (0, x2), (0, x3), (0, x4), am_N, am_N] [(0, r101.1), (2, x0)] r101.2 = _
  refine (am_e0 rfl rfl).trans ?_
  refine (am_e0 rfl rfl).trans ?_
  refine (am_cal3 (z := 39) (k := 4) (c := (am_ob x0 6)) rfl rfl rfl rfl rfl rfl rfl rfl).trans (am_g_congr fun h102 => ?_)
  refine am_bind_congr fun r103 => ?_
  show am_Ex d 276 48 [(2, x0), (2, x1), (0, x2), (0, x3), (0, x4), am_N, am_N] [] r103.2 = _
  refine (am_e1 rfl rfl).trans ?_
  exact (am_e5 rfl).trans rfl
-- 277: UnlearnedHand.passNights(I)Z
set_option maxRecDepth 10000 in
theorem aq_277 (d : Nat) (x0 x1 : Int) (M : am_M) : am_Call d 277 [(2, x0), (0, x1)] M = (am_g (am_ob x0 10) <| am_g (am_ob (am_rd M x0 2) 3) <| am_let (min x1 (am_w32 (999 - (am_rd M (am_rd M x0 2) 6)))) fun v103 => am_Ex d 277 11 [(2, x0), (0, x1), (0, v103), (0, 0)] [] M) := by
  show am_Ex d 277 0 [(2, x0), (0, x1), am_N, am_N] [] M = _
  refine (am_e0 rfl rfl).trans ?_
  refine (am_e0 rfl rfl).trans ?_
  refine (am_e0 rfl rfl).trans ?_
  refine (am_gf (c := 10) (t := 2) rfl rfl rfl).trans (am_g_congr fun h101 => ?_)
  refine (am_gf (c := 3) (t := 0) rfl rfl rfl).trans (am_g_congr fun h102 => ?_)
  refine (am_e0 rfl rfl).trans ?_
  refine (am_e10 (w := min x1 (am_w32 (999 - (am_rd M (am_rd M x0 2) 6)))) rfl rfl rfl).trans ?_
  refine (am_e0 rfl rfl).trans ?_
  refine am_lets (L := fun v103 => [(2, x0), (0, x1), (0, v103), am_N]) (fun v103 => ?_)
  refine (am_e0 rfl rfl).trans ?_
  refine (am_e0 rfl rfl).trans ?_
  exact (am_e5 rfl).trans rfl
set_option maxRecDepth 10000 in
theorem aq_277_11 (d : Nat) (x0 x1 x2 x3 : Int) (M : am_M) : am_Ex d 277 11 [(2, x0), (0, x1), (0, x2), (0, x3)] [] M = (if x3 < x2 then (am_g (am_ob x0 10) <| am_g (am_ob (am_rd M x0 4) 9) <| (am_Call d 134 [(2, am_rd M x0 4), (2, am_rd M x0 2)] M).bind fun r104 => am_g (am_ob (am_rd r104.2 x0 0) 2) <| am_g (am_ob (am_rd r104.2 x0 11) 0) <| (am_Call d 256 [(2, am_rd r104.2 x0 11), (2, am_rd r104.2 x0 2), (0, 0), (0, am_rd r104.2 (am_rd r104.2 x0 0) 6)] r104.2).bind fun r107 => am_let (am_w32 (x3 + 1)) fun v108 => am_Ex d 277 11 [(2, x0), (0, x1), (0, x2), (0, v108)] [] r107.2) else (if x2 = x1 then (some (1, M)) else (some (0, M)))) := by
  refine (am_e0 rfl rfl).trans ?_
  refine (am_e0 rfl rfl).trans ?_
  refine (am_i_ge rfl).trans (am_if_congr (fun c101 => ?_) (fun c101 => ?_))
  · refine (am_e0 rfl rfl).trans ?_
    refine (am_gf (c := 10) (t := 2) rfl rfl rfl).trans (am_g_congr fun h102 => ?_)
    refine (am_e0 rfl rfl).trans ?_
    refine (am_gf (c := 10) (t := 2) rfl rfl rfl).trans ((am_g_t h102).trans ?_)
    refine (am_cal3 (z := 134) (k := 2) (c := (am_ob (am_rd M x0 4) 9)) rfl rfl rfl rfl rfl rfl rfl rfl).trans (am_g_congr fun h103 => ?_)
    refine am_bind_congr fun r104 => ?_
    show am_Ex d 277 19 [(2, x0), (0, x1), (0, x2), (0, x3)] [] r104.2 = _
    refine (am_e0 rfl rfl).trans ?_
    refine (am_gf (c := 10) (t := 2) rfl rfl rfl).trans ((am_g_t h102).trans ?_)
    refine (am_e0 rfl rfl).trans ?_
    refine (am_gf (c := 10) (t := 2) rfl rfl rfl).trans ((am_g_t h102).trans ?_)
    refine (am_e0 rfl rfl).trans ?_
    refine (am_e0 rfl rfl).trans ?_
    refine (am_gf (c := 10) (t := 2) rfl rfl rfl).trans ((am_g_t h102).trans ?_)
    refine (am_gf (c := 2) (t := 0) rfl rfl rfl).trans (am_g_congr fun h105 => ?_)
    refine (am_cal3 (z := 256) (k := 4) (c := (am_ob (am_rd r104.2 x0 11) 0)) rfl rfl rfl rfl rfl rfl rfl rfl).trans (am_g_congr fun h106 => ?_)
    refine am_bind_congr fun r107 => ?_
    show am_Ex d 277 28 [(2, x0), (0, x1), (0, x2), (0, x3)] [] r107.2 = _
    refine (am_e0 rfl rfl).trans ?_
    refine am_lets (L := fun v108 => [(2, x0), (0, x1), (0, x2), (0, v108)]) (fun v108 => ?_)
    refine (am_e1 rfl rfl).trans ?_
    exact (am_e5 rfl).trans rfl
  · refine (am_e0 rfl rfl).trans ?_
    refine (am_e0 rfl rfl).trans ?_
    refine (am_i_ne rfl).trans (am_if_congr (fun c109 => ?_) (fun c109 => ?_))
    · refine (am_e0 rfl rfl).trans ?_
      refine (am_e1 rfl rfl).trans ?_
      exact (am_e4i rfl rfl).trans rfl
    · refine (am_e0 rfl rfl).trans ?_
      exact (am_e4i rfl rfl).trans rfl
-- 278: UnlearnedHand.playDeed(LUnlearnedHand$Script;I)Z
set_option maxRecDepth 10000 in
theorem aq_278 (d : Nat) (x0 x1 x2 : Int) (M : am_M) : am_Call d 278 [(2, x0), (2, x1), (0, x2)] M = (am_g (am_ob x1 8) <| (am_Call d 58 [(2, x1), (0, x2), (0, 0)] M).bind fun r102 => (am_Call d 58 [(2, x1), (0, x2), (0, 1)] r102.2).bind fun r103 => (am_Call d 58 [(2, x1), (0, x2), (0, 2)] r103.2).bind fun r104 => (am_Call d 57 [(2, x1), (0, x2)] r104.2).bind fun r105 => if r105.1 = 4 then (am_g (am_ob x0 10) <| (am_Call d 184 [(2, x0), (0, r102.1), (0, r103.1), (0, r104.1)] r105.2).bind fun r108 => if r108.1 = (-1) then (some (0, r108.2)) else (some (1, r108.2))) else if r105.1 = 5 then (am_g (am_ob x0 10) <| (am_Call d 242 [(2, x0), (0, r102.1), (0, r103.1), (0, r104.1)] r105.2).bind fun r112 => if r112.1 = (-1) then (some (0, r112.2)) else (some (1, r112.2))) else if r105.1 = 6 then (am_g (am_ob x0 10) <| (am_Call d 212 [(2, x0), (0, r102.1)] r105.2).bind fun r116 => am_g (r116.1 == 0 || r116.1 == 1) (some (r116.1, r116.2))) else if r105.1 = 7 then (am_g (am_ob x0 10) <| am_g (am_ob (am_rd r105.2 x0 2) 3) <| (am_Call d 117 [(2, am_rd r105.2 x0 2), (0, r102.1), (0, r103.1)] r105.2).bind fun r120 => if r120.1 = 0 then ((am_Call d 185 [(2, x0), (0, r102.1), (0, r103.1), (0, 1)] r120.2).bind fun r122 => am_g (r122.1 == 0 || r122.1 == 1) (some (r122.1, r122.2))) else ((am_Call d 185 [(2, x0), (0, r102.1), (0, r103.1), (0, 0)] r120.2).bind fun r123 => am_g (r123.1 == 0 || r123.1 == 1) (some (r123.1, r123.2)))) else if r105.1 = 8 then (am_g (am_ob x0 10) <| (am_Call d 186 [(2, x0), (0, r102.1), (0, r103.1)] r105.2).bind fun r126 => am_g (r126.1 == 0 || r126.1 == 1) (some (r126.1, r126.2))) else if r105.1 = 9 then (am_g (am_ob x0 10) <| (am_Call d 213 [(2, x0), (0, r103.1), (0, r102.1)] r105.2).bind fun r129 => if r129.1 = (-1) then (some (0, r129.2)) else (some (1, r129.2))) else if r105.1 = 10 then (am_g (am_ob x0 10) <| (am_Call d 261 [(2, x0), (0, r102.1)] r105.2).bind fun r133 => if r133.1 = (-1) then (some (0, r133.2)) else (some (1, r133.2))) else (some (1, r105.2))) := by
  show am_Ex d 278 0 [(2, x0), (2, x1), (0, x2), am_N, am_N, am_N] [] M = _
  refine (am_e0 rfl rfl).trans ?_
  refine (am_e0 rfl rfl).trans ?_
  refine (am_e0 rfl rfl).trans ?_
  refine (am_cal3 (z := 58) (k := 3) (c := (am_ob x1 8)) rfl rfl rfl rfl rfl rfl rfl rfl).trans (am_g_congr fun h101 => ?_)
  refine am_bind_congr fun r102 => ?_
  show am_Ex d 278 4 [(2, x0), (2, x1), (0, x2), am_N, am_N, am_N] [(0, r102.1)] r102.2 = _
  refine (am_e0 rfl rfl).trans ?_
  refine (am_e0 rfl rfl).trans ?_
  refine (am_e0 rfl rfl).trans ?_
  refine (am_e0 rfl rfl).trans ?_
  refine (am_cal3 (z := 58) (k := 3) (c := (am_ob x1 8)) rfl rfl rfl rfl rfl rfl rfl rfl).trans ((am_g_t h101).trans ?_)
  refine am_bind_congr fun r103 => ?_
  show am_Ex d 278 9 [(2, x0), (2, x1), (0, x2), (0, r102.1), am_N, am_N] [(0, r103.1)] r103.2 = _
  refine (am_e0 rfl rfl).trans ?_
  refine (am_e0 rfl rfl).trans ?_
  refine (am_e0 rfl rfl).trans ?_
  refine (am_e0 rfl rfl).trans ?_
  refine (am_cal3 (z := 58) (k := 3) (c := (am_ob x1 8)) rfl rfl rfl rfl rfl rfl rfl rfl).trans ((am_g_t h101).trans ?_)
  refine am_bind_congr fun r104 => ?_
  show am_Ex d 278 14 [(2, x0), (2, x1), (0, x2), (0, r102.1), (0, r103.1), am_N] [(0, r104.1)] r104.2 = _
  refine (am_e0 rfl rfl).trans ?_
  refine (am_e0 rfl rfl).trans ?_
  refine (am_e0 rfl rfl).trans ?_
  refine (am_cal3 (z := 57) (k := 2) (c := (am_ob x1 8)) rfl rfl rfl rfl rfl rfl rfl rfl).trans ((am_g_t h101).trans ?_)
  refine am_bind_congr fun r105 => ?_
  show am_Ex d 278 18 [(2, x0), (2, x1), (0, x2), (0, r102.1), (0, r103.1), (0, r104.1)] [(0, r105.1)] r105.2 = _
  refine (am_tsw rfl).trans ?_
  refine (am_sw_c).trans (am_if_congr (fun c106 => ?_) (fun c106 => ?_))
  · refine (am_e0 rfl rfl).trans ?_
    refine (am_e0 rfl rfl).trans ?_
    refine (am_e0 rfl rfl).trans ?_
    refine (am_e0 rfl rfl).trans ?_
    refine (am_cal3 (z := 184) (k := 4) (c := (am_ob x0 10)) rfl rfl rfl rfl rfl rfl rfl rfl).trans (am_g_congr fun h107 => ?_)
    refine am_bind_congr fun r108 => ?_
    show am_Ex d 278 24 [(2, x0), (2, x1), (0, x2), (0, r102.1), (0, r103.1), (0, r104.1)] [(0, r108.1)] r108.2 = _
    refine (am_e0 rfl rfl).trans ?_
    refine (am_i_eq rfl).trans (am_if_congr (fun c109 => ?_) (fun c109 => ?_))
    · refine (am_e0 rfl rfl).trans ?_
      exact (am_e4i rfl rfl).trans rfl
    · refine (am_e0 rfl rfl).trans ?_
      refine (am_e1 rfl rfl).trans ?_
      exact (am_e4i rfl rfl).trans rfl
  refine (am_sw_c).trans (am_if_congr (fun c110 => ?_) (fun c110 => ?_))
  · refine (am_e0 rfl rfl).trans ?_
    refine (am_e0 rfl rfl).trans ?_
    refine (am_e0 rfl rfl).trans ?_
    refine (am_e0 rfl rfl).trans ?_
    refine (am_cal3 (z := 242) (k := 4) (c := (am_ob x0 10)) rfl rfl rfl rfl rfl rfl rfl rfl).trans (am_g_congr fun h111 => ?_)
    refine am_bind_congr fun r112 => ?_
    show am_Ex d 278 35 [(2, x0), (2, x1), (0, x2), (0, r102.1), (0, r103.1), (0, r104.1)] [(0, r112.1)] r112.2 = _
    refine (am_e0 rfl rfl).trans ?_
    refine (am_i_eq rfl).trans (am_if_congr (fun c113 => ?_) (fun c113 => ?_))
    · refine (am_e0 rfl rfl).trans ?_
      exact (am_e4i rfl rfl).trans rfl
    · refine (am_e0 rfl rfl).trans ?_
      refine (am_e1 rfl rfl).trans ?_
      exact (am_e4i rfl rfl).trans rfl
  refine (am_sw_c).trans (am_if_congr (fun c114 => ?_) (fun c114 => ?_))
  · refine (am_e0 rfl rfl).trans ?_
    refine (am_e0 rfl rfl).trans ?_
    refine (am_cal3 (z := 212) (k := 2) (c := (am_ob x0 10)) rfl rfl rfl rfl rfl rfl rfl rfl).trans (am_g_congr fun h115 => ?_)
    refine am_bind_congr fun r116 => ?_
    show am_Ex d 278 44 [(2, x0), (2, x1), (0, x2), (0, r102.1), (0, r103.1), (0, r104.1)] [(0, r116.1)] r116.2 = _
    exact (am_e4z rfl rfl).trans rfl
  refine (am_sw_c).trans (am_if_congr (fun c117 => ?_) (fun c117 => ?_))
  · refine (am_e0 rfl rfl).trans ?_
    refine (am_e0 rfl rfl).trans ?_
    refine (am_e0 rfl rfl).trans ?_
    refine (am_e0 rfl rfl).trans ?_
    refine (am_gf (c := 10) (t := 2) rfl rfl rfl).trans (am_g_congr fun h118 => ?_)
    refine (am_e0 rfl rfl).trans ?_
    refine (am_e0 rfl rfl).trans ?_
    refine (am_cal3 (z := 117) (k := 3) (c := (am_ob (am_rd r105.2 x0 2) 3)) rfl rfl rfl rfl rfl rfl rfl rfl).trans (am_g_congr fun h119 => ?_)
    refine am_bind_congr fun r120 => ?_
    show am_Ex d 278 53 [(2, x0), (2, x1), (0, x2), (0, r102.1), (0, r103.1), (0, r104.1)] [(0, r120.1), (0, r103.1), (0, r102.1), (2, x0)] r120.2 = _
    refine (am_z_ne rfl).trans (am_if_congr (fun c121 => ?_) (fun c121 => ?_))
    · refine (am_e0 rfl rfl).trans ?_
      refine (am_e1 rfl rfl).trans ?_
      refine (am_cal3 (z := 185) (k := 4) (c := (am_ob x0 10)) rfl rfl rfl rfl rfl rfl rfl rfl).trans ((am_g_t h118).trans ?_)
      refine am_bind_congr fun r122 => ?_
      show am_Ex d 278 58 [(2, x0), (2, x1), (0, x2), (0, r102.1), (0, r103.1), (0, r104.1)] [(0, r122.1)] r122.2 = _
      exact (am_e4z rfl rfl).trans rfl
    · refine (am_e0 rfl rfl).trans ?_
      refine (am_cal3 (z := 185) (k := 4) (c := (am_ob x0 10)) rfl rfl rfl rfl rfl rfl rfl rfl).trans ((am_g_t h118).trans ?_)
      refine am_bind_congr fun r123 => ?_
      show am_Ex d 278 58 [(2, x0), (2, x1), (0, x2), (0, r102.1), (0, r103.1), (0, r104.1)] [(0, r123.1)] r123.2 = _
      exact (am_e4z rfl rfl).trans rfl
  refine (am_sw_c).trans (am_if_congr (fun c124 => ?_) (fun c124 => ?_))
  · refine (am_e0 rfl rfl).trans ?_
    refine (am_e0 rfl rfl).trans ?_
    refine (am_e0 rfl rfl).trans ?_
    refine (am_cal3 (z := 186) (k := 3) (c := (am_ob x0 10)) rfl rfl rfl rfl rfl rfl rfl rfl).trans (am_g_congr fun h125 => ?_)
    refine am_bind_congr fun r126 => ?_
    show am_Ex d 278 63 [(2, x0), (2, x1), (0, x2), (0, r102.1), (0, r103.1), (0, r104.1)] [(0, r126.1)] r126.2 = _
    exact (am_e4z rfl rfl).trans rfl
  refine (am_sw_c).trans (am_if_congr (fun c127 => ?_) (fun c127 => ?_))
  · refine (am_e0 rfl rfl).trans ?_
    refine (am_e0 rfl rfl).trans ?_
    refine (am_e0 rfl rfl).trans ?_
    refine (am_cal3 (z := 213) (k := 3) (c := (am_ob x0 10)) rfl rfl rfl rfl rfl rfl rfl rfl).trans (am_g_congr fun h128 => ?_)
    refine am_bind_congr fun r129 => ?_
    show am_Ex d 278 68 [(2, x0), (2, x1), (0, x2), (0, r102.1), (0, r103.1), (0, r104.1)] [(0, r129.1)] r129.2 = _
    refine (am_e0 rfl rfl).trans ?_
    refine (am_i_eq rfl).trans (am_if_congr (fun c130 => ?_) (fun c130 => ?_))
    · refine (am_e0 rfl rfl).trans ?_
      exact (am_e4i rfl rfl).trans rfl
    · refine (am_e0 rfl rfl).trans ?_
      refine (am_e1 rfl rfl).trans ?_
      exact (am_e4i rfl rfl).trans rfl
  refine (am_sw_c).trans (am_if_congr (fun c131 => ?_) (fun c131 => ?_))
  · refine (am_e0 rfl rfl).trans ?_
    refine (am_e0 rfl rfl).trans ?_
    refine (am_cal3 (z := 261) (k := 2) (c := (am_ob x0 10)) rfl rfl rfl rfl rfl rfl rfl rfl).trans (am_g_congr fun h132 => ?_)
    refine am_bind_congr fun r133 => ?_
    show am_Ex d 278 77 [(2, x0), (2, x1), (0, x2), (0, r102.1), (0, r103.1), (0, r104.1)] [(0, r133.1)] r133.2 = _
    refine (am_e0 rfl rfl).trans ?_
    refine (am_i_eq rfl).trans (am_if_congr (fun c134 => ?_) (fun c134 => ?_))
    · refine (am_e0 rfl rfl).trans ?_
      exact (am_e4i rfl rfl).trans rfl
    · refine (am_e0 rfl rfl).trans ?_
      refine (am_e1 rfl rfl).trans ?_
      exact (am_e4i rfl rfl).trans rfl
  refine (am_sw_n).trans ?_
  refine (am_e0 rfl rfl).trans ?_
  exact (am_e4i rfl rfl).trans rfl
-- 279: UnlearnedHand.spies(I)I
set_option maxRecDepth 10000 in
theorem aq_279 (d : Nat) (x0 x1 : Int) (M : am_M) : am_Call d 279 [(2, x0), (0, x1)] M = (am_g (am_ob x0 10) <| am_g (am_ob (am_rd M x0 0) 2) <| (am_Call d 108 [(2, am_rd M x0 0), (0, x1)] M).bind fun r103 => if r103.1 = 0 then (some ((-1), r103.2)) else (am_g (am_ob (am_rd r103.2 x0 13) 7) <| (am_Call d 259 [(2, am_rd r103.2 x0 13), (0, x1)] r103.2).bind fun r106 => some (r106.1, r106.2))) := by
  show am_Ex d 279 0 [(2, x0), (0, x1)] [] M = _
  refine (am_e0 rfl rfl).trans ?_
  refine (am_gf (c := 10) (t := 2) rfl rfl rfl).trans (am_g_congr fun h101 => ?_)
  refine (am_e0 rfl rfl).trans ?_
  refine (am_cal3 (z := 108) (k := 2) (c := (am_ob (am_rd M x0 0) 2)) rfl rfl rfl rfl rfl rfl rfl rfl).trans (am_g_congr fun h102 => ?_)
  refine am_bind_congr fun r103 => ?_
  show am_Ex d 279 4 [(2, x0), (0, x1)] [(0, r103.1)] r103.2 = _
  refine (am_z_eq rfl).trans (am_if_congr (fun c104 => ?_) (fun c104 => ?_))
  · refine (am_e0 rfl rfl).trans ?_
    exact (am_e4i rfl rfl).trans rfl
  · refine (am_e0 rfl rfl).trans ?_
    refine (am_gf (c := 10) (t := 2) rfl rfl rfl).trans ((am_g_t h101).trans ?_)
    refine (am_e0 rfl rfl).trans ?_
    refine (am_cal3 (z := 259) (k := 2) (c := (am_ob (am_rd r103.2 x0 13) 7)) rfl rfl rfl rfl rfl rfl rfl rfl).trans (am_g_congr fun h105 => ?_)
    refine am_bind_congr fun r106 => ?_
    show am_Ex d 279 9 [(2, x0), (0, x1)] [(0, r106.1)] r106.2 = _
    refine (am_e1 rfl rfl).trans ?_
    exact (am_e4i rfl rfl).trans rfl
-- 280: UnlearnedHand.sold(I)I
set_option maxRecDepth 10000 in
theorem aq_280 (d : Nat) (x0 x1 : Int) (M : am_M) : am_Call d 280 [(2, x0), (0, x1)] M = (if x1 < 1 then (am_Ex d 280 7 [am_N, am_N] [] M) else (if x1 ≤ 6 then (am_g (am_ob x0 10) <| am_g (am_ob (am_rd M x0 13) 7) <| (am_Call d 260 [(2, am_rd M x0 13), (0, x1)] M).bind fun r105 => some (r105.1, r105.2)) else (am_Ex d 280 7 [am_N, am_N] [] M))) := by
  show am_Ex d 280 0 [(2, x0), (0, x1)] [] M = _
  refine (am_e0 rfl rfl).trans ?_
  refine (am_e0 rfl rfl).trans ?_
  refine (am_i_lt rfl).trans (am_if_congr (fun c101 => ?_) (fun c101 => ?_))
  · exact (am_e5 rfl).trans rfl
  · refine (am_e0 rfl rfl).trans ?_
    refine (am_e0 rfl rfl).trans ?_
    refine (am_i_le rfl).trans (am_if_congr (fun c102 => ?_) (fun c102 => ?_))
    · refine (am_e0 rfl rfl).trans ?_
      refine (am_gf (c := 10) (t := 2) rfl rfl rfl).trans (am_g_congr fun h103 => ?_)
      refine (am_e0 rfl rfl).trans ?_
      refine (am_cal3 (z := 260) (k := 2) (c := (am_ob (am_rd M x0 13) 7)) rfl rfl rfl rfl rfl rfl rfl rfl).trans (am_g_congr fun h104 => ?_)
      refine am_bind_congr fun r105 => ?_
      show am_Ex d 280 13 [(2, x0), (0, x1)] [(0, r105.1)] r105.2 = _
      exact (am_e4i rfl rfl).trans rfl
    · exact (am_e5 rfl).trans rfl
set_option maxRecDepth 10000 in
theorem aq_280_7 (d : Nat) (M : am_M) : am_Ex d 280 7 [am_N, am_N] [] M = (some ((-1), M)) := by
  refine (am_e0 rfl rfl).trans ?_
  refine (am_e1 rfl rfl).trans ?_
  exact (am_e4i rfl rfl).trans rfl
-- 281: UnlearnedHandModel.clause()V
set_option maxRecDepth 10000 in
theorem aq_281 (d : Nat) (x0 : Int) (M : am_M) : am_Call d 281 [(2, x0)] M = (am_g (am_ob x0 11) <| if am_rd M x0 17 = 1 then (if am_rd M x0 18 ≤ 11 then (am_let (am_wr M x0 30 (am_rd M x0 18)) fun M104 => if am_rd M104 x0 30 ≤ 3 then ((am_Call d 82 [(2, x0), (0, am_rd M104 x0 30)] M104).bind fun r106 => if r106.1 = 0 then (am_Ex d 281 31 [(2, x0)] [] r106.2) else ((am_Call d 74 [(2, x0), (0, 4)] r106.2).bind fun r108 => am_Ex d 281 39 [(2, x0)] [] r108.2)) else (am_Ex d 281 31 [(2, x0)] [] M104)) else (am_Ex d 281 9 [(2, x0)] [] M)) else (am_Ex d 281 9 [(2, x0)] [] M)) := by
  show am_Ex d 281 0 [(2, x0)] [] M = _
  refine (am_e0 rfl rfl).trans ?_
  refine (am_gf (c := 11) (t := 0) rfl rfl rfl).trans (am_g_congr fun h101 => ?_)
  refine (am_e0 rfl rfl).trans ?_
  refine (am_i_ne rfl).trans (am_if_congr (fun c102 => ?_) (fun c102 => ?_))
  · refine (am_e0 rfl rfl).trans ?_
    refine (am_gf (c := 11) (t := 0) rfl rfl rfl).trans ((am_g_t h101).trans ?_)
    refine (am_e0 rfl rfl).trans ?_
    refine (am_i_le rfl).trans (am_if_congr (fun c103 => ?_) (fun c103 => ?_))
    · refine (am_e0 rfl rfl).trans ?_
      refine (am_e0 rfl rfl).trans ?_
      refine (am_gf (c := 11) (t := 0) rfl rfl rfl).trans ((am_g_t h101).trans ?_)
      refine (am_pf (c := 11) rfl rfl rfl).trans ((am_g_t h101).trans ?_)
      refine am_letm (fun M104 => ?_)
      refine (am_e0 rfl rfl).trans ?_
      refine (am_gf (c := 11) (t := 0) rfl rfl rfl).trans ((am_g_t h101).trans ?_)
      refine (am_e0 rfl rfl).trans ?_
      refine (am_i_gt rfl).trans (am_if_congr (fun c105 => ?_) (fun c105 => ?_))
      · refine (am_e0 rfl rfl).trans ?_
        refine (am_e0 rfl rfl).trans ?_
        refine (am_gf (c := 11) (t := 0) rfl rfl rfl).trans ((am_g_t h101).trans ?_)
        refine (am_cal3 (z := 82) (k := 2) (c := (am_ob x0 11)) rfl rfl rfl rfl rfl rfl rfl rfl).trans ((am_g_t h101).trans ?_)
        refine am_bind_congr fun r106 => ?_
        show am_Ex d 281 25 [(2, x0)] [(0, r106.1)] r106.2 = _
        refine (am_z_eq rfl).trans (am_if_congr (fun c107 => ?_) (fun c107 => ?_))
        · exact (am_e5 rfl).trans rfl
        · refine (am_e0 rfl rfl).trans ?_
          refine (am_e0 rfl rfl).trans ?_
          refine (am_cal3 (z := 74) (k := 2) (c := (am_ob x0 11)) rfl rfl rfl rfl rfl rfl rfl rfl).trans ((am_g_t h101).trans ?_)
          refine am_bind_congr fun r108 => ?_
          show am_Ex d 281 29 [(2, x0)] [] r108.2 = _
          refine (am_e1 rfl rfl).trans ?_
          exact (am_e5 rfl).trans rfl
      · exact (am_e5 rfl).trans rfl
    · exact (am_e5 rfl).trans rfl
  · exact (am_e5 rfl).trans rfl
set_option maxRecDepth 10000 in
theorem aq_281_31 (d : Nat) (x0 : Int) (M : am_M) : am_Ex d 281 31 [(2, x0)] [] M = (am_g (am_ob x0 11) <| if am_rd M x0 29 = 24 then ((am_Call d 74 [(2, x0), (0, 6)] M).bind fun r103 => am_Ex d 281 39 [(2, x0)] [] r103.2) else (am_Ex d 281 39 [(2, x0)] [] M)) := by
  refine (am_e0 rfl rfl).trans ?_
  refine (am_gf (c := 11) (t := 0) rfl rfl rfl).trans (am_g_congr fun h101 => ?_)
  refine (am_e0 rfl rfl).trans ?_
  refine (am_i_ne rfl).trans (am_if_congr (fun c102 => ?_) (fun c102 => ?_))
  · refine (am_e0 rfl rfl).trans ?_
    refine (am_e0 rfl rfl).trans ?_
    refine (am_cal3 (z := 74) (k := 2) (c := (am_ob x0 11)) rfl rfl rfl rfl rfl rfl rfl rfl).trans ((am_g_t h101).trans ?_)
    refine am_bind_congr fun r103 => ?_
    show am_Ex d 281 38 [(2, x0)] [] r103.2 = _
    exact (am_e5 rfl).trans rfl
  · exact (am_e5 rfl).trans rfl
set_option maxRecDepth 10000 in
theorem aq_281_39 (d : Nat) (x0 : Int) (M : am_M) : am_Ex d 281 39 [(2, x0)] [] M = (am_g (am_ob x0 11) <| if am_rd M x0 19 ≤ 0 then (am_g (am_ar (am_rd M x0 31) 20 (am_rd M x0 29)) <| am_let (am_wr M (am_rd M x0 31) (am_rd M x0 29) (am_rd M x0 30)) fun M104 => am_g (am_ar (am_rd M104 x0 32) 20 (am_rd M104 x0 29)) <| am_let (am_wr M104 (am_rd M104 x0 32) (am_rd M104 x0 29) (am_rd M104 x0 36)) fun M106 => (am_Call d 194 [(2, x0)] M106).bind fun r107 => if am_rd r107.2 x0 30 ≤ 3 then (if am_rd r107.2 x0 30 = 0 then ((am_Call d 76 [(2, x0), (0, 2)] r107.2).bind fun r110 => if am_rd r110.2 x0 30 = 0 then (am_let (am_wr r110.2 x0 28 0) fun M112 => some (0, M112)) else (am_let (am_wr r110.2 x0 28 1) fun M113 => some (0, M113))) else ((am_Call d 76 [(2, x0), (0, 1)] r107.2).bind fun r114 => if am_rd r114.2 x0 30 = 0 then (am_let (am_wr r114.2 x0 28 0) fun M116 => some (0, M116)) else (am_let (am_wr r114.2 x0 28 1) fun M117 => some (0, M117)))) else ((am_Call d 264 [(2, x0)] r107.2).bind fun r118 => if am_rd r118.2 x0 19 = 0 then ((am_Call d 72 [(2, x0), (0, 59)] r118.2).bind fun r120 => if r120.1 = 0 then ((am_Call d 74 [(2, x0), (0, 1)] r120.2).bind fun r122 => am_Ex d 281 93 [(2, x0)] [] r122.2) else (am_Ex d 281 93 [(2, x0)] [] r120.2)) else (am_Ex d 281 93 [(2, x0)] [] r118.2))) else (some (0, M))) := by
  refine (am_e0 rfl rfl).trans ?_
  refine (am_gf (c := 11) (t := 0) rfl rfl rfl).trans (am_g_congr fun h101 => ?_)
  refine (am_z_le rfl).trans (am_if_congr (fun c102 => ?_) (fun c102 => ?_))
  · refine (am_e0 rfl rfl).trans ?_
    refine (am_gf (c := 11) (t := 2) rfl rfl rfl).trans ((am_g_t h101).trans ?_)
    refine (am_e0 rfl rfl).trans ?_
    refine (am_gf (c := 11) (t := 0) rfl rfl rfl).trans ((am_g_t h101).trans ?_)
    refine (am_e0 rfl rfl).trans ?_
    refine (am_gf (c := 11) (t := 0) rfl rfl rfl).trans ((am_g_t h101).trans ?_)
    refine (am_ias rfl).trans (am_g_congr fun h103 => ?_)
    refine am_letm (fun M104 => ?_)
    refine (am_e0 rfl rfl).trans ?_
    refine (am_gf (c := 11) (t := 2) rfl rfl rfl).trans ((am_g_t h101).trans ?_)
    refine (am_e0 rfl rfl).trans ?_
    refine (am_gf (c := 11) (t := 0) rfl rfl rfl).trans ((am_g_t h101).trans ?_)
    refine (am_e0 rfl rfl).trans ?_
    refine (am_gf (c := 11) (t := 0) rfl rfl rfl).trans ((am_g_t h101).trans ?_)
    refine (am_ias rfl).trans (am_g_congr fun h105 => ?_)
    refine am_letm (fun M106 => ?_)
    refine (am_e0 rfl rfl).trans ?_
    refine (am_cal3 (z := 194) (k := 1) (c := (am_ob x0 11)) rfl rfl rfl rfl rfl rfl rfl rfl).trans ((am_g_t h101).trans ?_)
    refine am_bind_congr fun r107 => ?_
    show am_Ex d 281 59 [(2, x0)] [] r107.2 = _
    refine (am_e0 rfl rfl).trans ?_
    refine (am_gf (c := 11) (t := 0) rfl rfl rfl).trans ((am_g_t h101).trans ?_)
    refine (am_e0 rfl rfl).trans ?_
    refine (am_i_gt rfl).trans (am_if_congr (fun c108 => ?_) (fun c108 => ?_))
    · refine (am_e0 rfl rfl).trans ?_
      refine (am_e0 rfl rfl).trans ?_
      refine (am_gf (c := 11) (t := 0) rfl rfl rfl).trans ((am_g_t h101).trans ?_)
      refine (am_z_ne rfl).trans (am_if_congr (fun c109 => ?_) (fun c109 => ?_))
      · refine (am_e0 rfl rfl).trans ?_
        refine (am_e1 rfl rfl).trans ?_
        refine (am_cal3 (z := 76) (k := 2) (c := (am_ob x0 11)) rfl rfl rfl rfl rfl rfl rfl rfl).trans ((am_g_t h101).trans ?_)
        refine am_bind_congr fun r110 => ?_
        show am_Ex d 281 71 [(2, x0)] [] r110.2 = _
        refine (am_e0 rfl rfl).trans ?_
        refine (am_e0 rfl rfl).trans ?_
        refine (am_gf (c := 11) (t := 0) rfl rfl rfl).trans ((am_g_t h101).trans ?_)
        refine (am_z_ne rfl).trans (am_if_congr (fun c111 => ?_) (fun c111 => ?_))
        · refine (am_e0 rfl rfl).trans ?_
          refine (am_e1 rfl rfl).trans ?_
          refine (am_pf (c := 11) rfl rfl rfl).trans ((am_g_t h101).trans ?_)
          refine am_letm (fun M112 => ?_)
          exact (am_e4v rfl rfl).trans rfl
        · refine (am_e0 rfl rfl).trans ?_
          refine (am_pf (c := 11) rfl rfl rfl).trans ((am_g_t h101).trans ?_)
          refine am_letm (fun M113 => ?_)
          exact (am_e4v rfl rfl).trans rfl
      · refine (am_e0 rfl rfl).trans ?_
        refine (am_cal3 (z := 76) (k := 2) (c := (am_ob x0 11)) rfl rfl rfl rfl rfl rfl rfl rfl).trans ((am_g_t h101).trans ?_)
        refine am_bind_congr fun r114 => ?_
        show am_Ex d 281 71 [(2, x0)] [] r114.2 = _
        refine (am_e0 rfl rfl).trans ?_
        refine (am_e0 rfl rfl).trans ?_
        refine (am_gf (c := 11) (t := 0) rfl rfl rfl).trans ((am_g_t h101).trans ?_)
        refine (am_z_ne rfl).trans (am_if_congr (fun c115 => ?_) (fun c115 => ?_))
        · refine (am_e0 rfl rfl).trans ?_
          refine (am_e1 rfl rfl).trans ?_
          refine (am_pf (c := 11) rfl rfl rfl).trans ((am_g_t h101).trans ?_)
          refine am_letm (fun M116 => ?_)
          exact (am_e4v rfl rfl).trans rfl
        · refine (am_e0 rfl rfl).trans ?_
          refine (am_pf (c := 11) rfl rfl rfl).trans ((am_g_t h101).trans ?_)
          refine am_letm (fun M117 => ?_)
          exact (am_e4v rfl rfl).trans rfl
    · refine (am_e0 rfl rfl).trans ?_
      refine (am_cal3 (z := 264) (k := 1) (c := (am_ob x0 11)) rfl rfl rfl rfl rfl rfl rfl rfl).trans ((am_g_t h101).trans ?_)
      refine am_bind_congr fun r118 => ?_
      show am_Ex d 281 82 [(2, x0)] [] r118.2 = _
      refine (am_e0 rfl rfl).trans ?_
      refine (am_gf (c := 11) (t := 0) rfl rfl rfl).trans ((am_g_t h101).trans ?_)
      refine (am_z_ne rfl).trans (am_if_congr (fun c119 => ?_) (fun c119 => ?_))
      · refine (am_e0 rfl rfl).trans ?_
        refine (am_e0 rfl rfl).trans ?_
        refine (am_cal3 (z := 72) (k := 2) (c := (am_ob x0 11)) rfl rfl rfl rfl rfl rfl rfl rfl).trans ((am_g_t h101).trans ?_)
        refine am_bind_congr fun r120 => ?_
        show am_Ex d 281 88 [(2, x0)] [(0, r120.1)] r120.2 = _
        refine (am_z_ne rfl).trans (am_if_congr (fun c121 => ?_) (fun c121 => ?_))
        · refine (am_e0 rfl rfl).trans ?_
          refine (am_e0 rfl rfl).trans ?_
          refine (am_cal3 (z := 74) (k := 2) (c := (am_ob x0 11)) rfl rfl rfl rfl rfl rfl rfl rfl).trans ((am_g_t h101).trans ?_)
          refine am_bind_congr fun r122 => ?_
          show am_Ex d 281 92 [(2, x0)] [] r122.2 = _
          exact (am_e5 rfl).trans rfl
        · exact (am_e5 rfl).trans rfl
      · exact (am_e5 rfl).trans rfl
  · exact (am_e4v rfl rfl).trans rfl
set_option maxRecDepth 10000 in
theorem aq_281_9 (d : Nat) (x0 : Int) (M : am_M) : am_Ex d 281 9 [(2, x0)] [] M = (am_g (am_ob x0 11) <| (am_Call d 74 [(2, x0), (0, 1)] M).bind fun r102 => some (0, r102.2)) := by
  refine (am_e0 rfl rfl).trans ?_
  refine (am_e0 rfl rfl).trans ?_
  refine (am_cal3 (z := 74) (k := 2) (c := (am_ob x0 11)) rfl rfl rfl rfl rfl rfl rfl rfl).trans (am_g_congr fun h101 => ?_)
  refine am_bind_congr fun r102 => ?_
  show am_Ex d 281 12 [(2, x0)] [] r102.2 = _
  exact (am_e4v rfl rfl).trans rfl
set_option maxRecDepth 10000 in
theorem aq_281_93 (d : Nat) (x0 : Int) (M : am_M) : am_Ex d 281 93 [(2, x0)] [] M = (am_g (am_ob x0 11) <| if am_rd M x0 19 = 0 then ((am_Call d 219 [(2, x0)] M).bind fun r103 => some (0, r103.2)) else (some (0, M))) := by
  refine (am_e0 rfl rfl).trans ?_
  refine (am_gf (c := 11) (t := 0) rfl rfl rfl).trans (am_g_congr fun h101 => ?_)
  refine (am_z_ne rfl).trans (am_if_congr (fun c102 => ?_) (fun c102 => ?_))
  · refine (am_e0 rfl rfl).trans ?_
    refine (am_cal3 (z := 219) (k := 1) (c := (am_ob x0 11)) rfl rfl rfl rfl rfl rfl rfl rfl).trans ((am_g_t h101).trans ?_)
    refine am_bind_congr fun r103 => ?_
    show am_Ex d 281 98 [(2, x0)] [] r103.2 = _
    refine (am_e5 rfl).trans ?_
    show am_Ex d 281 99 [am_N] [] r103.2 = _
    exact (am_e4v rfl rfl).trans rfl
  · refine (am_e5 rfl).trans ?_
    show am_Ex d 281 99 [am_N] [] M = _
    exact (am_e4v rfl rfl).trans rfl
-- 282: UnlearnedHandModel.nightGoes(Z)V
set_option maxRecDepth 10000 in
theorem aq_282 (d : Nat) (x0 x1 : Int) (M : am_M) : am_Call d 282 [(2, x0), (0, x1)] M = (am_Ex d 282 3 [(2, x0), (0, x1), (0, 0), am_N] [] M) := by
  show am_Ex d 282 0 [(2, x0), (0, x1), am_N, am_N] [] M = _
  refine (am_e0 rfl rfl).trans ?_
  refine (am_e0 rfl rfl).trans ?_
  exact (am_e5 rfl).trans rfl
set_option maxRecDepth 10000 in
theorem aq_282_3 (d : Nat) (x0 x1 x2 : Int) (M : am_M) : am_Ex d 282 3 [(2, x0), (0, x1), (0, x2), am_N] [] M = (am_g (am_ob x0 11) <| am_g (am_ar (am_rd M x0 0) 20 1) <| if x2 < am_rd M (am_rd M x0 0) 1 then (am_g (am_ar (am_rd M x0 46) 20 x2) <| if am_rd M (am_rd M x0 46) x2 = 0 then ((am_Call d 252 [(2, x0), (0, x2)] M).bind fun r106 => am_Ex d 282 18 [(2, x0), (0, x1), (0, x2), am_N] [] r106.2) else (am_Ex d 282 18 [(2, x0), (0, x1), (0, x2), am_N] [] M)) else (am_let (am_wr M x0 47 (am_w32 ((am_rd M x0 47) + 1))) fun M107 => am_Ex d 282 29 [(2, x0), (0, x1), (0, 0), am_N] [] M107)) := by
  refine (am_e0 rfl rfl).trans ?_
  refine (am_e0 rfl rfl).trans ?_
  refine (am_gf (c := 11) (t := 2) rfl rfl rfl).trans (am_g_congr fun h101 => ?_)
  refine (am_e0 rfl rfl).trans ?_
  refine (am_ial rfl).trans (am_g_congr fun h102 => ?_)
  refine (am_i_ge rfl).trans (am_if_congr (fun c103 => ?_) (fun c103 => ?_))
  · refine (am_e0 rfl rfl).trans ?_
    refine (am_gf (c := 11) (t := 2) rfl rfl rfl).trans ((am_g_t h101).trans ?_)
    refine (am_e0 rfl rfl).trans ?_
    refine (am_ial rfl).trans (am_g_congr fun h104 => ?_)
    refine (am_z_ne rfl).trans (am_if_congr (fun c105 => ?_) (fun c105 => ?_))
    · refine (am_e0 rfl rfl).trans ?_
      refine (am_e0 rfl rfl).trans ?_
      refine (am_cal3 (z := 252) (k := 2) (c := (am_ob x0 11)) rfl rfl rfl rfl rfl rfl rfl rfl).trans ((am_g_t h101).trans ?_)
      refine am_bind_congr fun r106 => ?_
      show am_Ex d 282 17 [(2, x0), (0, x1), (0, x2), am_N] [] r106.2 = _
      exact (am_e5 rfl).trans rfl
    · exact (am_e5 rfl).trans rfl
  · refine (am_e0 rfl rfl).trans ?_
    refine (am_e0 rfl rfl).trans ?_
    refine (am_gf (c := 11) (t := 0) rfl rfl rfl).trans ((am_g_t h101).trans ?_)
    refine (am_e0 rfl rfl).trans ?_
    refine (am_e0 rfl rfl).trans ?_
    refine (am_pf (c := 11) rfl rfl rfl).trans ((am_g_t h101).trans ?_)
    refine am_letm (fun M107 => ?_)
    refine (am_e0 rfl rfl).trans ?_
    refine (am_e0 rfl rfl).trans ?_
    exact (am_e5 rfl).trans rfl
set_option maxRecDepth 10000 in
theorem aq_282_18 (d : Nat) (x0 x1 x2 : Int) (M : am_M) : am_Ex d 282 18 [(2, x0), (0, x1), (0, x2), am_N] [] M = (am_let (am_w32 (x2 + 1)) fun v101 => am_Ex d 282 3 [(2, x0), (0, x1), (0, v101), am_N] [] M) := by
  refine (am_e0 rfl rfl).trans ?_
  refine am_lets (L := fun v101 => [(2, x0), (0, x1), (0, v101), am_N]) (fun v101 => ?_)
  refine (am_e1 rfl rfl).trans ?_
  exact (am_e5 rfl).trans rfl
set_option maxRecDepth 10000 in
theorem aq_282_29 (d : Nat) (x0 x1 x2 : Int) (M : am_M) : am_Ex d 282 29 [(2, x0), (0, x1), (0, x2), am_N] [] M = (am_g (am_ob x0 11) <| am_g (am_ar (am_rd M x0 0) 20 1) <| if x2 < am_rd M (am_rd M x0 0) 1 then (if x1 = 0 then (some (0, M)) else (if (30 : Int) = 0 then none else if am_rem (am_rd M x0 47) 30 = 0 then (am_g (am_ar (am_rd M x0 46) 20 x2) <| if am_rd M (am_rd M x0 46) x2 = 0 then ((am_Call d 265 [(2, x0), (0, x2)] M).bind fun r109 => am_Ex d 282 52 [(2, x0), (0, x1), (0, x2), am_N] [] r109.2) else (am_Ex d 282 52 [(2, x0), (0, x1), (0, x2), am_N] [] M)) else (some (0, M)))) else (some (0, M))) := by
  refine (am_e0 rfl rfl).trans ?_
  refine (am_e0 rfl rfl).trans ?_
  refine (am_gf (c := 11) (t := 2) rfl rfl rfl).trans (am_g_congr fun h101 => ?_)
  refine (am_e0 rfl rfl).trans ?_
  refine (am_ial rfl).trans (am_g_congr fun h102 => ?_)
  refine (am_i_ge rfl).trans (am_if_congr (fun c103 => ?_) (fun c103 => ?_))
  · refine (am_e0 rfl rfl).trans ?_
    refine (am_z_eq rfl).trans (am_if_congr (fun c104 => ?_) (fun c104 => ?_))
    · refine (am_e5 rfl).trans ?_
      show am_Ex d 282 55 [am_N, am_N, am_N, am_N] [] M = _
      exact (am_e4v rfl rfl).trans rfl
    · refine (am_e0 rfl rfl).trans ?_
      refine (am_gf (c := 11) (t := 0) rfl rfl rfl).trans ((am_g_t h101).trans ?_)
      refine (am_e0 rfl rfl).trans ?_
      refine (am_rmi rfl).trans (am_if_congr (fun _ => rfl) (fun c105 => ?_))
      refine (am_z_ne rfl).trans (am_if_congr (fun c106 => ?_) (fun c106 => ?_))
      · refine (am_e0 rfl rfl).trans ?_
        refine (am_gf (c := 11) (t := 2) rfl rfl rfl).trans ((am_g_t h101).trans ?_)
        refine (am_e0 rfl rfl).trans ?_
        refine (am_ial rfl).trans (am_g_congr fun h107 => ?_)
        refine (am_z_ne rfl).trans (am_if_congr (fun c108 => ?_) (fun c108 => ?_))
        · refine (am_e0 rfl rfl).trans ?_
          refine (am_e0 rfl rfl).trans ?_
          refine (am_cal3 (z := 265) (k := 2) (c := (am_ob x0 11)) rfl rfl rfl rfl rfl rfl rfl rfl).trans ((am_g_t h101).trans ?_)
          refine am_bind_congr fun r109 => ?_
          show am_Ex d 282 50 [(2, x0), (0, x1), (0, x2), am_N] [(0, r109.1)] r109.2 = _
          refine (am_e0 rfl rfl).trans ?_
          exact (am_e5 rfl).trans rfl
        · exact (am_e5 rfl).trans rfl
      · refine (am_e5 rfl).trans ?_
        show am_Ex d 282 55 [am_N, am_N, am_N, am_N] [] M = _
        exact (am_e4v rfl rfl).trans rfl
  · refine (am_e5 rfl).trans ?_
    show am_Ex d 282 55 [am_N, am_N, am_N, am_N] [] M = _
    exact (am_e4v rfl rfl).trans rfl
set_option maxRecDepth 10000 in
theorem aq_282_52 (d : Nat) (x0 x1 x2 : Int) (M : am_M) : am_Ex d 282 52 [(2, x0), (0, x1), (0, x2), am_N] [] M = (am_let (am_w32 (x2 + 1)) fun v101 => am_Ex d 282 29 [(2, x0), (0, x1), (0, v101), am_N] [] M) := by
  refine (am_e0 rfl rfl).trans ?_
  refine am_lets (L := fun v101 => [(2, x0), (0, x1), (0, v101), am_N]) (fun v101 => ?_)
  refine (am_e1 rfl rfl).trans ?_
  exact (am_e5 rfl).trans rfl
-- 283: UnlearnedHandModel.mislead(III)I
set_option maxRecDepth 10000 in
theorem aq_283 (d : Nat) (x0 x1 x2 x3 : Int) (M : am_M) : am_Call d 283 [(2, x0), (0, x1), (0, x2), (0, x3)] M = (am_g (am_ob x0 11) <| (am_Call d 196 [(2, x0), (0, x1)] M).bind fun r102 => if r102.1 = 0 then (some ((-1), r102.2)) else ((am_Call d 143 [(2, x0), (0, x2)] r102.2).bind fun r104 => if r104.1 = 0 then (some ((-1), r104.2)) else ((am_Call d 64 [(0, x3), (0, 1), (0, 99)] r104.2).bind fun r106 => if r106.1 = 0 then (some ((-1), r106.2)) else ((am_Call d 68 [(2, x0)] r106.2).bind fun r108 => (am_Call d 266 [(2, x0), (0, x1), (0, x2), (0, x3)] r108.2).bind fun r109 => am_g (am_ar (am_rd r109.2 x0 0) 20 (am_w32 ((am_w32 (60 + (am_w32 (8 * x1)))) + x2))) <| some (am_rd r109.2 (am_rd r109.2 x0 0) (am_w32 ((am_w32 (60 + (am_w32 (8 * x1)))) + x2)), r109.2))))) := by
  show am_Ex d 283 0 [(2, x0), (0, x1), (0, x2), (0, x3)] [] M = _
  refine (am_e0 rfl rfl).trans ?_
  refine (am_e0 rfl rfl).trans ?_
  refine (am_cal3 (z := 196) (k := 2) (c := (am_ob x0 11)) rfl rfl rfl rfl rfl rfl rfl rfl).trans (am_g_congr fun h101 => ?_)
  refine am_bind_congr fun r102 => ?_
  show am_Ex d 283 3 [(2, x0), (0, x1), (0, x2), (0, x3)] [(0, r102.1)] r102.2 = _
  refine (am_z_eq rfl).trans (am_if_congr (fun c103 => ?_) (fun c103 => ?_))
  · refine (am_e5 rfl).trans ?_
    show am_Ex d 283 14 [am_N, am_N, am_N, am_N] [] r102.2 = _
    refine (am_e0 rfl rfl).trans ?_
    exact (am_e4i rfl rfl).trans rfl
  · refine (am_e0 rfl rfl).trans ?_
    refine (am_e0 rfl rfl).trans ?_
    refine (am_cal3 (z := 143) (k := 2) (c := (am_ob x0 11)) rfl rfl rfl rfl rfl rfl rfl rfl).trans ((am_g_t h101).trans ?_)
    refine am_bind_congr fun r104 => ?_
    show am_Ex d 283 7 [(2, x0), (0, x1), (0, x2), (0, x3)] [(0, r104.1)] r104.2 = _
    refine (am_z_eq rfl).trans (am_if_congr (fun c105 => ?_) (fun c105 => ?_))
    · refine (am_e5 rfl).trans ?_
      show am_Ex d 283 14 [am_N, am_N, am_N, am_N] [] r104.2 = _
      refine (am_e0 rfl rfl).trans ?_
      exact (am_e4i rfl rfl).trans rfl
    · refine (am_e0 rfl rfl).trans ?_
      refine (am_e0 rfl rfl).trans ?_
      refine (am_e0 rfl rfl).trans ?_
      refine (am_cal3 (z := 64) (k := 3) (c := true) rfl rfl rfl rfl rfl rfl rfl rfl).trans ((am_g_t rfl).trans ?_)
      refine am_bind_congr fun r106 => ?_
      show am_Ex d 283 12 [(2, x0), (0, x1), (0, x2), (0, x3)] [(0, r106.1)] r106.2 = _
      refine (am_z_ne rfl).trans (am_if_congr (fun c107 => ?_) (fun c107 => ?_))
      · refine (am_e5 rfl).trans ?_
        show am_Ex d 283 14 [am_N, am_N, am_N, am_N] [] r106.2 = _
        refine (am_e0 rfl rfl).trans ?_
        exact (am_e4i rfl rfl).trans rfl
      · refine (am_e0 rfl rfl).trans ?_
        refine (am_cal3 (z := 68) (k := 1) (c := (am_ob x0 11)) rfl rfl rfl rfl rfl rfl rfl rfl).trans ((am_g_t h101).trans ?_)
        refine am_bind_congr fun r108 => ?_
        show am_Ex d 283 18 [(2, x0), (0, x1), (0, x2), (0, x3)] [] r108.2 = _
        refine (am_e0 rfl rfl).trans ?_
        refine (am_e0 rfl rfl).trans ?_
        refine (am_e0 rfl rfl).trans ?_
        refine (am_e0 rfl rfl).trans ?_
        refine (am_cal3 (z := 266) (k := 4) (c := (am_ob x0 11)) rfl rfl rfl rfl rfl rfl rfl rfl).trans ((am_g_t h101).trans ?_)
        refine am_bind_congr fun r109 => ?_
        show am_Ex d 283 23 [(2, x0), (0, x1), (0, x2), (0, x3)] [] r109.2 = _
        refine (am_e0 rfl rfl).trans ?_
        refine (am_gf (c := 11) (t := 2) rfl rfl rfl).trans ((am_g_t h101).trans ?_)
        refine (am_e0 rfl rfl).trans ?_
        refine (am_e0 rfl rfl).trans ?_
        refine (am_e0 rfl rfl).trans ?_
        refine (am_e0 rfl rfl).trans ?_
        refine (am_e0 rfl rfl).trans ?_
        refine (am_e0 rfl rfl).trans ?_
        refine (am_e0 rfl rfl).trans ?_
        refine (am_ial rfl).trans (am_g_congr fun h110 => ?_)
        exact (am_e4i rfl rfl).trans rfl
-- 284: UnlearnedHandModel.tried(I)I
set_option maxRecDepth 10000 in
theorem aq_284 (d : Nat) (x0 x1 : Int) (M : am_M) : am_Call d 284 [(2, x0), (0, x1)] M = (am_g (am_ob x0 11) <| (am_Call d 196 [(2, x0), (0, x1)] M).bind fun r102 => if r102.1 = 0 then (some ((-1), r102.2)) else ((am_Call d 68 [(2, x0)] r102.2).bind fun r104 => (am_Call d 88 [(2, x0)] r104.2).bind fun r105 => (am_Call d 265 [(2, x0), (0, x1)] r105.2).bind fun r106 => (am_Call d 89 [(2, x0)] r106.2).bind fun r107 => some (r106.1, r107.2))) := by
  show am_Ex d 284 0 [(2, x0), (0, x1), am_N] [] M = _
  refine (am_e0 rfl rfl).trans ?_
  refine (am_e0 rfl rfl).trans ?_
  refine (am_cal3 (z := 196) (k := 2) (c := (am_ob x0 11)) rfl rfl rfl rfl rfl rfl rfl rfl).trans (am_g_congr fun h101 => ?_)
  refine am_bind_congr fun r102 => ?_
  show am_Ex d 284 3 [(2, x0), (0, x1), am_N] [(0, r102.1)] r102.2 = _
  refine (am_z_ne rfl).trans (am_if_congr (fun c103 => ?_) (fun c103 => ?_))
  · refine (am_e0 rfl rfl).trans ?_
    exact (am_e4i rfl rfl).trans rfl
  · refine (am_e0 rfl rfl).trans ?_
    refine (am_cal3 (z := 68) (k := 1) (c := (am_ob x0 11)) rfl rfl rfl rfl rfl rfl rfl rfl).trans ((am_g_t h101).trans ?_)
    refine am_bind_congr fun r104 => ?_
    show am_Ex d 284 8 [(2, x0), (0, x1), am_N] [] r104.2 = _
    refine (am_e0 rfl rfl).trans ?_
    refine (am_cal3 (z := 88) (k := 1) (c := (am_ob x0 11)) rfl rfl rfl rfl rfl rfl rfl rfl).trans ((am_g_t h101).trans ?_)
    refine am_bind_congr fun r105 => ?_
    show am_Ex d 284 10 [(2, x0), (0, x1), am_N] [] r105.2 = _
    refine (am_e0 rfl rfl).trans ?_
    refine (am_e0 rfl rfl).trans ?_
    refine (am_cal3 (z := 265) (k := 2) (c := (am_ob x0 11)) rfl rfl rfl rfl rfl rfl rfl rfl).trans ((am_g_t h101).trans ?_)
    refine am_bind_congr fun r106 => ?_
    show am_Ex d 284 13 [(2, x0), (0, x1), am_N] [(0, r106.1)] r106.2 = _
    refine (am_e0 rfl rfl).trans ?_
    refine (am_e0 rfl rfl).trans ?_
    refine (am_cal3 (z := 89) (k := 1) (c := (am_ob x0 11)) rfl rfl rfl rfl rfl rfl rfl rfl).trans ((am_g_t h101).trans ?_)
    refine am_bind_congr fun r107 => ?_
    show am_Ex d 284 16 [(2, x0), (0, x1), (0, r106.1)] [] r107.2 = _
    refine (am_e0 rfl rfl).trans ?_
    exact (am_e4i rfl rfl).trans rfl
-- 285: UnlearnedHandModel.wrongs(IIIII)I
set_option maxRecDepth 10000 in
theorem aq_285 (d : Nat) (x0 x1 x2 x3 x4 x5 : Int) (M : am_M) : am_Call d 285 [(2, x0), (0, x1), (0, x2), (0, x3), (0, x4), (0, x5)] M = (am_g (am_ob x0 11) <| (am_Call d 196 [(2, x0), (0, x1)] M).bind fun r102 => if r102.1 = 0 then (some ((-1), r102.2)) else ((am_Call d 64 [(0, x2), (0, 1), (0, 4)] r102.2).bind fun r104 => if r104.1 = 0 then (some ((-1), r104.2)) else ((am_Call d 64 [(0, x3), (0, 1), (0, 99)] r104.2).bind fun r106 => if r106.1 = 0 then (some ((-1), r106.2)) else ((am_Call d 64 [(0, x4), (0, 0), (0, 8)] r106.2).bind fun r108 => if r108.1 = 0 then (some ((-1), r108.2)) else ((am_Call d 64 [(0, x5), (0, (-1)), (0, am_w32 (x2 - 1))] r108.2).bind fun r110 => if r110.1 = 0 then (some ((-1), r110.2)) else (am_Ex d 285 34 [(2, x0), (0, x1), (0, x2), (0, x3), (0, x4), (0, x5), (0, 1), (0, 0), am_N, am_N, am_N] [] r110.2)))))) := by
  show am_Ex d 285 0 [(2, x0), (0, x1), (0, x2), (0, x3), (0, x4), (0, x5), am_N, am_N, am_N, am_N, am_N] [] M = _
  refine (am_e0 rfl rfl).trans ?_
  refine (am_e0 rfl rfl).trans ?_
  refine (am_cal3 (z := 196) (k := 2) (c := (am_ob x0 11)) rfl rfl rfl rfl rfl rfl rfl rfl).trans (am_g_congr fun h101 => ?_)
  refine am_bind_congr fun r102 => ?_
  show am_Ex d 285 3 [(2, x0), (0, x1), (0, x2), (0, x3), (0, x4), (0, x5), am_N, am_N, am_N, am_N, am_N] [(0, r102.1)] r102.2 = _
  refine (am_z_eq rfl).trans (am_if_congr (fun c103 => ?_) (fun c103 => ?_))
  · refine (am_e5 rfl).trans ?_
    show am_Ex d 285 27 [am_N, am_N, am_N, am_N, am_N, am_N, am_N, am_N, am_N, am_N, am_N] [] r102.2 = _
    refine (am_e0 rfl rfl).trans ?_
    exact (am_e4i rfl rfl).trans rfl
  · refine (am_e0 rfl rfl).trans ?_
    refine (am_e0 rfl rfl).trans ?_
    refine (am_e0 rfl rfl).trans ?_
    refine (am_cal3 (z := 64) (k := 3) (c := true) rfl rfl rfl rfl rfl rfl rfl rfl).trans ((am_g_t rfl).trans ?_)
    refine am_bind_congr fun r104 => ?_
    show am_Ex d 285 8 [(2, x0), (0, x1), (0, x2), (0, x3), (0, x4), (0, x5), am_N, am_N, am_N, am_N, am_N] [(0, r104.1)] r104.2 = _
    refine (am_z_eq rfl).trans (am_if_congr (fun c105 => ?_) (fun c105 => ?_))
    · refine (am_e5 rfl).trans ?_
      show am_Ex d 285 27 [am_N, am_N, am_N, am_N, am_N, am_N, am_N, am_N, am_N, am_N, am_N] [] r104.2 = _
      refine (am_e0 rfl rfl).trans ?_
      exact (am_e4i rfl rfl).trans rfl
    · refine (am_e0 rfl rfl).trans ?_
      refine (am_e0 rfl rfl).trans ?_
      refine (am_e0 rfl rfl).trans ?_
      refine (am_cal3 (z := 64) (k := 3) (c := true) rfl rfl rfl rfl rfl rfl rfl rfl).trans ((am_g_t rfl).trans ?_)
      refine am_bind_congr fun r106 => ?_
      show am_Ex d 285 13 [(2, x0), (0, x1), (0, x2), (0, x3), (0, x4), (0, x5), am_N, am_N, am_N, am_N, am_N] [(0, r106.1)] r106.2 = _
      refine (am_z_eq rfl).trans (am_if_congr (fun c107 => ?_) (fun c107 => ?_))
      · refine (am_e5 rfl).trans ?_
        show am_Ex d 285 27 [am_N, am_N, am_N, am_N, am_N, am_N, am_N, am_N, am_N, am_N, am_N] [] r106.2 = _
        refine (am_e0 rfl rfl).trans ?_
        exact (am_e4i rfl rfl).trans rfl
      · refine (am_e0 rfl rfl).trans ?_
        refine (am_e0 rfl rfl).trans ?_
        refine (am_e0 rfl rfl).trans ?_
        refine (am_cal3 (z := 64) (k := 3) (c := true) rfl rfl rfl rfl rfl rfl rfl rfl).trans ((am_g_t rfl).trans ?_)
        refine am_bind_congr fun r108 => ?_
        show am_Ex d 285 18 [(2, x0), (0, x1), (0, x2), (0, x3), (0, x4), (0, x5), am_N, am_N, am_N, am_N, am_N] [(0, r108.1)] r108.2 = _
        refine (am_z_eq rfl).trans (am_if_congr (fun c109 => ?_) (fun c109 => ?_))
        · refine (am_e5 rfl).trans ?_
          show am_Ex d 285 27 [am_N, am_N, am_N, am_N, am_N, am_N, am_N, am_N, am_N, am_N, am_N] [] r108.2 = _
          refine (am_e0 rfl rfl).trans ?_
          exact (am_e4i rfl rfl).trans rfl
        · refine (am_e0 rfl rfl).trans ?_
          refine (am_e0 rfl rfl).trans ?_
          refine (am_e0 rfl rfl).trans ?_
          refine (am_e0 rfl rfl).trans ?_
          refine (am_e0 rfl rfl).trans ?_
          refine (am_cal3 (z := 64) (k := 3) (c := true) rfl rfl rfl rfl rfl rfl rfl rfl).trans ((am_g_t rfl).trans ?_)
          refine am_bind_congr fun r110 => ?_
          show am_Ex d 285 25 [(2, x0), (0, x1), (0, x2), (0, x3), (0, x4), (0, x5), am_N, am_N, am_N, am_N, am_N] [(0, r110.1)] r110.2 = _
          refine (am_z_ne rfl).trans (am_if_congr (fun c111 => ?_) (fun c111 => ?_))
          · refine (am_e5 rfl).trans ?_
            show am_Ex d 285 27 [am_N, am_N, am_N, am_N, am_N, am_N, am_N, am_N, am_N, am_N, am_N] [] r110.2 = _
            refine (am_e0 rfl rfl).trans ?_
            exact (am_e4i rfl rfl).trans rfl
          · refine (am_e0 rfl rfl).trans ?_
            refine (am_e0 rfl rfl).trans ?_
            refine (am_e0 rfl rfl).trans ?_
            refine (am_e0 rfl rfl).trans ?_
            exact (am_e5 rfl).trans rfl
set_option maxRecDepth 10000 in
theorem aq_285_34 (d : Nat) (x0 x1 x2 x3 x4 x5 x6 x7 : Int) (M : am_M) : am_Ex d 285 34 [(2, x0), (0, x1), (0, x2), (0, x3), (0, x4), (0, x5), (0, x6), (0, x7), am_N, am_N, am_N] [] M = (if x7 < x2 then (am_g (am_ob x0 11) <| am_g (am_ar (am_rd M x0 0) 20 0) <| am_let (am_w32 (x6 * (am_w32 ((am_rd M (am_rd M x0 0) 0) + 1)))) fun v104 => am_let (am_w32 (x7 + 1)) fun v105 => am_Ex d 285 34 [(2, x0), (0, x1), (0, x2), (0, x3), (0, x4), (0, x5), (0, v104), (0, v105), am_N, am_N, am_N] [] M) else (am_Ex d 285 53 [(2, x0), (0, x1), (0, x2), (0, x3), (0, x4), (0, x5), (0, x6), (0, (-1)), (0, 0), am_N, am_N] [] M)) := by
  refine (am_e0 rfl rfl).trans ?_
  refine (am_e0 rfl rfl).trans ?_
  refine (am_i_ge rfl).trans (am_if_congr (fun c101 => ?_) (fun c101 => ?_))
  · refine (am_e0 rfl rfl).trans ?_
    refine (am_e0 rfl rfl).trans ?_
    refine (am_gf (c := 11) (t := 2) rfl rfl rfl).trans (am_g_congr fun h102 => ?_)
    refine (am_e0 rfl rfl).trans ?_
    refine (am_ial rfl).trans (am_g_congr fun h103 => ?_)
    refine (am_e0 rfl rfl).trans ?_
    refine (am_e0 rfl rfl).trans ?_
    refine (am_e0 rfl rfl).trans ?_
    refine (am_e0 rfl rfl).trans ?_
    refine am_lets (L := fun v104 => [(2, x0), (0, x1), (0, x2), (0, x3), (0, x4), (0, x5), (0, v104), (0, x7), am_N, am_N, am_N]) (fun v104 => ?_)
    refine (am_e0 rfl rfl).trans ?_
    refine am_lets (L := fun v105 => [(2, x0), (0, x1), (0, x2), (0, x3), (0, x4), (0, x5), (0, v104), (0, v105), am_N, am_N, am_N]) (fun v105 => ?_)
    refine (am_e1 rfl rfl).trans ?_
    exact (am_e5 rfl).trans rfl
  · refine (am_e0 rfl rfl).trans ?_
    refine (am_e0 rfl rfl).trans ?_
    refine (am_e0 rfl rfl).trans ?_
    refine (am_e0 rfl rfl).trans ?_
    exact (am_e5 rfl).trans rfl
set_option maxRecDepth 10000 in
theorem aq_285_53 (d : Nat) (x0 x1 x2 x3 x4 x5 x6 x7 x8 : Int) (M : am_M) : am_Ex d 285 53 [(2, x0), (0, x1), (0, x2), (0, x3), (0, x4), (0, x5), (0, x6), (0, x7), (0, x8), am_N, am_N] [] M = (if x8 < x6 then (am_g (am_ob x0 11) <| (am_Call d 93 [(2, x0), (0, x8), (0, x2)] M).bind fun r103 => if x7 = (-1) then (am_Ex d 285 68 [(2, x0), (0, x1), (0, x2), (0, x3), (0, x4), (0, x5), (0, x6), (0, x7), (0, x8), (0, r103.1), am_N] [] r103.2) else (if r103.1 < x7 then (am_Ex d 285 68 [(2, x0), (0, x1), (0, x2), (0, x3), (0, x4), (0, x5), (0, x6), (0, x7), (0, x8), (0, r103.1), am_N] [] r103.2) else (am_Ex d 285 94 [(2, x0), (0, x1), (0, x2), (0, x3), (0, x4), (0, x5), (0, x6), (0, x7), (0, x8), am_N, am_N] [] r103.2))) else (if x7 = (-1) then (am_Ex d 285 103 [am_N, am_N, am_N, am_N, am_N, am_N, am_N, (0, x7), am_N, am_N, am_N] [] M) else (if x5 = (-1) then (am_Ex d 285 103 [am_N, am_N, am_N, am_N, am_N, am_N, am_N, (0, x7), am_N, am_N, am_N] [] M) else (am_g (am_ob x0 11) <| am_g (am_ar (am_rd M x0 49) 20 x5) <| if am_rd M (am_rd M x0 49) x5 = 0 then (some (8, M)) else (some (am_w32 ((am_rd M (am_rd M x0 49) x5) - 1), M)))))) := by
  refine (am_e0 rfl rfl).trans ?_
  refine (am_e0 rfl rfl).trans ?_
  refine (am_i_ge rfl).trans (am_if_congr (fun c101 => ?_) (fun c101 => ?_))
  · refine (am_e0 rfl rfl).trans ?_
    refine (am_e0 rfl rfl).trans ?_
    refine (am_e0 rfl rfl).trans ?_
    refine (am_cal3 (z := 93) (k := 3) (c := (am_ob x0 11)) rfl rfl rfl rfl rfl rfl rfl rfl).trans (am_g_congr fun h102 => ?_)
    refine am_bind_congr fun r103 => ?_
    show am_Ex d 285 60 [(2, x0), (0, x1), (0, x2), (0, x3), (0, x4), (0, x5), (0, x6), (0, x7), (0, x8), am_N, am_N] [(0, r103.1)] r103.2 = _
    refine (am_e0 rfl rfl).trans ?_
    refine (am_e0 rfl rfl).trans ?_
    refine (am_e0 rfl rfl).trans ?_
    refine (am_i_eq rfl).trans (am_if_congr (fun c104 => ?_) (fun c104 => ?_))
    · exact (am_e5 rfl).trans rfl
    · refine (am_e0 rfl rfl).trans ?_
      refine (am_e0 rfl rfl).trans ?_
      refine (am_i_ge rfl).trans (am_if_congr (fun c105 => ?_) (fun c105 => ?_))
      · exact (am_e5 rfl).trans rfl
      · exact (am_e5 rfl).trans rfl
  · refine (am_e0 rfl rfl).trans ?_
    refine (am_e0 rfl rfl).trans ?_
    refine (am_i_eq rfl).trans (am_if_congr (fun c106 => ?_) (fun c106 => ?_))
    · exact (am_e5 rfl).trans rfl
    · refine (am_e0 rfl rfl).trans ?_
      refine (am_e0 rfl rfl).trans ?_
      refine (am_i_ne rfl).trans (am_if_congr (fun c107 => ?_) (fun c107 => ?_))
      · exact (am_e5 rfl).trans rfl
      · refine (am_e0 rfl rfl).trans ?_
        refine (am_gf (c := 11) (t := 2) rfl rfl rfl).trans (am_g_congr fun h108 => ?_)
        refine (am_e0 rfl rfl).trans ?_
        refine (am_ial rfl).trans (am_g_congr fun h109 => ?_)
        refine (am_z_ne rfl).trans (am_if_congr (fun c110 => ?_) (fun c110 => ?_))
        · refine (am_e0 rfl rfl).trans ?_
          refine (am_e1 rfl rfl).trans ?_
          exact (am_e4i rfl rfl).trans rfl
        · refine (am_e0 rfl rfl).trans ?_
          refine (am_gf (c := 11) (t := 2) rfl rfl rfl).trans ((am_g_t h108).trans ?_)
          refine (am_e0 rfl rfl).trans ?_
          refine (am_ial rfl).trans ((am_g_t h109).trans ?_)
          refine (am_e0 rfl rfl).trans ?_
          refine (am_e0 rfl rfl).trans ?_
          exact (am_e4i rfl rfl).trans rfl
set_option maxRecDepth 10000 in
theorem aq_285_68 (d : Nat) (x0 x1 x2 x3 x4 x5 x6 x7 x8 x9 : Int) (M : am_M) : am_Ex d 285 68 [(2, x0), (0, x1), (0, x2), (0, x3), (0, x4), (0, x5), (0, x6), (0, x7), (0, x8), (0, x9), am_N] [] M = (am_g (am_ob x0 11) <| (am_Call d 268 [(2, x0), (0, x1), (0, x2), (0, x3)] M).bind fun r102 => if r102.1 ≤ x4 then (am_Ex d 285 80 [(2, x0), (0, x1), (0, x2), (0, x3), (0, x4), (0, x5), (0, x6), (0, x9), (0, x8), am_N, (0, 0)] [] r102.2) else (am_Ex d 285 94 [(2, x0), (0, x1), (0, x2), (0, x3), (0, x4), (0, x5), (0, x6), (0, x7), (0, x8), am_N, am_N] [] r102.2)) := by
  refine (am_e0 rfl rfl).trans ?_
  refine (am_e0 rfl rfl).trans ?_
  refine (am_e0 rfl rfl).trans ?_
  refine (am_e0 rfl rfl).trans ?_
  refine (am_cal3 (z := 268) (k := 4) (c := (am_ob x0 11)) rfl rfl rfl rfl rfl rfl rfl rfl).trans (am_g_congr fun h101 => ?_)
  refine am_bind_congr fun r102 => ?_
  show am_Ex d 285 73 [(2, x0), (0, x1), (0, x2), (0, x3), (0, x4), (0, x5), (0, x6), (0, x7), (0, x8), (0, x9), am_N] [(0, r102.1)] r102.2 = _
  refine (am_e0 rfl rfl).trans ?_
  refine (am_i_gt rfl).trans (am_if_congr (fun c103 => ?_) (fun c103 => ?_))
  · refine (am_e0 rfl rfl).trans ?_
    refine (am_e0 rfl rfl).trans ?_
    refine (am_e0 rfl rfl).trans ?_
    refine (am_e0 rfl rfl).trans ?_
    exact (am_e5 rfl).trans rfl
  · exact (am_e5 rfl).trans rfl
set_option maxRecDepth 10000 in
theorem aq_285_94 (d : Nat) (x0 x1 x2 x3 x4 x5 x6 x7 x8 : Int) (M : am_M) : am_Ex d 285 94 [(2, x0), (0, x1), (0, x2), (0, x3), (0, x4), (0, x5), (0, x6), (0, x7), (0, x8), am_N, am_N] [] M = (am_let (am_w32 (x8 + 1)) fun v101 => am_Ex d 285 53 [(2, x0), (0, x1), (0, x2), (0, x3), (0, x4), (0, x5), (0, x6), (0, x7), (0, v101), am_N, am_N] [] M) := by
  refine (am_e0 rfl rfl).trans ?_
  refine am_lets (L := fun v101 => [(2, x0), (0, x1), (0, x2), (0, x3), (0, x4), (0, x5), (0, x6), (0, x7), (0, v101), am_N, am_N]) (fun v101 => ?_)
  refine (am_e1 rfl rfl).trans ?_
  exact (am_e5 rfl).trans rfl
set_option maxRecDepth 10000 in
theorem aq_285_103 (d : Nat) (x7 : Int) (M : am_M) : am_Ex d 285 103 [am_N, am_N, am_N, am_N, am_N, am_N, am_N, (0, x7), am_N, am_N, am_N] [] M = (some (x7, M)) := by
  refine (am_e0 rfl rfl).trans ?_
  refine (am_e1 rfl rfl).trans ?_
  exact (am_e4i rfl rfl).trans rfl
set_option maxRecDepth 10000 in
theorem aq_285_80 (d : Nat) (x0 x1 x2 x3 x4 x5 x6 x7 x8 x10 : Int) (M : am_M) : am_Ex d 285 80 [(2, x0), (0, x1), (0, x2), (0, x3), (0, x4), (0, x5), (0, x6), (0, x7), (0, x8), am_N, (0, x10)] [] M = (if x10 < x2 then (am_g (am_ob x0 11) <| am_g (am_ar (am_rd M x0 48) 20 x10) <| am_g (am_ar (am_rd M x0 49) 20 x10) <| am_let (am_wr M (am_rd M x0 49) x10 (am_rd M (am_rd M x0 48) x10)) fun M105 => am_let (am_w32 (x10 + 1)) fun v106 => am_Ex d 285 80 [(2, x0), (0, x1), (0, x2), (0, x3), (0, x4), (0, x5), (0, x6), (0, x7), (0, x8), am_N, (0, v106)] [] M105) else (am_Ex d 285 94 [(2, x0), (0, x1), (0, x2), (0, x3), (0, x4), (0, x5), (0, x6), (0, x7), (0, x8), am_N, am_N] [] M)) := by
  refine (am_e0 rfl rfl).trans ?_
  refine (am_e0 rfl rfl).trans ?_
  refine (am_i_ge rfl).trans (am_if_congr (fun c101 => ?_) (fun c101 => ?_))
  · refine (am_e0 rfl rfl).trans ?_
    refine (am_gf (c := 11) (t := 2) rfl rfl rfl).trans (am_g_congr fun h102 => ?_)
    refine (am_e0 rfl rfl).trans ?_
    refine (am_e0 rfl rfl).trans ?_
    refine (am_gf (c := 11) (t := 2) rfl rfl rfl).trans ((am_g_t h102).trans ?_)
    refine (am_e0 rfl rfl).trans ?_
    refine (am_ial rfl).trans (am_g_congr fun h103 => ?_)
    refine (am_ias rfl).trans (am_g_congr fun h104 => ?_)
    refine am_letm (fun M105 => ?_)
    refine (am_e0 rfl rfl).trans ?_
    refine am_lets (L := fun v106 => [(2, x0), (0, x1), (0, x2), (0, x3), (0, x4), (0, x5), (0, x6), (0, x7), (0, x8), am_N, (0, v106)]) (fun v106 => ?_)
    refine (am_e1 rfl rfl).trans ?_
    exact (am_e5 rfl).trans rfl
  · exact (am_e5 rfl).trans rfl
-- 286: UnlearnedHandModel.spies(I)I
set_option maxRecDepth 10000 in
theorem aq_286 (d : Nat) (x0 x1 : Int) (M : am_M) : am_Call d 286 [(2, x0), (0, x1)] M = (am_g (am_ob x0 11) <| (am_Call d 145 [(2, x0), (0, x1)] M).bind fun r102 => if r102.1 = 0 then (some ((-1), r102.2)) else ((am_Call d 271 [(2, x0)] r102.2).bind fun r104 => am_Ex d 286 13 [(2, x0), (0, x1), (0, (-1)), (0, 0), am_N] [] r104.2)) := by
  show am_Ex d 286 0 [(2, x0), (0, x1), am_N, am_N, am_N] [] M = _
  refine (am_e0 rfl rfl).trans ?_
  refine (am_e0 rfl rfl).trans ?_
  refine (am_cal3 (z := 145) (k := 2) (c := (am_ob x0 11)) rfl rfl rfl rfl rfl rfl rfl rfl).trans (am_g_congr fun h101 => ?_)
  refine am_bind_congr fun r102 => ?_
  show am_Ex d 286 3 [(2, x0), (0, x1), am_N, am_N, am_N] [(0, r102.1)] r102.2 = _
  refine (am_z_ne rfl).trans (am_if_congr (fun c103 => ?_) (fun c103 => ?_))
  · refine (am_e0 rfl rfl).trans ?_
    exact (am_e4i rfl rfl).trans rfl
  · refine (am_e0 rfl rfl).trans ?_
    refine (am_cal3 (z := 271) (k := 1) (c := (am_ob x0 11)) rfl rfl rfl rfl rfl rfl rfl rfl).trans ((am_g_t h101).trans ?_)
    refine am_bind_congr fun r104 => ?_
    show am_Ex d 286 8 [(2, x0), (0, x1), am_N, am_N, am_N] [] r104.2 = _
    refine (am_e0 rfl rfl).trans ?_
    refine (am_e0 rfl rfl).trans ?_
    refine (am_e0 rfl rfl).trans ?_
    refine (am_e0 rfl rfl).trans ?_
    exact (am_e5 rfl).trans rfl
set_option maxRecDepth 10000 in
theorem aq_286_13 (d : Nat) (x0 x1 x2 x3 : Int) (M : am_M) : am_Ex d 286 13 [(2, x0), (0, x1), (0, x2), (0, x3), am_N] [] M = (am_g (am_ob x0 11) <| am_g (am_ar (am_rd M x0 0) 20 1) <| if x3 < am_shl 1 (am_rd M (am_rd M x0 0) 1) then ((am_Call d 166 [(2, x0), (0, x3)] M).bind fun r104 => if am_and x1 (am_xor r104.1 (-1)) = 0 then (if x2 = (-1) then (if (1 : Int) ≤ 0 then (if (1 : Int) = 0 then ((am_Call d 204 [(2, x0), (0, x3)] r104.2).bind fun r109 => (am_Call d 204 [(2, x0), (0, x2)] r109.2).bind fun r110 => if r109.1 ≤ r110.1 then (am_Ex d 286 55 [(2, x0), (0, x1), (0, x2), (0, x3), am_N] [] r110.2) else (am_Ex d 286 52 [(2, x0), (0, x1), am_N, (0, x3), am_N] [] r110.2)) else (am_Ex d 286 55 [(2, x0), (0, x1), (0, x2), (0, x3), am_N] [] r104.2)) else (am_Ex d 286 52 [(2, x0), (0, x1), am_N, (0, x3), am_N] [] r104.2)) else ((am_Call d 66 [(0, x2)] r104.2).bind fun r112 => (am_Call d 66 [(0, x3)] r112.2).bind fun r113 => am_let (am_w32 (r112.1 - r113.1)) fun v114 => if v114 ≤ 0 then (if v114 = 0 then ((am_Call d 204 [(2, x0), (0, x3)] r113.2).bind fun r117 => (am_Call d 204 [(2, x0), (0, x2)] r117.2).bind fun r118 => if r117.1 ≤ r118.1 then (am_Ex d 286 55 [(2, x0), (0, x1), (0, x2), (0, x3), am_N] [] r118.2) else (am_Ex d 286 52 [(2, x0), (0, x1), am_N, (0, x3), am_N] [] r118.2)) else (am_Ex d 286 55 [(2, x0), (0, x1), (0, x2), (0, x3), am_N] [] r113.2)) else (am_Ex d 286 52 [(2, x0), (0, x1), am_N, (0, x3), am_N] [] r113.2))) else (am_Ex d 286 55 [(2, x0), (0, x1), (0, x2), (0, x3), am_N] [] r104.2)) else (some (x2, M))) := by
  refine (am_e0 rfl rfl).trans ?_
  refine (am_e0 rfl rfl).trans ?_
  refine (am_e0 rfl rfl).trans ?_
  refine (am_gf (c := 11) (t := 2) rfl rfl rfl).trans (am_g_congr fun h101 => ?_)
  refine (am_e0 rfl rfl).trans ?_
  refine (am_ial rfl).trans (am_g_congr fun h102 => ?_)
  refine (am_e0 rfl rfl).trans ?_
  refine (am_i_ge rfl).trans (am_if_congr (fun c103 => ?_) (fun c103 => ?_))
  · refine (am_e0 rfl rfl).trans ?_
    refine (am_e0 rfl rfl).trans ?_
    refine (am_e0 rfl rfl).trans ?_
    refine (am_cal3 (z := 166) (k := 2) (c := (am_ob x0 11)) rfl rfl rfl rfl rfl rfl rfl rfl).trans ((am_g_t h101).trans ?_)
    refine am_bind_congr fun r104 => ?_
    show am_Ex d 286 25 [(2, x0), (0, x1), (0, x2), (0, x3), am_N] [(0, r104.1), (0, x1)] r104.2 = _
    refine (am_e0 rfl rfl).trans ?_
    refine (am_e0 rfl rfl).trans ?_
    refine (am_e0 rfl rfl).trans ?_
    refine (am_z_ne rfl).trans (am_if_congr (fun c105 => ?_) (fun c105 => ?_))
    · refine (am_e0 rfl rfl).trans ?_
      refine (am_e0 rfl rfl).trans ?_
      refine (am_i_ne rfl).trans (am_if_congr (fun c106 => ?_) (fun c106 => ?_))
      · refine (am_e0 rfl rfl).trans ?_
        refine (am_e1 rfl rfl).trans ?_
        refine (am_e0 rfl rfl).trans ?_
        refine (am_e0 rfl rfl).trans ?_
        refine (am_z_gt rfl).trans (am_if_congr (fun c107 => ?_) (fun c107 => ?_))
        · refine (am_e0 rfl rfl).trans ?_
          refine (am_z_ne rfl).trans (am_if_congr (fun c108 => ?_) (fun c108 => ?_))
          · refine (am_e0 rfl rfl).trans ?_
            refine (am_e0 rfl rfl).trans ?_
            refine (am_cal3 (z := 204) (k := 2) (c := (am_ob x0 11)) rfl rfl rfl rfl rfl rfl rfl rfl).trans ((am_g_t h101).trans ?_)
            refine am_bind_congr fun r109 => ?_
            show am_Ex d 286 47 [(2, x0), (0, x1), (0, x2), (0, x3), (0, 1)] [(0, r109.1)] r109.2 = _
            refine (am_e0 rfl rfl).trans ?_
            refine (am_e0 rfl rfl).trans ?_
            refine (am_cal3 (z := 204) (k := 2) (c := (am_ob x0 11)) rfl rfl rfl rfl rfl rfl rfl rfl).trans ((am_g_t h101).trans ?_)
            refine am_bind_congr fun r110 => ?_
            show am_Ex d 286 50 [(2, x0), (0, x1), (0, x2), (0, x3), (0, 1)] [(0, r110.1), (0, r109.1)] r110.2 = _
            refine (am_i_le rfl).trans (am_if_congr (fun c111 => ?_) (fun c111 => ?_))
            · exact (am_e5 rfl).trans rfl
            · exact (am_e5 rfl).trans rfl
          · exact (am_e5 rfl).trans rfl
        · exact (am_e5 rfl).trans rfl
      · refine (am_e0 rfl rfl).trans ?_
        refine (am_cal3 (z := 66) (k := 1) (c := true) rfl rfl rfl rfl rfl rfl rfl rfl).trans ((am_g_t rfl).trans ?_)
        refine am_bind_congr fun r112 => ?_
        show am_Ex d 286 36 [(2, x0), (0, x1), (0, x2), (0, x3), am_N] [(0, r112.1)] r112.2 = _
        refine (am_e0 rfl rfl).trans ?_
        refine (am_cal3 (z := 66) (k := 1) (c := true) rfl rfl rfl rfl rfl rfl rfl rfl).trans ((am_g_t rfl).trans ?_)
        refine am_bind_congr fun r113 => ?_
        show am_Ex d 286 38 [(2, x0), (0, x1), (0, x2), (0, x3), am_N] [(0, r113.1), (0, r112.1)] r113.2 = _
        refine (am_e0 rfl rfl).trans ?_
        refine (am_e0 rfl rfl).trans ?_
        refine am_lets (L := fun v114 => [(2, x0), (0, x1), (0, x2), (0, x3), (0, v114)]) (fun v114 => ?_)
        refine (am_e0 rfl rfl).trans ?_
        refine (am_z_gt rfl).trans (am_if_congr (fun c115 => ?_) (fun c115 => ?_))
        · refine (am_e0 rfl rfl).trans ?_
          refine (am_z_ne rfl).trans (am_if_congr (fun c116 => ?_) (fun c116 => ?_))
          · refine (am_e0 rfl rfl).trans ?_
            refine (am_e0 rfl rfl).trans ?_
            refine (am_cal3 (z := 204) (k := 2) (c := (am_ob x0 11)) rfl rfl rfl rfl rfl rfl rfl rfl).trans ((am_g_t h101).trans ?_)
            refine am_bind_congr fun r117 => ?_
            show am_Ex d 286 47 [(2, x0), (0, x1), (0, x2), (0, x3), (0, v114)] [(0, r117.1)] r117.2 = _
            refine (am_e0 rfl rfl).trans ?_
            refine (am_e0 rfl rfl).trans ?_
            refine (am_cal3 (z := 204) (k := 2) (c := (am_ob x0 11)) rfl rfl rfl rfl rfl rfl rfl rfl).trans ((am_g_t h101).trans ?_)
            refine am_bind_congr fun r118 => ?_
            show am_Ex d 286 50 [(2, x0), (0, x1), (0, x2), (0, x3), (0, v114)] [(0, r118.1), (0, r117.1)] r118.2 = _
            refine (am_i_le rfl).trans (am_if_congr (fun c119 => ?_) (fun c119 => ?_))
            · exact (am_e5 rfl).trans rfl
            · exact (am_e5 rfl).trans rfl
          · exact (am_e5 rfl).trans rfl
        · exact (am_e5 rfl).trans rfl
    · exact (am_e5 rfl).trans rfl
  · refine (am_e0 rfl rfl).trans ?_
    exact (am_e4i rfl rfl).trans rfl
set_option maxRecDepth 10000 in
theorem aq_286_55 (d : Nat) (x0 x1 x2 x3 : Int) (M : am_M) : am_Ex d 286 55 [(2, x0), (0, x1), (0, x2), (0, x3), am_N] [] M = (am_let (am_w32 (x3 + 1)) fun v101 => am_Ex d 286 13 [(2, x0), (0, x1), (0, x2), (0, v101), am_N] [] M) := by
  refine (am_e0 rfl rfl).trans ?_
  refine am_lets (L := fun v101 => [(2, x0), (0, x1), (0, x2), (0, v101), am_N]) (fun v101 => ?_)
  refine (am_e1 rfl rfl).trans ?_
  exact (am_e5 rfl).trans rfl
set_option maxRecDepth 10000 in
theorem aq_286_52 (d : Nat) (x0 x1 x3 : Int) (M : am_M) : am_Ex d 286 52 [(2, x0), (0, x1), am_N, (0, x3), am_N] [] M = (am_Ex d 286 55 [(2, x0), (0, x1), (0, x3), (0, x3), am_N] [] M) := by
  refine (am_e0 rfl rfl).trans ?_
  refine (am_e0 rfl rfl).trans ?_
  exact (am_e5 rfl).trans rfl
-- 287: UnlearnedHandModel.sold(I)I
set_option maxRecDepth 10000 in
theorem aq_287 (d : Nat) (x0 x1 : Int) (M : am_M) : am_Call d 287 [(2, x0), (0, x1)] M = ((am_Call d 64 [(0, x1), (0, 1), (0, 6)] M).bind fun r101 => if r101.1 = 0 then (some ((-1), r101.2)) else (am_g (am_ob x0 11) <| (am_Call d 271 [(2, x0)] r101.2).bind fun r104 => am_Ex d 287 14 [(2, x0), (0, x1), (0, 0), (0, 0), am_N] [] r104.2)) := by
  show am_Ex d 287 0 [(2, x0), (0, x1), am_N, am_N, am_N] [] M = _
  refine (am_e0 rfl rfl).trans ?_
  refine (am_e0 rfl rfl).trans ?_
  refine (am_e0 rfl rfl).trans ?_
  refine (am_cal3 (z := 64) (k := 3) (c := true) rfl rfl rfl rfl rfl rfl rfl rfl).trans ((am_g_t rfl).trans ?_)
  refine am_bind_congr fun r101 => ?_
  show am_Ex d 287 4 [(2, x0), (0, x1), am_N, am_N, am_N] [(0, r101.1)] r101.2 = _
  refine (am_z_ne rfl).trans (am_if_congr (fun c102 => ?_) (fun c102 => ?_))
  · refine (am_e0 rfl rfl).trans ?_
    exact (am_e4i rfl rfl).trans rfl
  · refine (am_e0 rfl rfl).trans ?_
    refine (am_cal3 (z := 271) (k := 1) (c := (am_ob x0 11)) rfl rfl rfl rfl rfl rfl rfl rfl).trans (am_g_congr fun h103 => ?_)
    refine am_bind_congr fun r104 => ?_
    show am_Ex d 287 9 [(2, x0), (0, x1), am_N, am_N, am_N] [] r104.2 = _
    refine (am_e0 rfl rfl).trans ?_
    refine (am_e0 rfl rfl).trans ?_
    refine (am_e0 rfl rfl).trans ?_
    refine (am_e0 rfl rfl).trans ?_
    exact (am_e5 rfl).trans rfl
set_option maxRecDepth 10000 in
theorem aq_287_14 (d : Nat) (x0 x1 x2 x3 : Int) (M : am_M) : am_Ex d 287 14 [(2, x0), (0, x1), (0, x2), (0, x3), am_N] [] M = (am_g (am_ob x0 11) <| am_g (am_ar (am_rd M x0 0) 20 1) <| if x3 < am_shl 1 (am_rd M (am_rd M x0 0) 1) then ((am_Call d 66 [(0, x3)] M).bind fun r104 => if r104.1 ≤ x1 then ((am_Call d 166 [(2, x0), (0, x3)] r104.2).bind fun r106 => (am_Call d 165 [(2, x0), (0, r106.1)] r106.2).bind fun r107 => if r107.1 ≤ x2 then (am_Ex d 287 40 [(2, x0), (0, x1), (0, x2), (0, x3), am_N] [] r107.2) else (am_Ex d 287 40 [(2, x0), (0, x1), (0, r107.1), (0, x3), am_N] [] r107.2)) else (am_Ex d 287 40 [(2, x0), (0, x1), (0, x2), (0, x3), am_N] [] r104.2)) else (some (x2, M))) := by
  refine (am_e0 rfl rfl).trans ?_
  refine (am_e0 rfl rfl).trans ?_
  refine (am_e0 rfl rfl).trans ?_
  refine (am_gf (c := 11) (t := 2) rfl rfl rfl).trans (am_g_congr fun h101 => ?_)
  refine (am_e0 rfl rfl).trans ?_
  refine (am_ial rfl).trans (am_g_congr fun h102 => ?_)
  refine (am_e0 rfl rfl).trans ?_
  refine (am_i_ge rfl).trans (am_if_congr (fun c103 => ?_) (fun c103 => ?_))
  · refine (am_e0 rfl rfl).trans ?_
    refine (am_cal3 (z := 66) (k := 1) (c := true) rfl rfl rfl rfl rfl rfl rfl rfl).trans ((am_g_t rfl).trans ?_)
    refine am_bind_congr fun r104 => ?_
    show am_Ex d 287 24 [(2, x0), (0, x1), (0, x2), (0, x3), am_N] [(0, r104.1)] r104.2 = _
    refine (am_e0 rfl rfl).trans ?_
    refine (am_i_gt rfl).trans (am_if_congr (fun c105 => ?_) (fun c105 => ?_))
    · refine (am_e0 rfl rfl).trans ?_
      refine (am_e0 rfl rfl).trans ?_
      refine (am_e0 rfl rfl).trans ?_
      refine (am_cal3 (z := 166) (k := 2) (c := (am_ob x0 11)) rfl rfl rfl rfl rfl rfl rfl rfl).trans ((am_g_t h101).trans ?_)
      refine am_bind_congr fun r106 => ?_
      show am_Ex d 287 30 [(2, x0), (0, x1), (0, x2), (0, x3), am_N] [(0, r106.1), (2, x0)] r106.2 = _
      refine (am_cal3 (z := 165) (k := 2) (c := (am_ob x0 11)) rfl rfl rfl rfl rfl rfl rfl rfl).trans ((am_g_t h101).trans ?_)
      refine am_bind_congr fun r107 => ?_
      show am_Ex d 287 31 [(2, x0), (0, x1), (0, x2), (0, x3), am_N] [(0, r107.1)] r107.2 = _
      refine (am_e0 rfl rfl).trans ?_
      refine (am_e0 rfl rfl).trans ?_
      refine (am_e0 rfl rfl).trans ?_
      refine (am_i_le rfl).trans (am_if_congr (fun c108 => ?_) (fun c108 => ?_))
      · refine (am_e0 rfl rfl).trans ?_
        refine (am_e0 rfl rfl).trans ?_
        exact (am_e5 rfl).trans rfl
      · refine (am_e0 rfl rfl).trans ?_
        refine (am_e1 rfl rfl).trans ?_
        refine (am_e0 rfl rfl).trans ?_
        exact (am_e5 rfl).trans rfl
    · exact (am_e5 rfl).trans rfl
  · refine (am_e0 rfl rfl).trans ?_
    exact (am_e4i rfl rfl).trans rfl
set_option maxRecDepth 10000 in
theorem aq_287_40 (d : Nat) (x0 x1 x2 x3 : Int) (M : am_M) : am_Ex d 287 40 [(2, x0), (0, x1), (0, x2), (0, x3), am_N] [] M = (am_let (am_w32 (x3 + 1)) fun v101 => am_Ex d 287 14 [(2, x0), (0, x1), (0, x2), (0, v101), am_N] [] M) := by
  refine (am_e0 rfl rfl).trans ?_
  refine am_lets (L := fun v101 => [(2, x0), (0, x1), (0, x2), (0, v101), am_N]) (fun v101 => ?_)
  refine (am_e1 rfl rfl).trans ?_
  exact (am_e5 rfl).trans rfl
-- 288: UnlearnedHand$Reader.read([CILUnlearnedHand$Script;)Z
set_option maxRecDepth 10000 in
theorem aq_288 (d : Nat) (x0 x1 x2 x3 : Int) (M : am_M) : am_Call d 288 [(2, x0), (2, x1), (0, x2), (2, x3)] M = (if x1 = 0 then (some (0, M)) else (if x3 = 0 then (some (0, M)) else (am_g (am_ia x1) <| if x2 ≤ am_ln x1 then (am_g (am_ob x0 6) <| am_let (am_wr M x0 7 1) fun M106 => am_let (am_wr M106 x0 8 0) fun M107 => am_let (am_wr M107 x0 9 (-1)) fun M108 => am_let (am_wr M108 x0 6 x3) fun M109 => am_g (am_ob (am_rd M109 x0 6) 8) <| (am_Call d 50 [(2, am_rd M109 x0 6)] M109).bind fun r111 => (am_Call d 276 [(2, x0), (2, x1), (0, x2)] r111.2).bind fun r112 => am_let (am_wr r112.2 x0 4 0) fun M113 => am_Ex d 288 36 [(2, x0), am_N, am_N, am_N, (0, 0)] [] M113) else (some (0, M))))) := by
  show am_Ex d 288 0 [(2, x0), (2, x1), (0, x2), (2, x3), am_N] [] M = _
  refine (am_e0 rfl rfl).trans ?_
  refine (am_nul rfl).trans (am_if_congr (fun c101 => ?_) (fun c101 => ?_))
  · refine (am_e5 rfl).trans ?_
    show am_Ex d 288 9 [am_N, am_N, am_N, am_N, am_N] [] M = _
    refine (am_e0 rfl rfl).trans ?_
    exact (am_e4i rfl rfl).trans rfl
  · refine (am_e0 rfl rfl).trans ?_
    refine (am_nul rfl).trans (am_if_congr (fun c102 => ?_) (fun c102 => ?_))
    · refine (am_e5 rfl).trans ?_
      show am_Ex d 288 9 [am_N, am_N, am_N, am_N, am_N] [] M = _
      refine (am_e0 rfl rfl).trans ?_
      exact (am_e4i rfl rfl).trans rfl
    · refine (am_e0 rfl rfl).trans ?_
      refine (am_e0 rfl rfl).trans ?_
      refine (am_aln rfl).trans (am_g_congr fun h103 => ?_)
      refine (am_i_le rfl).trans (am_if_congr (fun c104 => ?_) (fun c104 => ?_))
      · refine (am_e0 rfl rfl).trans ?_
        refine (am_e0 rfl rfl).trans ?_
        refine (am_pf (c := 6) rfl rfl rfl).trans (am_g_congr fun h105 => ?_)
        refine am_letm (fun M106 => ?_)
        refine (am_e0 rfl rfl).trans ?_
        refine (am_e0 rfl rfl).trans ?_
        refine (am_pf (c := 6) rfl rfl rfl).trans ((am_g_t h105).trans ?_)
        refine am_letm (fun M107 => ?_)
        refine (am_e0 rfl rfl).trans ?_
        refine (am_e0 rfl rfl).trans ?_
        refine (am_pf (c := 6) rfl rfl rfl).trans ((am_g_t h105).trans ?_)
        refine am_letm (fun M108 => ?_)
        refine (am_e0 rfl rfl).trans ?_
        refine (am_e0 rfl rfl).trans ?_
        refine (am_pf (c := 6) rfl rfl rfl).trans ((am_g_t h105).trans ?_)
        refine am_letm (fun M109 => ?_)
        refine (am_e0 rfl rfl).trans ?_
        refine (am_gf (c := 6) (t := 2) rfl rfl rfl).trans ((am_g_t h105).trans ?_)
        refine (am_cal3 (z := 50) (k := 1) (c := (am_ob (am_rd M109 x0 6) 8)) rfl rfl rfl rfl rfl rfl rfl rfl).trans (am_g_congr fun h110 => ?_)
        refine am_bind_congr fun r111 => ?_
        show am_Ex d 288 26 [(2, x0), (2, x1), (0, x2), (2, x3), am_N] [] r111.2 = _
        refine (am_e0 rfl rfl).trans ?_
        refine (am_e0 rfl rfl).trans ?_
        refine (am_e0 rfl rfl).trans ?_
        refine (am_cal3 (z := 276) (k := 3) (c := (am_ob x0 6)) rfl rfl rfl rfl rfl rfl rfl rfl).trans ((am_g_t h105).trans ?_)
        refine am_bind_congr fun r112 => ?_
        show am_Ex d 288 30 [(2, x0), (2, x1), (0, x2), (2, x3), am_N] [] r112.2 = _
        refine (am_e0 rfl rfl).trans ?_
        refine (am_e0 rfl rfl).trans ?_
        refine (am_pf (c := 6) rfl rfl rfl).trans ((am_g_t h105).trans ?_)
        refine am_letm (fun M113 => ?_)
        refine (am_e0 rfl rfl).trans ?_
        refine (am_e0 rfl rfl).trans ?_
        exact (am_e5 rfl).trans rfl
      · refine (am_e5 rfl).trans ?_
        show am_Ex d 288 9 [am_N, am_N, am_N, am_N, am_N] [] M = _
        refine (am_e0 rfl rfl).trans ?_
        exact (am_e4i rfl rfl).trans rfl
set_option maxRecDepth 10000 in
theorem aq_288_36 (d : Nat) (x0 x4 : Int) (M : am_M) : am_Ex d 288 36 [(2, x0), am_N, am_N, am_N, (0, x4)] [] M = (am_g (am_ob x0 6) <| if x4 < am_rd M x0 3 then ((am_Call d 43 [(2, x0)] M).bind fun r103 => if r103.1 = 44 then (am_Ex d 288 49 [(2, x0), am_N, am_N, am_N, am_N] [] r103.2) else ((am_Call d 258 [(2, x0)] r103.2).bind fun r105 => am_let (am_w32 (x4 + 1)) fun v106 => am_Ex d 288 36 [(2, x0), am_N, am_N, am_N, (0, v106)] [] r105.2)) else (am_Ex d 288 49 [(2, x0), am_N, am_N, am_N, am_N] [] M)) := by
  refine (am_e0 rfl rfl).trans ?_
  refine (am_e0 rfl rfl).trans ?_
  refine (am_gf (c := 6) (t := 0) rfl rfl rfl).trans (am_g_congr fun h101 => ?_)
  refine (am_i_ge rfl).trans (am_if_congr (fun c102 => ?_) (fun c102 => ?_))
  · refine (am_e0 rfl rfl).trans ?_
    refine (am_cal3 (z := 43) (k := 1) (c := (am_ob x0 6)) rfl rfl rfl rfl rfl rfl rfl rfl).trans ((am_g_t h101).trans ?_)
    refine am_bind_congr fun r103 => ?_
    show am_Ex d 288 42 [(2, x0), am_N, am_N, am_N, (0, x4)] [(0, r103.1)] r103.2 = _
    refine (am_e0 rfl rfl).trans ?_
    refine (am_i_eq rfl).trans (am_if_congr (fun c104 => ?_) (fun c104 => ?_))
    · exact (am_e5 rfl).trans rfl
    · refine (am_e0 rfl rfl).trans ?_
      refine (am_cal3 (z := 258) (k := 1) (c := (am_ob x0 6)) rfl rfl rfl rfl rfl rfl rfl rfl).trans ((am_g_t h101).trans ?_)
      refine am_bind_congr fun r105 => ?_
      show am_Ex d 288 46 [(2, x0), am_N, am_N, am_N, (0, x4)] [] r105.2 = _
      refine (am_e0 rfl rfl).trans ?_
      refine am_lets (L := fun v106 => [(2, x0), am_N, am_N, am_N, (0, v106)]) (fun v106 => ?_)
      refine (am_e1 rfl rfl).trans ?_
      exact (am_e5 rfl).trans rfl
  · exact (am_e5 rfl).trans rfl
set_option maxRecDepth 10000 in
theorem aq_288_49 (d : Nat) (x0 : Int) (M : am_M) : am_Ex d 288 49 [(2, x0), am_N, am_N, am_N, am_N] [] M = (am_g (am_ob x0 6) <| if am_rd M x0 8 = 0 then (some (1, M)) else (some (0, M))) := by
  refine (am_e0 rfl rfl).trans ?_
  refine (am_gf (c := 6) (t := 0) rfl rfl rfl).trans (am_g_congr fun h101 => ?_)
  refine (am_z_ne rfl).trans (am_if_congr (fun c102 => ?_) (fun c102 => ?_))
  · refine (am_e0 rfl rfl).trans ?_
    refine (am_e1 rfl rfl).trans ?_
    exact (am_e4i rfl rfl).trans rfl
  · refine (am_e0 rfl rfl).trans ?_
    exact (am_e4i rfl rfl).trans rfl
-- 289: UnlearnedHand.night(I)I
set_option maxRecDepth 10000 in
theorem aq_289 (d : Nat) (x0 x1 : Int) (M : am_M) : am_Call d 289 [(2, x0), (0, x1)] M = (if x1 < 1 then (some ((-1), M)) else (if x1 ≤ 60 then (am_g (am_ob x0 10) <| am_g (am_ob (am_rd M x0 2) 3) <| if am_w32 ((am_rd M (am_rd M x0 2) 6) + x1) ≤ 999 then ((am_Call d 277 [(2, x0), (0, x1)] M).bind fun r106 => am_g (am_ob (am_rd r106.2 x0 0) 2) <| am_g (am_ob (am_rd r106.2 x0 2) 3) <| (am_Call d 122 [(2, am_rd r106.2 x0 2), (0, am_rd r106.2 (am_rd r106.2 x0 0) 6)] r106.2).bind fun r109 => some (r109.1, r109.2)) else (some ((-1), M))) else (some ((-1), M)))) := by
  show am_Ex d 289 0 [(2, x0), (0, x1)] [] M = _
  refine (am_e0 rfl rfl).trans ?_
  refine (am_e0 rfl rfl).trans ?_
  refine (am_i_lt rfl).trans (am_if_congr (fun c101 => ?_) (fun c101 => ?_))
  · refine (am_e5 rfl).trans ?_
    show am_Ex d 289 14 [am_N, am_N] [] M = _
    refine (am_e0 rfl rfl).trans ?_
    exact (am_e4i rfl rfl).trans rfl
  · refine (am_e0 rfl rfl).trans ?_
    refine (am_e0 rfl rfl).trans ?_
    refine (am_i_gt rfl).trans (am_if_congr (fun c102 => ?_) (fun c102 => ?_))
    · refine (am_e0 rfl rfl).trans ?_
      refine (am_gf (c := 10) (t := 2) rfl rfl rfl).trans (am_g_congr fun h103 => ?_)
      refine (am_gf (c := 3) (t := 0) rfl rfl rfl).trans (am_g_congr fun h104 => ?_)
      refine (am_e0 rfl rfl).trans ?_
      refine (am_e0 rfl rfl).trans ?_
      refine (am_e0 rfl rfl).trans ?_
      refine (am_i_le rfl).trans (am_if_congr (fun c105 => ?_) (fun c105 => ?_))
      · refine (am_e0 rfl rfl).trans ?_
        refine (am_e0 rfl rfl).trans ?_
        refine (am_cal3 (z := 277) (k := 2) (c := (am_ob x0 10)) rfl rfl rfl rfl rfl rfl rfl rfl).trans ((am_g_t h103).trans ?_)
        refine am_bind_congr fun r106 => ?_
        show am_Ex d 289 19 [(2, x0), (0, x1)] [(0, r106.1)] r106.2 = _
        refine (am_e0 rfl rfl).trans ?_
        refine (am_e0 rfl rfl).trans ?_
        refine (am_gf (c := 10) (t := 2) rfl rfl rfl).trans ((am_g_t h103).trans ?_)
        refine (am_e0 rfl rfl).trans ?_
        refine (am_gf (c := 10) (t := 2) rfl rfl rfl).trans ((am_g_t h103).trans ?_)
        refine (am_gf (c := 2) (t := 0) rfl rfl rfl).trans (am_g_congr fun h107 => ?_)
        refine (am_cal3 (z := 122) (k := 2) (c := (am_ob (am_rd r106.2 x0 2) 3)) rfl rfl rfl rfl rfl rfl rfl rfl).trans (am_g_congr fun h108 => ?_)
        refine am_bind_congr fun r109 => ?_
        show am_Ex d 289 26 [(2, x0), (0, x1)] [(0, r109.1)] r109.2 = _
        exact (am_e4i rfl rfl).trans rfl
      · refine (am_e5 rfl).trans ?_
        show am_Ex d 289 14 [am_N, am_N] [] M = _
        refine (am_e0 rfl rfl).trans ?_
        exact (am_e4i rfl rfl).trans rfl
    · refine (am_e5 rfl).trans ?_
      show am_Ex d 289 14 [am_N, am_N] [] M = _
      refine (am_e0 rfl rfl).trans ?_
      exact (am_e4i rfl rfl).trans rfl
-- 290: UnlearnedHand.winters(II)I
set_option maxRecDepth 10000 in
theorem aq_290 (d : Nat) (x0 x1 x2 : Int) (M : am_M) : am_Call d 290 [(2, x0), (0, x1), (0, x2)] M = (if x1 < 0 then (some ((-1), M)) else (if x1 ≤ 9999 then (if x2 < 1 then (some ((-1), M)) else (if x2 ≤ 30 then (am_g (am_ob x0 10) <| am_g (am_ob (am_rd M x0 0) 2) <| if am_rd M (am_rd M x0 0) 6 < 1 then (some ((-1), M)) else (if am_rd M (am_rd M x0 0) 5 < 1 then (some ((-1), M)) else (am_g (am_ob (am_rd M x0 4) 9) <| (am_Call d 134 [(2, am_rd M x0 4), (2, am_rd M x0 2)] M).bind fun r110 => am_g (am_ob (am_rd r110.2 x0 2) 3) <| am_let (am_wr r110.2 (am_rd r110.2 x0 2) 7 (am_w32 ((am_w32 (x1 * 2)) + 73))) fun M112 => am_Ex d 290 40 [(2, x0), am_N, (0, x2), (0, 0)] [] M112))) else (some ((-1), M)))) else (some ((-1), M)))) := by
  show am_Ex d 290 0 [(2, x0), (0, x1), (0, x2), am_N] [] M = _
  refine (am_e0 rfl rfl).trans ?_
  refine (am_z_lt rfl).trans (am_if_congr (fun c101 => ?_) (fun c101 => ?_))
  · refine (am_e5 rfl).trans ?_
    show am_Ex d 290 22 [am_N, am_N, am_N, am_N] [] M = _
    refine (am_e0 rfl rfl).trans ?_
    exact (am_e4i rfl rfl).trans rfl
  · refine (am_e0 rfl rfl).trans ?_
    refine (am_e0 rfl rfl).trans ?_
    refine (am_i_gt rfl).trans (am_if_congr (fun c102 => ?_) (fun c102 => ?_))
    · refine (am_e0 rfl rfl).trans ?_
      refine (am_e0 rfl rfl).trans ?_
      refine (am_i_lt rfl).trans (am_if_congr (fun c103 => ?_) (fun c103 => ?_))
      · refine (am_e5 rfl).trans ?_
        show am_Ex d 290 22 [am_N, am_N, am_N, am_N] [] M = _
        refine (am_e0 rfl rfl).trans ?_
        exact (am_e4i rfl rfl).trans rfl
      · refine (am_e0 rfl rfl).trans ?_
        refine (am_e0 rfl rfl).trans ?_
        refine (am_i_gt rfl).trans (am_if_congr (fun c104 => ?_) (fun c104 => ?_))
        · refine (am_e0 rfl rfl).trans ?_
          refine (am_gf (c := 10) (t := 2) rfl rfl rfl).trans (am_g_congr fun h105 => ?_)
          refine (am_gf (c := 2) (t := 0) rfl rfl rfl).trans (am_g_congr fun h106 => ?_)
          refine (am_e0 rfl rfl).trans ?_
          refine (am_i_lt rfl).trans (am_if_congr (fun c107 => ?_) (fun c107 => ?_))
          · refine (am_e5 rfl).trans ?_
            show am_Ex d 290 22 [am_N, am_N, am_N, am_N] [] M = _
            refine (am_e0 rfl rfl).trans ?_
            exact (am_e4i rfl rfl).trans rfl
          · refine (am_e0 rfl rfl).trans ?_
            refine (am_gf (c := 10) (t := 2) rfl rfl rfl).trans ((am_g_t h105).trans ?_)
            refine (am_gf (c := 2) (t := 0) rfl rfl rfl).trans ((am_g_t h106).trans ?_)
            refine (am_e0 rfl rfl).trans ?_
            refine (am_i_ge rfl).trans (am_if_congr (fun c108 => ?_) (fun c108 => ?_))
            · refine (am_e5 rfl).trans ?_
              show am_Ex d 290 22 [am_N, am_N, am_N, am_N] [] M = _
              refine (am_e0 rfl rfl).trans ?_
              exact (am_e4i rfl rfl).trans rfl
            · refine (am_e0 rfl rfl).trans ?_
              refine (am_gf (c := 10) (t := 2) rfl rfl rfl).trans ((am_g_t h105).trans ?_)
              refine (am_e0 rfl rfl).trans ?_
              refine (am_gf (c := 10) (t := 2) rfl rfl rfl).trans ((am_g_t h105).trans ?_)
              refine (am_cal3 (z := 134) (k := 2) (c := (am_ob (am_rd M x0 4) 9)) rfl rfl rfl rfl rfl rfl rfl rfl).trans (am_g_congr fun h109 => ?_)
              refine am_bind_congr fun r110 => ?_
              show am_Ex d 290 29 [(2, x0), (0, x1), (0, x2), am_N] [] r110.2 = _
              refine (am_e0 rfl rfl).trans ?_
              refine (am_gf (c := 10) (t := 2) rfl rfl rfl).trans ((am_g_t h105).trans ?_)
              refine (am_e0 rfl rfl).trans ?_
              refine (am_e0 rfl rfl).trans ?_
              refine (am_e0 rfl rfl).trans ?_
              refine (am_e0 rfl rfl).trans ?_
              refine (am_e0 rfl rfl).trans ?_
              refine (am_pf (c := 3) rfl rfl rfl).trans (am_g_congr fun h111 => ?_)
              refine am_letm (fun M112 => ?_)
              refine (am_e0 rfl rfl).trans ?_
              refine (am_e0 rfl rfl).trans ?_
              exact (am_e5 rfl).trans rfl
        · refine (am_e5 rfl).trans ?_
          show am_Ex d 290 22 [am_N, am_N, am_N, am_N] [] M = _
          refine (am_e0 rfl rfl).trans ?_
          exact (am_e4i rfl rfl).trans rfl
    · refine (am_e5 rfl).trans ?_
      show am_Ex d 290 22 [am_N, am_N, am_N, am_N] [] M = _
      refine (am_e0 rfl rfl).trans ?_
      exact (am_e4i rfl rfl).trans rfl
set_option maxRecDepth 10000 in
theorem aq_290_40 (d : Nat) (x0 x2 x3 : Int) (M : am_M) : am_Ex d 290 40 [(2, x0), am_N, (0, x2), (0, x3)] [] M = (if x3 < x2 then (am_g (am_ob x0 10) <| am_g (am_ob (am_rd M x0 11) 0) <| (am_Call d 272 [(2, am_rd M x0 11), (2, am_rd M x0 2)] M).bind fun r104 => am_let (am_w32 (x3 + 1)) fun v105 => am_Ex d 290 40 [(2, x0), am_N, (0, x2), (0, v105)] [] r104.2) else (am_g (am_ob x0 10) <| am_g (am_ob (am_rd M x0 0) 2) <| am_g (am_ob (am_rd M x0 2) 3) <| (am_Call d 122 [(2, am_rd M x0 2), (0, am_rd M (am_rd M x0 0) 6)] M).bind fun r109 => some (r109.1, r109.2))) := by
  refine (am_e0 rfl rfl).trans ?_
  refine (am_e0 rfl rfl).trans ?_
  refine (am_i_ge rfl).trans (am_if_congr (fun c101 => ?_) (fun c101 => ?_))
  · refine (am_e0 rfl rfl).trans ?_
    refine (am_gf (c := 10) (t := 2) rfl rfl rfl).trans (am_g_congr fun h102 => ?_)
    refine (am_e0 rfl rfl).trans ?_
    refine (am_gf (c := 10) (t := 2) rfl rfl rfl).trans ((am_g_t h102).trans ?_)
    refine (am_cal3 (z := 272) (k := 2) (c := (am_ob (am_rd M x0 11) 0)) rfl rfl rfl rfl rfl rfl rfl rfl).trans (am_g_congr fun h103 => ?_)
    refine am_bind_congr fun r104 => ?_
    show am_Ex d 290 48 [(2, x0), am_N, (0, x2), (0, x3)] [] r104.2 = _
    refine (am_e0 rfl rfl).trans ?_
    refine am_lets (L := fun v105 => [(2, x0), am_N, (0, x2), (0, v105)]) (fun v105 => ?_)
    refine (am_e1 rfl rfl).trans ?_
    exact (am_e5 rfl).trans rfl
  · refine (am_e0 rfl rfl).trans ?_
    refine (am_gf (c := 10) (t := 2) rfl rfl rfl).trans (am_g_congr fun h106 => ?_)
    refine (am_e0 rfl rfl).trans ?_
    refine (am_gf (c := 10) (t := 2) rfl rfl rfl).trans ((am_g_t h106).trans ?_)
    refine (am_gf (c := 2) (t := 0) rfl rfl rfl).trans (am_g_congr fun h107 => ?_)
    refine (am_cal3 (z := 122) (k := 2) (c := (am_ob (am_rd M x0 2) 3)) rfl rfl rfl rfl rfl rfl rfl rfl).trans (am_g_congr fun h108 => ?_)
    refine am_bind_congr fun r109 => ?_
    show am_Ex d 290 56 [(2, x0), am_N, (0, x2), (0, x3)] [(0, r109.1)] r109.2 = _
    exact (am_e4i rfl rfl).trans rfl
