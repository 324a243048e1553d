/-! equations of the methods 33 .. 62 -/
-- 33: UnlearnedHand$Laws.ofTwo(III)I
set_option maxRecDepth 10000 in
theorem aq_33 (d : Nat) (x0 x1 x2 : Int) (M : am_M) : am_Call d 33 [(0, x0), (0, x1), (0, x2)] M = (if x0 = 21 then (if x1 = 0 then (if x2 = 0 then (am_Ex d 33 10 [(0, x0), (0, x1), (0, x2), am_N, am_N] [(0, 0)] M) else (am_Ex d 33 7 [am_N, am_N, am_N, am_N, am_N] [] M)) else (am_Ex d 33 7 [am_N, am_N, am_N, am_N, am_N] [] M)) else if x0 = 22 then (if x1 = 0 then (am_Ex d 33 19 [am_N, am_N, am_N, am_N, am_N] [(0, 0)] M) else (if x2 = 0 then (am_Ex d 33 19 [am_N, am_N, am_N, am_N, am_N] [(0, 0)] M) else (am_Ex d 33 19 [(0, x0), (0, x1), (0, x2), am_N, am_N] [(0, 1)] M))) else if x0 = 23 then (if x0 = 33 then (am_let (am_w64 (x1 + x2)) fun v109 => am_Ex d 33 102 [am_N, am_N, am_N, (1, v109), am_N] [] M) else (if x0 = 34 then (am_let (am_w64 (x1 - x2)) fun v111 => am_Ex d 33 102 [am_N, am_N, am_N, (1, v111), am_N] [] M) else (if x0 = 35 then (am_let (am_w64 (x1 * x2)) fun v113 => am_Ex d 33 102 [am_N, am_N, am_N, (1, v113), am_N] [] M) else (if x2 = 0 then (am_Ex d 33 102 [am_N, am_N, am_N, (1, 0), am_N] [] M) else (if (x2 : Int) = 0 then none else am_let (am_div x1 x2) fun v116 => am_Ex d 33 102 [am_N, am_N, am_N, (1, v116), am_N] [] M))))) else if x0 = 24 then (if x0 = 33 then (am_let (am_w64 (x1 + x2)) fun v119 => am_Ex d 33 102 [am_N, am_N, am_N, (1, v119), am_N] [] M) else (if x0 = 34 then (am_let (am_w64 (x1 - x2)) fun v121 => am_Ex d 33 102 [am_N, am_N, am_N, (1, v121), am_N] [] M) else (if x0 = 35 then (am_let (am_w64 (x1 * x2)) fun v123 => am_Ex d 33 102 [am_N, am_N, am_N, (1, v123), am_N] [] M) else (if x2 = 0 then (am_Ex d 33 102 [am_N, am_N, am_N, (1, 0), am_N] [] M) else (if (x2 : Int) = 0 then none else am_let (am_div x1 x2) fun v126 => am_Ex d 33 102 [am_N, am_N, am_N, (1, v126), am_N] [] M))))) else if x0 = 25 then (if x0 = 33 then (am_let (am_w64 (x1 + x2)) fun v129 => am_Ex d 33 102 [am_N, am_N, am_N, (1, v129), am_N] [] M) else (if x0 = 34 then (am_let (am_w64 (x1 - x2)) fun v131 => am_Ex d 33 102 [am_N, am_N, am_N, (1, v131), am_N] [] M) else (if x0 = 35 then (am_let (am_w64 (x1 * x2)) fun v133 => am_Ex d 33 102 [am_N, am_N, am_N, (1, v133), am_N] [] M) else (if x2 = 0 then (am_Ex d 33 102 [am_N, am_N, am_N, (1, 0), am_N] [] M) else (if (x2 : Int) = 0 then none else am_let (am_div x1 x2) fun v136 => am_Ex d 33 102 [am_N, am_N, am_N, (1, v136), am_N] [] M))))) else if x0 = 26 then (if x0 = 33 then (am_let (am_w64 (x1 + x2)) fun v139 => am_Ex d 33 102 [am_N, am_N, am_N, (1, v139), am_N] [] M) else (if x0 = 34 then (am_let (am_w64 (x1 - x2)) fun v141 => am_Ex d 33 102 [am_N, am_N, am_N, (1, v141), am_N] [] M) else (if x0 = 35 then (am_let (am_w64 (x1 * x2)) fun v143 => am_Ex d 33 102 [am_N, am_N, am_N, (1, v143), am_N] [] M) else (if x2 = 0 then (am_Ex d 33 102 [am_N, am_N, am_N, (1, 0), am_N] [] M) else (if (x2 : Int) = 0 then none else am_let (am_div x1 x2) fun v146 => am_Ex d 33 102 [am_N, am_N, am_N, (1, v146), am_N] [] M))))) else if x0 = 27 then (if x0 = 33 then (am_let (am_w64 (x1 + x2)) fun v149 => am_Ex d 33 102 [am_N, am_N, am_N, (1, v149), am_N] [] M) else (if x0 = 34 then (am_let (am_w64 (x1 - x2)) fun v151 => am_Ex d 33 102 [am_N, am_N, am_N, (1, v151), am_N] [] M) else (if x0 = 35 then (am_let (am_w64 (x1 * x2)) fun v153 => am_Ex d 33 102 [am_N, am_N, am_N, (1, v153), am_N] [] M) else (if x2 = 0 then (am_Ex d 33 102 [am_N, am_N, am_N, (1, 0), am_N] [] M) else (if (x2 : Int) = 0 then none else am_let (am_div x1 x2) fun v156 => am_Ex d 33 102 [am_N, am_N, am_N, (1, v156), am_N] [] M))))) else if x0 = 28 then (if x0 = 33 then (am_let (am_w64 (x1 + x2)) fun v159 => am_Ex d 33 102 [am_N, am_N, am_N, (1, v159), am_N] [] M) else (if x0 = 34 then (am_let (am_w64 (x1 - x2)) fun v161 => am_Ex d 33 102 [am_N, am_N, am_N, (1, v161), am_N] [] M) else (if x0 = 35 then (am_let (am_w64 (x1 * x2)) fun v163 => am_Ex d 33 102 [am_N, am_N, am_N, (1, v163), am_N] [] M) else (if x2 = 0 then (am_Ex d 33 102 [am_N, am_N, am_N, (1, 0), am_N] [] M) else (if (x2 : Int) = 0 then none else am_let (am_div x1 x2) fun v166 => am_Ex d 33 102 [am_N, am_N, am_N, (1, v166), am_N] [] M))))) else if x0 = 29 then (if x1 < x2 then (am_Ex d 33 26 [(0, x0), (0, x1), (0, x2), am_N, am_N] [(0, 1)] M) else (am_Ex d 33 26 [(0, x0), (0, x1), (0, x2), am_N, am_N] [(0, 0)] M)) else if x0 = 30 then (if x1 ≤ x2 then (am_Ex d 33 33 [(0, x0), (0, x1), (0, x2), am_N, am_N] [(0, 0)] M) else (am_Ex d 33 33 [(0, x0), (0, x1), (0, x2), am_N, am_N] [(0, 1)] M)) else if x0 = 31 then (if x1 = x2 then (am_Ex d 33 40 [(0, x0), (0, x1), (0, x2), am_N, am_N] [(0, 1)] M) else (am_Ex d 33 40 [(0, x0), (0, x1), (0, x2), am_N, am_N] [(0, 0)] M)) else if x0 = 32 then (if x1 = x2 then (am_Ex d 33 47 [(0, x0), (0, x1), (0, x2), am_N, am_N] [(0, 0)] M) else (am_Ex d 33 47 [(0, x0), (0, x1), (0, x2), am_N, am_N] [(0, 1)] M)) else if x0 = 33 then (if x0 = 33 then (am_let (am_w64 (x1 + x2)) fun v177 => am_Ex d 33 102 [am_N, am_N, am_N, (1, v177), am_N] [] M) else (if x0 = 34 then (am_let (am_w64 (x1 - x2)) fun v179 => am_Ex d 33 102 [am_N, am_N, am_N, (1, v179), am_N] [] M) else (if x0 = 35 then (am_let (am_w64 (x1 * x2)) fun v181 => am_Ex d 33 102 [am_N, am_N, am_N, (1, v181), am_N] [] M) else (if x2 = 0 then (am_Ex d 33 102 [am_N, am_N, am_N, (1, 0), am_N] [] M) else (if (x2 : Int) = 0 then none else am_let (am_div x1 x2) fun v184 => am_Ex d 33 102 [am_N, am_N, am_N, (1, v184), am_N] [] M))))) else if x0 = 34 then (if x0 = 33 then (am_let (am_w64 (x1 + x2)) fun v187 => am_Ex d 33 102 [am_N, am_N, am_N, (1, v187), am_N] [] M) else (if x0 = 34 then (am_let (am_w64 (x1 - x2)) fun v189 => am_Ex d 33 102 [am_N, am_N, am_N, (1, v189), am_N] [] M) else (if x0 = 35 then (am_let (am_w64 (x1 * x2)) fun v191 => am_Ex d 33 102 [am_N, am_N, am_N, (1, v191), am_N] [] M) else (if x2 = 0 then (am_Ex d 33 102 [am_N, am_N, am_N, (1, 0), am_N] [] M) else (if (x2 : Int) = 0 then none else am_let (am_div x1 x2) fun v194 => am_Ex d 33 102 [am_N, am_N, am_N, (1, v194), am_N] [] M))))) else if x0 = 35 then (if x0 = 33 then (am_let (am_w64 (x1 + x2)) fun v197 => am_Ex d 33 102 [am_N, am_N, am_N, (1, v197), am_N] [] M) else (if x0 = 34 then (am_let (am_w64 (x1 - x2)) fun v199 => am_Ex d 33 102 [am_N, am_N, am_N, (1, v199), am_N] [] M) else (if x0 = 35 then (am_let (am_w64 (x1 * x2)) fun v201 => am_Ex d 33 102 [am_N, am_N, am_N, (1, v201), am_N] [] M) else (if x2 = 0 then (am_Ex d 33 102 [am_N, am_N, am_N, (1, 0), am_N] [] M) else (if (x2 : Int) = 0 then none else am_let (am_div x1 x2) fun v204 => am_Ex d 33 102 [am_N, am_N, am_N, (1, v204), am_N] [] M))))) else if x0 = 36 then (if x0 = 33 then (am_let (am_w64 (x1 + x2)) fun v207 => am_Ex d 33 102 [am_N, am_N, am_N, (1, v207), am_N] [] M) else (if x0 = 34 then (am_let (am_w64 (x1 - x2)) fun v209 => am_Ex d 33 102 [am_N, am_N, am_N, (1, v209), am_N] [] M) else (if x0 = 35 then (am_let (am_w64 (x1 * x2)) fun v211 => am_Ex d 33 102 [am_N, am_N, am_N, (1, v211), am_N] [] M) else (if x2 = 0 then (am_Ex d 33 102 [am_N, am_N, am_N, (1, 0), am_N] [] M) else (if (x2 : Int) = 0 then none else am_let (am_div x1 x2) fun v214 => am_Ex d 33 102 [am_N, am_N, am_N, (1, v214), am_N] [] M))))) else if x0 = 37 then (if x0 = 33 then (am_let (am_w64 (x1 + x2)) fun v217 => am_Ex d 33 102 [am_N, am_N, am_N, (1, v217), am_N] [] M) else (if x0 = 34 then (am_let (am_w64 (x1 - x2)) fun v219 => am_Ex d 33 102 [am_N, am_N, am_N, (1, v219), am_N] [] M) else (if x0 = 35 then (am_let (am_w64 (x1 * x2)) fun v221 => am_Ex d 33 102 [am_N, am_N, am_N, (1, v221), am_N] [] M) else (if x2 = 0 then (am_Ex d 33 102 [am_N, am_N, am_N, (1, 0), am_N] [] M) else (if (x2 : Int) = 0 then none else am_let (am_div x1 x2) fun v224 => am_Ex d 33 102 [am_N, am_N, am_N, (1, v224), am_N] [] M))))) else if x0 = 38 then (if x0 = 33 then (am_let (am_w64 (x1 + x2)) fun v227 => am_Ex d 33 102 [am_N, am_N, am_N, (1, v227), am_N] [] M) else (if x0 = 34 then (am_let (am_w64 (x1 - x2)) fun v229 => am_Ex d 33 102 [am_N, am_N, am_N, (1, v229), am_N] [] M) else (if x0 = 35 then (am_let (am_w64 (x1 * x2)) fun v231 => am_Ex d 33 102 [am_N, am_N, am_N, (1, v231), am_N] [] M) else (if x2 = 0 then (am_Ex d 33 102 [am_N, am_N, am_N, (1, 0), am_N] [] M) else (if (x2 : Int) = 0 then none else am_let (am_div x1 x2) fun v234 => am_Ex d 33 102 [am_N, am_N, am_N, (1, v234), am_N] [] M))))) else if x0 = 39 then (if x0 = 33 then (am_let (am_w64 (x1 + x2)) fun v237 => am_Ex d 33 102 [am_N, am_N, am_N, (1, v237), am_N] [] M) else (if x0 = 34 then (am_let (am_w64 (x1 - x2)) fun v239 => am_Ex d 33 102 [am_N, am_N, am_N, (1, v239), am_N] [] M) else (if x0 = 35 then (am_let (am_w64 (x1 * x2)) fun v241 => am_Ex d 33 102 [am_N, am_N, am_N, (1, v241), am_N] [] M) else (if x2 = 0 then (am_Ex d 33 102 [am_N, am_N, am_N, (1, 0), am_N] [] M) else (if (x2 : Int) = 0 then none else am_let (am_div x1 x2) fun v244 => am_Ex d 33 102 [am_N, am_N, am_N, (1, v244), am_N] [] M))))) else if x0 = 40 then (if x1 ≤ x2 then (am_Ex d 33 54 [(0, x0), (0, x1), (0, x2), am_N, am_N] [(0, 1)] M) else (am_Ex d 33 54 [(0, x0), (0, x1), (0, x2), am_N, am_N] [(0, 0)] M)) else if x0 = 41 then (if x1 < x2 then (am_Ex d 33 61 [(0, x0), (0, x1), (0, x2), am_N, am_N] [(0, 0)] M) else (am_Ex d 33 61 [(0, x0), (0, x1), (0, x2), am_N, am_N] [(0, 1)] M)) else (if x0 = 33 then (am_let (am_w64 (x1 + x2)) fun v250 => am_Ex d 33 102 [am_N, am_N, am_N, (1, v250), am_N] [] M) else (if x0 = 34 then (am_let (am_w64 (x1 - x2)) fun v252 => am_Ex d 33 102 [am_N, am_N, am_N, (1, v252), am_N] [] M) else (if x0 = 35 then (am_let (am_w64 (x1 * x2)) fun v254 => am_Ex d 33 102 [am_N, am_N, am_N, (1, v254), am_N] [] M) else (if x2 = 0 then (am_Ex d 33 102 [am_N, am_N, am_N, (1, 0), am_N] [] M) else (if (x2 : Int) = 0 then none else am_let (am_div x1 x2) fun v257 => am_Ex d 33 102 [am_N, am_N, am_N, (1, v257), am_N] [] M)))))) := by
  show am_Ex d 33 0 [(0, x0), (0, x1), (0, x2), am_N, am_N] [] M = _
  refine (am_e0 rfl rfl).trans ?_
  refine (am_tsw rfl).trans ?_
  refine (am_sw_c).trans (am_if_congr (fun c101 => ?_) (fun c101 => ?_))
  · refine (am_e0 rfl rfl).trans ?_
    refine (am_z_ne rfl).trans (am_if_congr (fun c102 => ?_) (fun c102 => ?_))
    · refine (am_e0 rfl rfl).trans ?_
      refine (am_z_eq rfl).trans (am_if_congr (fun c103 => ?_) (fun c103 => ?_))
      · refine (am_e0 rfl rfl).trans ?_
        exact rfl
      · exact (am_e5 rfl).trans rfl
    · exact (am_e5 rfl).trans rfl
  refine (am_sw_c).trans (am_if_congr (fun c104 => ?_) (fun c104 => ?_))
  · refine (am_e0 rfl rfl).trans ?_
    refine (am_z_eq rfl).trans (am_if_congr (fun c105 => ?_) (fun c105 => ?_))
    · refine (am_e5 rfl).trans ?_
      show am_Ex d 33 18 [am_N, am_N, am_N, am_N, am_N] [] M = _
      refine (am_e0 rfl rfl).trans ?_
      exact rfl
    · refine (am_e0 rfl rfl).trans ?_
      refine (am_z_eq rfl).trans (am_if_congr (fun c106 => ?_) (fun c106 => ?_))
      · refine (am_e5 rfl).trans ?_
        show am_Ex d 33 18 [am_N, am_N, am_N, am_N, am_N] [] M = _
        refine (am_e0 rfl rfl).trans ?_
        exact rfl
      · refine (am_e0 rfl rfl).trans ?_
        refine (am_e1 rfl rfl).trans ?_
        exact rfl
  refine (am_sw_c).trans (am_if_congr (fun c107 => ?_) (fun c107 => ?_))
  · refine (am_e0 rfl rfl).trans ?_
    refine (am_e0 rfl rfl).trans ?_
    refine (am_e0 rfl rfl).trans ?_
    refine (am_e0 rfl rfl).trans ?_
    refine (am_i_ne rfl).trans (am_if_congr (fun c108 => ?_) (fun c108 => ?_))
    · refine (am_e0 rfl rfl).trans ?_
      refine (am_e0 rfl rfl).trans ?_
      refine (am_e0 rfl rfl).trans ?_
      refine (am_e0 rfl rfl).trans ?_
      refine (am_e0 rfl rfl).trans ?_
      refine (am_e0 rfl rfl).trans ?_
      refine am_lets (L := fun v109 => [(0, x0), (0, x1), (0, x2), (1, v109), am_N]) (fun v109 => ?_)
      refine (am_e1 rfl rfl).trans ?_
      exact (am_e5 rfl).trans rfl
    · refine (am_e0 rfl rfl).trans ?_
      refine (am_e0 rfl rfl).trans ?_
      refine (am_i_ne rfl).trans (am_if_congr (fun c110 => ?_) (fun c110 => ?_))
      · refine (am_e0 rfl rfl).trans ?_
        refine (am_e0 rfl rfl).trans ?_
        refine (am_e0 rfl rfl).trans ?_
        refine (am_e0 rfl rfl).trans ?_
        refine (am_e0 rfl rfl).trans ?_
        refine (am_e0 rfl rfl).trans ?_
        refine am_lets (L := fun v111 => [(0, x0), (0, x1), (0, x2), (1, v111), am_N]) (fun v111 => ?_)
        refine (am_e1 rfl rfl).trans ?_
        exact (am_e5 rfl).trans rfl
      · refine (am_e0 rfl rfl).trans ?_
        refine (am_e0 rfl rfl).trans ?_
        refine (am_i_ne rfl).trans (am_if_congr (fun c112 => ?_) (fun c112 => ?_))
        · refine (am_e0 rfl rfl).trans ?_
          refine (am_e0 rfl rfl).trans ?_
          refine (am_e0 rfl rfl).trans ?_
          refine (am_e0 rfl rfl).trans ?_
          refine (am_e0 rfl rfl).trans ?_
          refine (am_e0 rfl rfl).trans ?_
          refine am_lets (L := fun v113 => [(0, x0), (0, x1), (0, x2), (1, v113), am_N]) (fun v113 => ?_)
          refine (am_e1 rfl rfl).trans ?_
          exact (am_e5 rfl).trans rfl
        · refine (am_e0 rfl rfl).trans ?_
          refine (am_z_eq rfl).trans (am_if_congr (fun c114 => ?_) (fun c114 => ?_))
          · exact (am_e5 rfl).trans rfl
          · refine (am_e0 rfl rfl).trans ?_
            refine (am_e0 rfl rfl).trans ?_
            refine (am_dvi rfl).trans (am_if_congr (fun _ => rfl) (fun c115 => ?_))
            refine (am_e0 rfl rfl).trans ?_
            refine (am_e0 rfl rfl).trans ?_
            refine am_lets (L := fun v116 => [(0, x0), (0, x1), (0, x2), (1, v116), am_N]) (fun v116 => ?_)
            exact (am_e5 rfl).trans rfl
  refine (am_sw_c).trans (am_if_congr (fun c117 => ?_) (fun c117 => ?_))
  · refine (am_e0 rfl rfl).trans ?_
    refine (am_e0 rfl rfl).trans ?_
    refine (am_e0 rfl rfl).trans ?_
    refine (am_e0 rfl rfl).trans ?_
    refine (am_i_ne rfl).trans (am_if_congr (fun c118 => ?_) (fun c118 => ?_))
    · refine (am_e0 rfl rfl).trans ?_
      refine (am_e0 rfl rfl).trans ?_
      refine (am_e0 rfl rfl).trans ?_
      refine (am_e0 rfl rfl).trans ?_
      refine (am_e0 rfl rfl).trans ?_
      refine (am_e0 rfl rfl).trans ?_
      refine am_lets (L := fun v119 => [(0, x0), (0, x1), (0, x2), (1, v119), am_N]) (fun v119 => ?_)
      refine (am_e1 rfl rfl).trans ?_
      exact (am_e5 rfl).trans rfl
    · refine (am_e0 rfl rfl).trans ?_
      refine (am_e0 rfl rfl).trans ?_
      refine (am_i_ne rfl).trans (am_if_congr (fun c120 => ?_) (fun c120 => ?_))
      · refine (am_e0 rfl rfl).trans ?_
        refine (am_e0 rfl rfl).trans ?_
        refine (am_e0 rfl rfl).trans ?_
        refine (am_e0 rfl rfl).trans ?_
        refine (am_e0 rfl rfl).trans ?_
        refine (am_e0 rfl rfl).trans ?_
        refine am_lets (L := fun v121 => [(0, x0), (0, x1), (0, x2), (1, v121), am_N]) (fun v121 => ?_)
        refine (am_e1 rfl rfl).trans ?_
        exact (am_e5 rfl).trans rfl
      · refine (am_e0 rfl rfl).trans ?_
        refine (am_e0 rfl rfl).trans ?_
        refine (am_i_ne rfl).trans (am_if_congr (fun c122 => ?_) (fun c122 => ?_))
        · refine (am_e0 rfl rfl).trans ?_
          refine (am_e0 rfl rfl).trans ?_
          refine (am_e0 rfl rfl).trans ?_
          refine (am_e0 rfl rfl).trans ?_
          refine (am_e0 rfl rfl).trans ?_
          refine (am_e0 rfl rfl).trans ?_
          refine am_lets (L := fun v123 => [(0, x0), (0, x1), (0, x2), (1, v123), am_N]) (fun v123 => ?_)
          refine (am_e1 rfl rfl).trans ?_
          exact (am_e5 rfl).trans rfl
        · refine (am_e0 rfl rfl).trans ?_
          refine (am_z_eq rfl).trans (am_if_congr (fun c124 => ?_) (fun c124 => ?_))
          · exact (am_e5 rfl).trans rfl
          · refine (am_e0 rfl rfl).trans ?_
            refine (am_e0 rfl rfl).trans ?_
            refine (am_dvi rfl).trans (am_if_congr (fun _ => rfl) (fun c125 => ?_))
            refine (am_e0 rfl rfl).trans ?_
            refine (am_e0 rfl rfl).trans ?_
            refine am_lets (L := fun v126 => [(0, x0), (0, x1), (0, x2), (1, v126), am_N]) (fun v126 => ?_)
            exact (am_e5 rfl).trans rfl
  refine (am_sw_c).trans (am_if_congr (fun c127 => ?_) (fun c127 => ?_))
  · refine (am_e0 rfl rfl).trans ?_
    refine (am_e0 rfl rfl).trans ?_
    refine (am_e0 rfl rfl).trans ?_
    refine (am_e0 rfl rfl).trans ?_
    refine (am_i_ne rfl).trans (am_if_congr (fun c128 => ?_) (fun c128 => ?_))
    · refine (am_e0 rfl rfl).trans ?_
      refine (am_e0 rfl rfl).trans ?_
      refine (am_e0 rfl rfl).trans ?_
      refine (am_e0 rfl rfl).trans ?_
      refine (am_e0 rfl rfl).trans ?_
      refine (am_e0 rfl rfl).trans ?_
      refine am_lets (L := fun v129 => [(0, x0), (0, x1), (0, x2), (1, v129), am_N]) (fun v129 => ?_)
      refine (am_e1 rfl rfl).trans ?_
      exact (am_e5 rfl).trans rfl
    · refine (am_e0 rfl rfl).trans ?_
      refine (am_e0 rfl rfl).trans ?_
      refine (am_i_ne rfl).trans (am_if_congr (fun c130 => ?_) (fun c130 => ?_))
      · refine (am_e0 rfl rfl).trans ?_
        refine (am_e0 rfl rfl).trans ?_
        refine (am_e0 rfl rfl).trans ?_
        refine (am_e0 rfl rfl).trans ?_
        refine (am_e0 rfl rfl).trans ?_
        refine (am_e0 rfl rfl).trans ?_
        refine am_lets (L := fun v131 => [(0, x0), (0, x1), (0, x2), (1, v131), am_N]) (fun v131 => ?_)
        refine (am_e1 rfl rfl).trans ?_
        exact (am_e5 rfl).trans rfl
      · refine (am_e0 rfl rfl).trans ?_
        refine (am_e0 rfl rfl).trans ?_
        refine (am_i_ne rfl).trans (am_if_congr (fun c132 => ?_) (fun c132 => ?_))
        · refine (am_e0 rfl rfl).trans ?_
          refine (am_e0 rfl rfl).trans ?_
          refine (am_e0 rfl rfl).trans ?_
          refine (am_e0 rfl rfl).trans ?_
          refine (am_e0 rfl rfl).trans ?_
          refine (am_e0 rfl rfl).trans ?_
          refine am_lets (L := fun v133 => [(0, x0), (0, x1), (0, x2), (1, v133), am_N]) (fun v133 => ?_)
          refine (am_e1 rfl rfl).trans ?_
          exact (am_e5 rfl).trans rfl
        · refine (am_e0 rfl rfl).trans ?_
          refine (am_z_eq rfl).trans (am_if_congr (fun c134 => ?_) (fun c134 => ?_))
          · exact (am_e5 rfl).trans rfl
          · refine (am_e0 rfl rfl).trans ?_
            refine (am_e0 rfl rfl).trans ?_
            refine (am_dvi rfl).trans (am_if_congr (fun _ => rfl) (fun c135 => ?_))
            refine (am_e0 rfl rfl).trans ?_
            refine (am_e0 rfl rfl).trans ?_
            refine am_lets (L := fun v136 => [(0, x0), (0, x1), (0, x2), (1, v136), am_N]) (fun v136 => ?_)
            exact (am_e5 rfl).trans rfl
  refine (am_sw_c).trans (am_if_congr (fun c137 => ?_) (fun c137 => ?_))
  · refine (am_e0 rfl rfl).trans ?_
    refine (am_e0 rfl rfl).trans ?_
    refine (am_e0 rfl rfl).trans ?_
    refine (am_e0 rfl rfl).trans ?_
    refine (am_i_ne rfl).trans (am_if_congr (fun c138 => ?_) (fun c138 => ?_))
    · refine (am_e0 rfl rfl).trans ?_
      refine (am_e0 rfl rfl).trans ?_
      refine (am_e0 rfl rfl).trans ?_
      refine (am_e0 rfl rfl).trans ?_
      refine (am_e0 rfl rfl).trans ?_
      refine (am_e0 rfl rfl).trans ?_
      refine am_lets (L := fun v139 => [(0, x0), (0, x1), (0, x2), (1, v139), am_N]) (fun v139 => ?_)
      refine (am_e1 rfl rfl).trans ?_
      exact (am_e5 rfl).trans rfl
    · refine (am_e0 rfl rfl).trans ?_
      refine (am_e0 rfl rfl).trans ?_
      refine (am_i_ne rfl).trans (am_if_congr (fun c140 => ?_) (fun c140 => ?_))
      · refine (am_e0 rfl rfl).trans ?_
        refine (am_e0 rfl rfl).trans ?_
        refine (am_e0 rfl rfl).trans ?_
        refine (am_e0 rfl rfl).trans ?_
        refine (am_e0 rfl rfl).trans ?_
        refine (am_e0 rfl rfl).trans ?_
        refine am_lets (L := fun v141 => [(0, x0), (0, x1), (0, x2), (1, v141), am_N]) (fun v141 => ?_)
        refine (am_e1 rfl rfl).trans ?_
        exact (am_e5 rfl).trans rfl
      · refine (am_e0 rfl rfl).trans ?_
        refine (am_e0 rfl rfl).trans ?_
        refine (am_i_ne rfl).trans (am_if_congr (fun c142 => ?_) (fun c142 => ?_))
        · refine (am_e0 rfl rfl).trans ?_
          refine (am_e0 rfl rfl).trans ?_
          refine (am_e0 rfl rfl).trans ?_
          refine (am_e0 rfl rfl).trans ?_
          refine (am_e0 rfl rfl).trans ?_
          refine (am_e0 rfl rfl).trans ?_
          refine am_lets (L := fun v143 => [(0, x0), (0, x1), (0, x2), (1, v143), am_N]) (fun v143 => ?_)
          refine (am_e1 rfl rfl).trans ?_
          exact (am_e5 rfl).trans rfl
        · refine (am_e0 rfl rfl).trans ?_
          refine (am_z_eq rfl).trans (am_if_congr (fun c144 => ?_) (fun c144 => ?_))
          · exact (am_e5 rfl).trans rfl
          · refine (am_e0 rfl rfl).trans ?_
            refine (am_e0 rfl rfl).trans ?_
            refine (am_dvi rfl).trans (am_if_congr (fun _ => rfl) (fun c145 => ?_))
            refine (am_e0 rfl rfl).trans ?_
            refine (am_e0 rfl rfl).trans ?_
            refine am_lets (L := fun v146 => [(0, x0), (0, x1), (0, x2), (1, v146), am_N]) (fun v146 => ?_)
            exact (am_e5 rfl).trans rfl
  refine (am_sw_c).trans (am_if_congr (fun c147 => ?_) (fun c147 => ?_))
  · refine (am_e0 rfl rfl).trans ?_
    refine (am_e0 rfl rfl).trans ?_
    refine (am_e0 rfl rfl).trans ?_
    refine (am_e0 rfl rfl).trans ?_
    refine (am_i_ne rfl).trans (am_if_congr (fun c148 => ?_) (fun c148 => ?_))
    · refine (am_e0 rfl rfl).trans ?_
      refine (am_e0 rfl rfl).trans ?_
      refine (am_e0 rfl rfl).trans ?_
      refine (am_e0 rfl rfl).trans ?_
      refine (am_e0 rfl rfl).trans ?_
      refine (am_e0 rfl rfl).trans ?_
      refine am_lets (L := fun v149 => [(0, x0), (0, x1), (0, x2), (1, v149), am_N]) (fun v149 => ?_)
      refine (am_e1 rfl rfl).trans ?_
      exact (am_e5 rfl).trans rfl
    · refine (am_e0 rfl rfl).trans ?_
      refine (am_e0 rfl rfl).trans ?_
      refine (am_i_ne rfl).trans (am_if_congr (fun c150 => ?_) (fun c150 => ?_))
      · refine (am_e0 rfl rfl).trans ?_
        refine (am_e0 rfl rfl).trans ?_
        refine (am_e0 rfl rfl).trans ?_
        refine (am_e0 rfl rfl).trans ?_
        refine (am_e0 rfl rfl).trans ?_
        refine (am_e0 rfl rfl).trans ?_
        refine am_lets (L := fun v151 => [(0, x0), (0, x1), (0, x2), (1, v151), am_N]) (fun v151 => ?_)
        refine (am_e1 rfl rfl).trans ?_
        exact (am_e5 rfl).trans rfl
      · refine (am_e0 rfl rfl).trans ?_
        refine (am_e0 rfl rfl).trans ?_
        refine (am_i_ne rfl).trans (am_if_congr (fun c152 => ?_) (fun c152 => ?_))
        · refine (am_e0 rfl rfl).trans ?_
          refine (am_e0 rfl rfl).trans ?_
          refine (am_e0 rfl rfl).trans ?_
          refine (am_e0 rfl rfl).trans ?_
          refine (am_e0 rfl rfl).trans ?_
          refine (am_e0 rfl rfl).trans ?_
          refine am_lets (L := fun v153 => [(0, x0), (0, x1), (0, x2), (1, v153), am_N]) (fun v153 => ?_)
          refine (am_e1 rfl rfl).trans ?_
          exact (am_e5 rfl).trans rfl
        · refine (am_e0 rfl rfl).trans ?_
          refine (am_z_eq rfl).trans (am_if_congr (fun c154 => ?_) (fun c154 => ?_))
          · exact (am_e5 rfl).trans rfl
          · refine (am_e0 rfl rfl).trans ?_
            refine (am_e0 rfl rfl).trans ?_
            refine (am_dvi rfl).trans (am_if_congr (fun _ => rfl) (fun c155 => ?_))
            refine (am_e0 rfl rfl).trans ?_
            refine (am_e0 rfl rfl).trans ?_
            refine am_lets (L := fun v156 => [(0, x0), (0, x1), (0, x2), (1, v156), am_N]) (fun v156 => ?_)
            exact (am_e5 rfl).trans rfl
  refine (am_sw_c).trans (am_if_congr (fun c157 => ?_) (fun c157 => ?_))
  · refine (am_e0 rfl rfl).trans ?_
    refine (am_e0 rfl rfl).trans ?_
    refine (am_e0 rfl rfl).trans ?_
    refine (am_e0 rfl rfl).trans ?_
    refine (am_i_ne rfl).trans (am_if_congr (fun c158 => ?_) (fun c158 => ?_))
    · refine (am_e0 rfl rfl).trans ?_
      refine (am_e0 rfl rfl).trans ?_
      refine (am_e0 rfl rfl).trans ?_
      refine (am_e0 rfl rfl).trans ?_
      refine (am_e0 rfl rfl).trans ?_
      refine (am_e0 rfl rfl).trans ?_
      refine am_lets (L := fun v159 => [(0, x0), (0, x1), (0, x2), (1, v159), am_N]) (fun v159 => ?_)
      refine (am_e1 rfl rfl).trans ?_
      exact (am_e5 rfl).trans rfl
    · refine (am_e0 rfl rfl).trans ?_
      refine (am_e0 rfl rfl).trans ?_
      refine (am_i_ne rfl).trans (am_if_congr (fun c160 => ?_) (fun c160 => ?_))
      · refine (am_e0 rfl rfl).trans ?_
        refine (am_e0 rfl rfl).trans ?_
        refine (am_e0 rfl rfl).trans ?_
        refine (am_e0 rfl rfl).trans ?_
        refine (am_e0 rfl rfl).trans ?_
        refine (am_e0 rfl rfl).trans ?_
        refine am_lets (L := fun v161 => [(0, x0), (0, x1), (0, x2), (1, v161), am_N]) (fun v161 => ?_)
        refine (am_e1 rfl rfl).trans ?_
        exact (am_e5 rfl).trans rfl
      · refine (am_e0 rfl rfl).trans ?_
        refine (am_e0 rfl rfl).trans ?_
        refine (am_i_ne rfl).trans (am_if_congr (fun c162 => ?_) (fun c162 => ?_))
        · refine (am_e0 rfl rfl).trans ?_
          refine (am_e0 rfl rfl).trans ?_
          refine (am_e0 rfl rfl).trans ?_
          refine (am_e0 rfl rfl).trans ?_
          refine (am_e0 rfl rfl).trans ?_
          refine (am_e0 rfl rfl).trans ?_
          refine am_lets (L := fun v163 => [(0, x0), (0, x1), (0, x2), (1, v163), am_N]) (fun v163 => ?_)
          refine (am_e1 rfl rfl).trans ?_
          exact (am_e5 rfl).trans rfl
        · refine (am_e0 rfl rfl).trans ?_
          refine (am_z_eq rfl).trans (am_if_congr (fun c164 => ?_) (fun c164 => ?_))
          · exact (am_e5 rfl).trans rfl
          · refine (am_e0 rfl rfl).trans ?_
            refine (am_e0 rfl rfl).trans ?_
            refine (am_dvi rfl).trans (am_if_congr (fun _ => rfl) (fun c165 => ?_))
            refine (am_e0 rfl rfl).trans ?_
            refine (am_e0 rfl rfl).trans ?_
            refine am_lets (L := fun v166 => [(0, x0), (0, x1), (0, x2), (1, v166), am_N]) (fun v166 => ?_)
            exact (am_e5 rfl).trans rfl
  refine (am_sw_c).trans (am_if_congr (fun c167 => ?_) (fun c167 => ?_))
  · refine (am_e0 rfl rfl).trans ?_
    refine (am_e0 rfl rfl).trans ?_
    refine (am_i_ge rfl).trans (am_if_congr (fun c168 => ?_) (fun c168 => ?_))
    · refine (am_e0 rfl rfl).trans ?_
      refine (am_e1 rfl rfl).trans ?_
      exact rfl
    · refine (am_e0 rfl rfl).trans ?_
      exact rfl
  refine (am_sw_c).trans (am_if_congr (fun c169 => ?_) (fun c169 => ?_))
  · refine (am_e0 rfl rfl).trans ?_
    refine (am_e0 rfl rfl).trans ?_
    refine (am_i_le rfl).trans (am_if_congr (fun c170 => ?_) (fun c170 => ?_))
    · refine (am_e0 rfl rfl).trans ?_
      exact rfl
    · refine (am_e0 rfl rfl).trans ?_
      refine (am_e1 rfl rfl).trans ?_
      exact rfl
  refine (am_sw_c).trans (am_if_congr (fun c171 => ?_) (fun c171 => ?_))
  · refine (am_e0 rfl rfl).trans ?_
    refine (am_e0 rfl rfl).trans ?_
    refine (am_i_ne rfl).trans (am_if_congr (fun c172 => ?_) (fun c172 => ?_))
    · refine (am_e0 rfl rfl).trans ?_
      refine (am_e1 rfl rfl).trans ?_
      exact rfl
    · refine (am_e0 rfl rfl).trans ?_
      exact rfl
  refine (am_sw_c).trans (am_if_congr (fun c173 => ?_) (fun c173 => ?_))
  · refine (am_e0 rfl rfl).trans ?_
    refine (am_e0 rfl rfl).trans ?_
    refine (am_i_eq rfl).trans (am_if_congr (fun c174 => ?_) (fun c174 => ?_))
    · refine (am_e0 rfl rfl).trans ?_
      exact rfl
    · refine (am_e0 rfl rfl).trans ?_
      refine (am_e1 rfl rfl).trans ?_
      exact rfl
  refine (am_sw_c).trans (am_if_congr (fun c175 => ?_) (fun c175 => ?_))
  · refine (am_e0 rfl rfl).trans ?_
    refine (am_e0 rfl rfl).trans ?_
    refine (am_e0 rfl rfl).trans ?_
    refine (am_e0 rfl rfl).trans ?_
    refine (am_i_ne rfl).trans (am_if_congr (fun c176 => ?_) (fun c176 => ?_))
    · refine (am_e0 rfl rfl).trans ?_
      refine (am_e0 rfl rfl).trans ?_
      refine (am_e0 rfl rfl).trans ?_
      refine (am_e0 rfl rfl).trans ?_
      refine (am_e0 rfl rfl).trans ?_
      refine (am_e0 rfl rfl).trans ?_
      refine am_lets (L := fun v177 => [(0, x0), (0, x1), (0, x2), (1, v177), am_N]) (fun v177 => ?_)
      refine (am_e1 rfl rfl).trans ?_
      exact (am_e5 rfl).trans rfl
    · refine (am_e0 rfl rfl).trans ?_
      refine (am_e0 rfl rfl).trans ?_
      refine (am_i_ne rfl).trans (am_if_congr (fun c178 => ?_) (fun c178 => ?_))
      · refine (am_e0 rfl rfl).trans ?_
        refine (am_e0 rfl rfl).trans ?_
        refine (am_e0 rfl rfl).trans ?_
        refine (am_e0 rfl rfl).trans ?_
        refine (am_e0 rfl rfl).trans ?_
        refine (am_e0 rfl rfl).trans ?_
        refine am_lets (L := fun v179 => [(0, x0), (0, x1), (0, x2), (1, v179), am_N]) (fun v179 => ?_)
        refine (am_e1 rfl rfl).trans ?_
        exact (am_e5 rfl).trans rfl
      · refine (am_e0 rfl rfl).trans ?_
        refine (am_e0 rfl rfl).trans ?_
        refine (am_i_ne rfl).trans (am_if_congr (fun c180 => ?_) (fun c180 => ?_))
        · refine (am_e0 rfl rfl).trans ?_
          refine (am_e0 rfl rfl).trans ?_
          refine (am_e0 rfl rfl).trans ?_
          refine (am_e0 rfl rfl).trans ?_
          refine (am_e0 rfl rfl).trans ?_
          refine (am_e0 rfl rfl).trans ?_
          refine am_lets (L := fun v181 => [(0, x0), (0, x1), (0, x2), (1, v181), am_N]) (fun v181 => ?_)
          refine (am_e1 rfl rfl).trans ?_
          exact (am_e5 rfl).trans rfl
        · refine (am_e0 rfl rfl).trans ?_
          refine (am_z_eq rfl).trans (am_if_congr (fun c182 => ?_) (fun c182 => ?_))
          · exact (am_e5 rfl).trans rfl
          · refine (am_e0 rfl rfl).trans ?_
            refine (am_e0 rfl rfl).trans ?_
            refine (am_dvi rfl).trans (am_if_congr (fun _ => rfl) (fun c183 => ?_))
            refine (am_e0 rfl rfl).trans ?_
            refine (am_e0 rfl rfl).trans ?_
            refine am_lets (L := fun v184 => [(0, x0), (0, x1), (0, x2), (1, v184), am_N]) (fun v184 => ?_)
            exact (am_e5 rfl).trans rfl
  refine (am_sw_c).trans (am_if_congr (fun c185 => ?_) (fun c185 => ?_))
  · refine (am_e0 rfl rfl).trans ?_
    refine (am_e0 rfl rfl).trans ?_
    refine (am_e0 rfl rfl).trans ?_
    refine (am_e0 rfl rfl).trans ?_
    refine (am_i_ne rfl).trans (am_if_congr (fun c186 => ?_) (fun c186 => ?_))
    · refine (am_e0 rfl rfl).trans ?_
      refine (am_e0 rfl rfl).trans ?_
      refine (am_e0 rfl rfl).trans ?_
      refine (am_e0 rfl rfl).trans ?_
      refine (am_e0 rfl rfl).trans ?_
      refine (am_e0 rfl rfl).trans ?_
      refine am_lets (L := fun v187 => [(0, x0), (0, x1), (0, x2), (1, v187), am_N]) (fun v187 => ?_)
      refine (am_e1 rfl rfl).trans ?_
      exact (am_e5 rfl).trans rfl
    · refine (am_e0 rfl rfl).trans ?_
      refine (am_e0 rfl rfl).trans ?_
      refine (am_i_ne rfl).trans (am_if_congr (fun c188 => ?_) (fun c188 => ?_))
      · refine (am_e0 rfl rfl).trans ?_
        refine (am_e0 rfl rfl).trans ?_
        refine (am_e0 rfl rfl).trans ?_
        refine (am_e0 rfl rfl).trans ?_
        refine (am_e0 rfl rfl).trans ?_
        refine (am_e0 rfl rfl).trans ?_
        refine am_lets (L := fun v189 => [(0, x0), (0, x1), (0, x2), (1, v189), am_N]) (fun v189 => ?_)
        refine (am_e1 rfl rfl).trans ?_
        exact (am_e5 rfl).trans rfl
      · refine (am_e0 rfl rfl).trans ?_
        refine (am_e0 rfl rfl).trans ?_
        refine (am_i_ne rfl).trans (am_if_congr (fun c190 => ?_) (fun c190 => ?_))
        · refine (am_e0 rfl rfl).trans ?_
          refine (am_e0 rfl rfl).trans ?_
          refine (am_e0 rfl rfl).trans ?_
          refine (am_e0 rfl rfl).trans ?_
          refine (am_e0 rfl rfl).trans ?_
          refine (am_e0 rfl rfl).trans ?_
          refine am_lets (L := fun v191 => [(0, x0), (0, x1), (0, x2), (1, v191), am_N]) (fun v191 => ?_)
          refine (am_e1 rfl rfl).trans ?_
          exact (am_e5 rfl).trans rfl
        · refine (am_e0 rfl rfl).trans ?_
          refine (am_z_eq rfl).trans (am_if_congr (fun c192 => ?_) (fun c192 => ?_))
          · exact (am_e5 rfl).trans rfl
          · refine (am_e0 rfl rfl).trans ?_
            refine (am_e0 rfl rfl).trans ?_
            refine (am_dvi rfl).trans (am_if_congr (fun _ => rfl) (fun c193 => ?_))
            refine (am_e0 rfl rfl).trans ?_
            refine (am_e0 rfl rfl).trans ?_
            refine am_lets (L := fun v194 => [(0, x0), (0, x1), (0, x2), (1, v194), am_N]) (fun v194 => ?_)
            exact (am_e5 rfl).trans rfl
  refine (am_sw_c).trans (am_if_congr (fun c195 => ?_) (fun c195 => ?_))
  · refine (am_e0 rfl rfl).trans ?_
    refine (am_e0 rfl rfl).trans ?_
    refine (am_e0 rfl rfl).trans ?_
    refine (am_e0 rfl rfl).trans ?_
    refine (am_i_ne rfl).trans (am_if_congr (fun c196 => ?_) (fun c196 => ?_))
    · refine (am_e0 rfl rfl).trans ?_
      refine (am_e0 rfl rfl).trans ?_
      refine (am_e0 rfl rfl).trans ?_
      refine (am_e0 rfl rfl).trans ?_
      refine (am_e0 rfl rfl).trans ?_
      refine (am_e0 rfl rfl).trans ?_
      refine am_lets (L := fun v197 => [(0, x0), (0, x1), (0, x2), (1, v197), am_N]) (fun v197 => ?_)
      refine (am_e1 rfl rfl).trans ?_
      exact (am_e5 rfl).trans rfl
    · refine (am_e0 rfl rfl).trans ?_
      refine (am_e0 rfl rfl).trans ?_
      refine (am_i_ne rfl).trans (am_if_congr (fun c198 => ?_) (fun c198 => ?_))
      · refine (am_e0 rfl rfl).trans ?_
        refine (am_e0 rfl rfl).trans ?_
        refine (am_e0 rfl rfl).trans ?_
        refine (am_e0 rfl rfl).trans ?_
        refine (am_e0 rfl rfl).trans ?_
        refine (am_e0 rfl rfl).trans ?_
        refine am_lets (L := fun v199 => [(0, x0), (0, x1), (0, x2), (1, v199), am_N]) (fun v199 => ?_)
        refine (am_e1 rfl rfl).trans ?_
        exact (am_e5 rfl).trans rfl
      · refine (am_e0 rfl rfl).trans ?_
        refine (am_e0 rfl rfl).trans ?_
        refine (am_i_ne rfl).trans (am_if_congr (fun c200 => ?_) (fun c200 => ?_))
        · refine (am_e0 rfl rfl).trans ?_
          refine (am_e0 rfl rfl).trans ?_
          refine (am_e0 rfl rfl).trans ?_
          refine (am_e0 rfl rfl).trans ?_
          refine (am_e0 rfl rfl).trans ?_
          refine (am_e0 rfl rfl).trans ?_
          refine am_lets (L := fun v201 => [(0, x0), (0, x1), (0, x2), (1, v201), am_N]) (fun v201 => ?_)
          refine (am_e1 rfl rfl).trans ?_
          exact (am_e5 rfl).trans rfl
        · refine (am_e0 rfl rfl).trans ?_
          refine (am_z_eq rfl).trans (am_if_congr (fun c202 => ?_) (fun c202 => ?_))
          · exact (am_e5 rfl).trans rfl
          · refine (am_e0 rfl rfl).trans ?_
            refine (am_e0 rfl rfl).trans ?_
            refine (am_dvi rfl).trans (am_if_congr (fun _ => rfl) (fun c203 => ?_))
            refine (am_e0 rfl rfl).trans ?_
            refine (am_e0 rfl rfl).trans ?_
            refine am_lets (L := fun v204 => [(0, x0), (0, x1), (0, x2), (1, v204), am_N]) (fun v204 => ?_)
            exact (am_e5 rfl).trans rfl
  refine (am_sw_c).trans (am_if_congr (fun c205 => ?_) (fun c205 => ?_))
  · refine (am_e0 rfl rfl).trans ?_
    refine (am_e0 rfl rfl).trans ?_
    refine (am_e0 rfl rfl).trans ?_
    refine (am_e0 rfl rfl).trans ?_
    refine (am_i_ne rfl).trans (am_if_congr (fun c206 => ?_) (fun c206 => ?_))
    · refine (am_e0 rfl rfl).trans ?_
      refine (am_e0 rfl rfl).trans ?_
      refine (am_e0 rfl rfl).trans ?_
      refine (am_e0 rfl rfl).trans ?_
      refine (am_e0 rfl rfl).trans ?_
      refine (am_e0 rfl rfl).trans ?_
      refine am_lets (L := fun v207 => [(0, x0), (0, x1), (0, x2), (1, v207), am_N]) (fun v207 => ?_)
      refine (am_e1 rfl rfl).trans ?_
      exact (am_e5 rfl).trans rfl
    · refine (am_e0 rfl rfl).trans ?_
      refine (am_e0 rfl rfl).trans ?_
      refine (am_i_ne rfl).trans (am_if_congr (fun c208 => ?_) (fun c208 => ?_))
      · refine (am_e0 rfl rfl).trans ?_
        refine (am_e0 rfl rfl).trans ?_
        refine (am_e0 rfl rfl).trans ?_
        refine (am_e0 rfl rfl).trans ?_
        refine (am_e0 rfl rfl).trans ?_
        refine (am_e0 rfl rfl).trans ?_
        refine am_lets (L := fun v209 => [(0, x0), (0, x1), (0, x2), (1, v209), am_N]) (fun v209 => ?_)
        refine (am_e1 rfl rfl).trans ?_
        exact (am_e5 rfl).trans rfl
      · refine (am_e0 rfl rfl).trans ?_
        refine (am_e0 rfl rfl).trans ?_
        refine (am_i_ne rfl).trans (am_if_congr (fun c210 => ?_) (fun c210 => ?_))
        · refine (am_e0 rfl rfl).trans ?_
          refine (am_e0 rfl rfl).trans ?_
          refine (am_e0 rfl rfl).trans ?_
          refine (am_e0 rfl rfl).trans ?_
          refine (am_e0 rfl rfl).trans ?_
          refine (am_e0 rfl rfl).trans ?_
          refine am_lets (L := fun v211 => [(0, x0), (0, x1), (0, x2), (1, v211), am_N]) (fun v211 => ?_)
          refine (am_e1 rfl rfl).trans ?_
          exact (am_e5 rfl).trans rfl
        · refine (am_e0 rfl rfl).trans ?_
          refine (am_z_eq rfl).trans (am_if_congr (fun c212 => ?_) (fun c212 => ?_))
          · exact (am_e5 rfl).trans rfl
          · refine (am_e0 rfl rfl).trans ?_
            refine (am_e0 rfl rfl).trans ?_
            refine (am_dvi rfl).trans (am_if_congr (fun _ => rfl) (fun c213 => ?_))
            refine (am_e0 rfl rfl).trans ?_
            refine (am_e0 rfl rfl).trans ?_
            refine am_lets (L := fun v214 => [(0, x0), (0, x1), (0, x2), (1, v214), am_N]) (fun v214 => ?_)
            exact (am_e5 rfl).trans rfl
  refine (am_sw_c).trans (am_if_congr (fun c215 => ?_) (fun c215 => ?_))
  · refine (am_e0 rfl rfl).trans ?_
    refine (am_e0 rfl rfl).trans ?_
    refine (am_e0 rfl rfl).trans ?_
    refine (am_e0 rfl rfl).trans ?_
    refine (am_i_ne rfl).trans (am_if_congr (fun c216 => ?_) (fun c216 => ?_))
    · refine (am_e0 rfl rfl).trans ?_
      refine (am_e0 rfl rfl).trans ?_
      refine (am_e0 rfl rfl).trans ?_
      refine (am_e0 rfl rfl).trans ?_
      refine (am_e0 rfl rfl).trans ?_
      refine (am_e0 rfl rfl).trans ?_
      refine am_lets (L := fun v217 => [(0, x0), (0, x1), (0, x2), (1, v217), am_N]) (fun v217 => ?_)
      refine (am_e1 rfl rfl).trans ?_
      exact (am_e5 rfl).trans rfl
    · refine (am_e0 rfl rfl).trans ?_
      refine (am_e0 rfl rfl).trans ?_
      refine (am_i_ne rfl).trans (am_if_congr (fun c218 => ?_) (fun c218 => ?_))
      · refine (am_e0 rfl rfl).trans ?_
        refine (am_e0 rfl rfl).trans ?_
        refine (am_e0 rfl rfl).trans ?_
        refine (am_e0 rfl rfl).trans ?_
        refine (am_e0 rfl rfl).trans ?_
        refine (am_e0 rfl rfl).trans ?_
        refine am_lets (L := fun v219 => [(0, x0), (0, x1), (0, x2), (1, v219), am_N]) (fun v219 => ?_)
        refine (am_e1 rfl rfl).trans ?_
        exact (am_e5 rfl).trans rfl
      · refine (am_e0 rfl rfl).trans ?_
        refine (am_e0 rfl rfl).trans ?_
        refine (am_i_ne rfl).trans (am_if_congr (fun c220 => ?_) (fun c220 => ?_))
        · refine (am_e0 rfl rfl).trans ?_
          refine (am_e0 rfl rfl).trans ?_
          refine (am_e0 rfl rfl).trans ?_
          refine (am_e0 rfl rfl).trans ?_
          refine (am_e0 rfl rfl).trans ?_
          refine (am_e0 rfl rfl).trans ?_
          refine am_lets (L := fun v221 => [(0, x0), (0, x1), (0, x2), (1, v221), am_N]) (fun v221 => ?_)
          refine (am_e1 rfl rfl).trans ?_
          exact (am_e5 rfl).trans rfl
        · refine (am_e0 rfl rfl).trans ?_
          refine (am_z_eq rfl).trans (am_if_congr (fun c222 => ?_) (fun c222 => ?_))
          · exact (am_e5 rfl).trans rfl
          · refine (am_e0 rfl rfl).trans ?_
            refine (am_e0 rfl rfl).trans ?_
            refine (am_dvi rfl).trans (am_if_congr (fun _ => rfl) (fun c223 => ?_))
            refine (am_e0 rfl rfl).trans ?_
            refine (am_e0 rfl rfl).trans ?_
            refine am_lets (L := fun v224 => [(0, x0), (0, x1), (0, x2), (1, v224), am_N]) (fun v224 => ?_)
            exact (am_e5 rfl).trans rfl
  refine (am_sw_c).trans (am_if_congr (fun c225 => ?_) (fun c225 => ?_))
  · refine (am_e0 rfl rfl).trans ?_
    refine (am_e0 rfl rfl).trans ?_
    refine (am_e0 rfl rfl).trans ?_
    refine (am_e0 rfl rfl).trans ?_
    refine (am_i_ne rfl).trans (am_if_congr (fun c226 => ?_) (fun c226 => ?_))
    · refine (am_e0 rfl rfl).trans ?_
      refine (am_e0 rfl rfl).trans ?_
      refine (am_e0 rfl rfl).trans ?_
      refine (am_e0 rfl rfl).trans ?_
      refine (am_e0 rfl rfl).trans ?_
      refine (am_e0 rfl rfl).trans ?_
      refine am_lets (L := fun v227 => [(0, x0), (0, x1), (0, x2), (1, v227), am_N]) (fun v227 => ?_)
      refine (am_e1 rfl rfl).trans ?_
      exact (am_e5 rfl).trans rfl
    · refine (am_e0 rfl rfl).trans ?_
      refine (am_e0 rfl rfl).trans ?_
      refine (am_i_ne rfl).trans (am_if_congr (fun c228 => ?_) (fun c228 => ?_))
      · refine (am_e0 rfl rfl).trans ?_
        refine (am_e0 rfl rfl).trans ?_
        refine (am_e0 rfl rfl).trans ?_
        refine (am_e0 rfl rfl).trans ?_
        refine (am_e0 rfl rfl).trans ?_
        refine (am_e0 rfl rfl).trans ?_
        refine am_lets (L := fun v229 => [(0, x0), (0, x1), (0, x2), (1, v229), am_N]) (fun v229 => ?_)
        refine (am_e1 rfl rfl).trans ?_
        exact (am_e5 rfl).trans rfl
      · refine (am_e0 rfl rfl).trans ?_
        refine (am_e0 rfl rfl).trans ?_
        refine (am_i_ne rfl).trans (am_if_congr (fun c230 => ?_) (fun c230 => ?_))
        · refine (am_e0 rfl rfl).trans ?_
          refine (am_e0 rfl rfl).trans ?_
          refine (am_e0 rfl rfl).trans ?_
          refine (am_e0 rfl rfl).trans ?_
          refine (am_e0 rfl rfl).trans ?_
          refine (am_e0 rfl rfl).trans ?_
          refine am_lets (L := fun v231 => [(0, x0), (0, x1), (0, x2), (1, v231), am_N]) (fun v231 => ?_)
          refine (am_e1 rfl rfl).trans ?_
          exact (am_e5 rfl).trans rfl
        · refine (am_e0 rfl rfl).trans ?_
          refine (am_z_eq rfl).trans (am_if_congr (fun c232 => ?_) (fun c232 => ?_))
          · exact (am_e5 rfl).trans rfl
          · refine (am_e0 rfl rfl).trans ?_
            refine (am_e0 rfl rfl).trans ?_
            refine (am_dvi rfl).trans (am_if_congr (fun _ => rfl) (fun c233 => ?_))
            refine (am_e0 rfl rfl).trans ?_
            refine (am_e0 rfl rfl).trans ?_
            refine am_lets (L := fun v234 => [(0, x0), (0, x1), (0, x2), (1, v234), am_N]) (fun v234 => ?_)
            exact (am_e5 rfl).trans rfl
  refine (am_sw_c).trans (am_if_congr (fun c235 => ?_) (fun c235 => ?_))
  · refine (am_e0 rfl rfl).trans ?_
    refine (am_e0 rfl rfl).trans ?_
    refine (am_e0 rfl rfl).trans ?_
    refine (am_e0 rfl rfl).trans ?_
    refine (am_i_ne rfl).trans (am_if_congr (fun c236 => ?_) (fun c236 => ?_))
    · refine (am_e0 rfl rfl).trans ?_
      refine (am_e0 rfl rfl).trans ?_
      refine (am_e0 rfl rfl).trans ?_
      refine (am_e0 rfl rfl).trans ?_
      refine (am_e0 rfl rfl).trans ?_
      refine (am_e0 rfl rfl).trans ?_
      refine am_lets (L := fun v237 => [(0, x0), (0, x1), (0, x2), (1, v237), am_N]) (fun v237 => ?_)
      refine (am_e1 rfl rfl).trans ?_
      exact (am_e5 rfl).trans rfl
    · refine (am_e0 rfl rfl).trans ?_
      refine (am_e0 rfl rfl).trans ?_
      refine (am_i_ne rfl).trans (am_if_congr (fun c238 => ?_) (fun c238 => ?_))
      · refine (am_e0 rfl rfl).trans ?_
        refine (am_e0 rfl rfl).trans ?_
        refine (am_e0 rfl rfl).trans ?_
        refine (am_e0 rfl rfl).trans ?_
        refine (am_e0 rfl rfl).trans ?_
        refine (am_e0 rfl rfl).trans ?_
        refine am_lets (L := fun v239 => [(0, x0), (0, x1), (0, x2), (1, v239), am_N]) (fun v239 => ?_)
        refine (am_e1 rfl rfl).trans ?_
        exact (am_e5 rfl).trans rfl
      · refine (am_e0 rfl rfl).trans ?_
        refine (am_e0 rfl rfl).trans ?_
        refine (am_i_ne rfl).trans (am_if_congr (fun c240 => ?_) (fun c240 => ?_))
        · refine (am_e0 rfl rfl).trans ?_
          refine (am_e0 rfl rfl).trans ?_
          refine (am_e0 rfl rfl).trans ?_
          refine (am_e0 rfl rfl).trans ?_
          refine (am_e0 rfl rfl).trans ?_
          refine (am_e0 rfl rfl).trans ?_
          refine am_lets (L := fun v241 => [(0, x0), (0, x1), (0, x2), (1, v241), am_N]) (fun v241 => ?_)
          refine (am_e1 rfl rfl).trans ?_
          exact (am_e5 rfl).trans rfl
        · refine (am_e0 rfl rfl).trans ?_
          refine (am_z_eq rfl).trans (am_if_congr (fun c242 => ?_) (fun c242 => ?_))
          · exact (am_e5 rfl).trans rfl
          · refine (am_e0 rfl rfl).trans ?_
            refine (am_e0 rfl rfl).trans ?_
            refine (am_dvi rfl).trans (am_if_congr (fun _ => rfl) (fun c243 => ?_))
            refine (am_e0 rfl rfl).trans ?_
            refine (am_e0 rfl rfl).trans ?_
            refine am_lets (L := fun v244 => [(0, x0), (0, x1), (0, x2), (1, v244), am_N]) (fun v244 => ?_)
            exact (am_e5 rfl).trans rfl
  refine (am_sw_c).trans (am_if_congr (fun c245 => ?_) (fun c245 => ?_))
  · refine (am_e0 rfl rfl).trans ?_
    refine (am_e0 rfl rfl).trans ?_
    refine (am_i_gt rfl).trans (am_if_congr (fun c246 => ?_) (fun c246 => ?_))
    · refine (am_e0 rfl rfl).trans ?_
      refine (am_e1 rfl rfl).trans ?_
      exact rfl
    · refine (am_e0 rfl rfl).trans ?_
      exact rfl
  refine (am_sw_c).trans (am_if_congr (fun c247 => ?_) (fun c247 => ?_))
  · refine (am_e0 rfl rfl).trans ?_
    refine (am_e0 rfl rfl).trans ?_
    refine (am_i_lt rfl).trans (am_if_congr (fun c248 => ?_) (fun c248 => ?_))
    · refine (am_e0 rfl rfl).trans ?_
      exact rfl
    · refine (am_e0 rfl rfl).trans ?_
      refine (am_e1 rfl rfl).trans ?_
      exact rfl
  refine (am_sw_n).trans ?_
  refine (am_e0 rfl rfl).trans ?_
  refine (am_e0 rfl rfl).trans ?_
  refine (am_e0 rfl rfl).trans ?_
  refine (am_e0 rfl rfl).trans ?_
  refine (am_i_ne rfl).trans (am_if_congr (fun c249 => ?_) (fun c249 => ?_))
  · refine (am_e0 rfl rfl).trans ?_
    refine (am_e0 rfl rfl).trans ?_
    refine (am_e0 rfl rfl).trans ?_
    refine (am_e0 rfl rfl).trans ?_
    refine (am_e0 rfl rfl).trans ?_
    refine (am_e0 rfl rfl).trans ?_
    refine am_lets (L := fun v250 => [(0, x0), (0, x1), (0, x2), (1, v250), am_N]) (fun v250 => ?_)
    refine (am_e1 rfl rfl).trans ?_
    exact (am_e5 rfl).trans rfl
  · refine (am_e0 rfl rfl).trans ?_
    refine (am_e0 rfl rfl).trans ?_
    refine (am_i_ne rfl).trans (am_if_congr (fun c251 => ?_) (fun c251 => ?_))
    · refine (am_e0 rfl rfl).trans ?_
      refine (am_e0 rfl rfl).trans ?_
      refine (am_e0 rfl rfl).trans ?_
      refine (am_e0 rfl rfl).trans ?_
      refine (am_e0 rfl rfl).trans ?_
      refine (am_e0 rfl rfl).trans ?_
      refine am_lets (L := fun v252 => [(0, x0), (0, x1), (0, x2), (1, v252), am_N]) (fun v252 => ?_)
      refine (am_e1 rfl rfl).trans ?_
      exact (am_e5 rfl).trans rfl
    · refine (am_e0 rfl rfl).trans ?_
      refine (am_e0 rfl rfl).trans ?_
      refine (am_i_ne rfl).trans (am_if_congr (fun c253 => ?_) (fun c253 => ?_))
      · refine (am_e0 rfl rfl).trans ?_
        refine (am_e0 rfl rfl).trans ?_
        refine (am_e0 rfl rfl).trans ?_
        refine (am_e0 rfl rfl).trans ?_
        refine (am_e0 rfl rfl).trans ?_
        refine (am_e0 rfl rfl).trans ?_
        refine am_lets (L := fun v254 => [(0, x0), (0, x1), (0, x2), (1, v254), am_N]) (fun v254 => ?_)
        refine (am_e1 rfl rfl).trans ?_
        exact (am_e5 rfl).trans rfl
      · refine (am_e0 rfl rfl).trans ?_
        refine (am_z_eq rfl).trans (am_if_congr (fun c255 => ?_) (fun c255 => ?_))
        · exact (am_e5 rfl).trans rfl
        · refine (am_e0 rfl rfl).trans ?_
          refine (am_e0 rfl rfl).trans ?_
          refine (am_dvi rfl).trans (am_if_congr (fun _ => rfl) (fun c256 => ?_))
          refine (am_e0 rfl rfl).trans ?_
          refine (am_e0 rfl rfl).trans ?_
          refine am_lets (L := fun v257 => [(0, x0), (0, x1), (0, x2), (1, v257), am_N]) (fun v257 => ?_)
          exact (am_e5 rfl).trans rfl
set_option maxRecDepth 10000 in
theorem aq_33_10 (d : Nat) (y0 x0 x1 x2 : Int) (M : am_M) : am_Ex d 33 10 [(0, x0), (0, x1), (0, x2), am_N, am_N] [(0, y0)] M = (some (y0, M)) := by
  exact (am_e4i rfl rfl).trans rfl
set_option maxRecDepth 10000 in
theorem aq_33_7 (d : Nat) (M : am_M) : am_Ex d 33 7 [am_N, am_N, am_N, am_N, am_N] [] M = (am_Ex d 33 10 [am_N, am_N, am_N, am_N, am_N] [(0, 1)] M) := by
  refine (am_e0 rfl rfl).trans ?_
  refine (am_e1 rfl rfl).trans ?_
  exact rfl
set_option maxRecDepth 10000 in
theorem aq_33_19 (d : Nat) (y0 : Int) (M : am_M) : am_Ex d 33 19 [am_N, am_N, am_N, am_N, am_N] [(0, y0)] M = (some (y0, M)) := by
  exact (am_e4i rfl rfl).trans rfl
set_option maxRecDepth 10000 in
theorem aq_33_19a (d : Nat) (y0 x0 x1 x2 : Int) (M : am_M) : am_Ex d 33 19 [(0, x0), (0, x1), (0, x2), am_N, am_N] [(0, y0)] M = (some (y0, M)) := by
  exact (am_e4i rfl rfl).trans rfl
set_option maxRecDepth 10000 in
theorem aq_33_102 (d : Nat) (x3 : Int) (M : am_M) : am_Ex d 33 102 [am_N, am_N, am_N, (1, x3), am_N] [] M = (if am_cmp x3 1000000 ≤ 0 then (if am_cmp x3 (-1000000) < 0 then (am_Ex d 33 116 [am_N, am_N, am_N, (1, x3), am_N] [(0, (-1000000))] M) else (am_Ex d 33 116 [am_N, am_N, am_N, (1, x3), am_N] [(0, am_w32 x3)] M)) else (am_Ex d 33 116 [am_N, am_N, am_N, (1, x3), am_N] [(0, 1000000)] M)) := by
  refine (am_e0 rfl rfl).trans ?_
  refine (am_e0 rfl rfl).trans ?_
  refine (am_e0 rfl rfl).trans ?_
  refine (am_z_le rfl).trans (am_if_congr (fun c101 => ?_) (fun c101 => ?_))
  · refine (am_e0 rfl rfl).trans ?_
    refine (am_e0 rfl rfl).trans ?_
    refine (am_e0 rfl rfl).trans ?_
    refine (am_z_ge rfl).trans (am_if_congr (fun c102 => ?_) (fun c102 => ?_))
    · refine (am_e0 rfl rfl).trans ?_
      refine (am_e1 rfl rfl).trans ?_
      exact rfl
    · refine (am_e0 rfl rfl).trans ?_
      refine (am_e0 rfl rfl).trans ?_
      exact rfl
  · refine (am_e0 rfl rfl).trans ?_
    refine (am_e1 rfl rfl).trans ?_
    exact rfl
set_option maxRecDepth 10000 in
theorem aq_33_26 (d : Nat) (y0 x0 x1 x2 : Int) (M : am_M) : am_Ex d 33 26 [(0, x0), (0, x1), (0, x2), am_N, am_N] [(0, y0)] M = (some (y0, M)) := by
  exact (am_e4i rfl rfl).trans rfl
set_option maxRecDepth 10000 in
theorem aq_33_33 (d : Nat) (y0 x0 x1 x2 : Int) (M : am_M) : am_Ex d 33 33 [(0, x0), (0, x1), (0, x2), am_N, am_N] [(0, y0)] M = (some (y0, M)) := by
  exact (am_e4i rfl rfl).trans rfl
set_option maxRecDepth 10000 in
theorem aq_33_40 (d : Nat) (y0 x0 x1 x2 : Int) (M : am_M) : am_Ex d 33 40 [(0, x0), (0, x1), (0, x2), am_N, am_N] [(0, y0)] M = (some (y0, M)) := by
  exact (am_e4i rfl rfl).trans rfl
set_option maxRecDepth 10000 in
theorem aq_33_47 (d : Nat) (y0 x0 x1 x2 : Int) (M : am_M) : am_Ex d 33 47 [(0, x0), (0, x1), (0, x2), am_N, am_N] [(0, y0)] M = (some (y0, M)) := by
  exact (am_e4i rfl rfl).trans rfl
set_option maxRecDepth 10000 in
theorem aq_33_54 (d : Nat) (y0 x0 x1 x2 : Int) (M : am_M) : am_Ex d 33 54 [(0, x0), (0, x1), (0, x2), am_N, am_N] [(0, y0)] M = (some (y0, M)) := by
  exact (am_e4i rfl rfl).trans rfl
set_option maxRecDepth 10000 in
theorem aq_33_61 (d : Nat) (y0 x0 x1 x2 : Int) (M : am_M) : am_Ex d 33 61 [(0, x0), (0, x1), (0, x2), am_N, am_N] [(0, y0)] M = (some (y0, M)) := by
  exact (am_e4i rfl rfl).trans rfl
set_option maxRecDepth 10000 in
theorem aq_33_10a (d : Nat) (y0 : Int) (M : am_M) : am_Ex d 33 10 [am_N, am_N, am_N, am_N, am_N] [(0, y0)] M = (some (y0, M)) := by
  exact (am_e4i rfl rfl).trans rfl
set_option maxRecDepth 10000 in
theorem aq_33_116 (d : Nat) (y0 x3 : Int) (M : am_M) : am_Ex d 33 116 [am_N, am_N, am_N, (1, x3), am_N] [(0, y0)] M = (some (y0, M)) := by
  exact (am_e4i rfl rfl).trans rfl
-- 34: UnlearnedHand$Orders.<init>(LUnlearnedHand$Guild;LUnlearnedHand$Hands;)V
set_option maxRecDepth 10000 in
theorem aq_34 (d : Nat) (x0 x1 x2 : Int) (M : am_M) : am_Call d 34 [(2, x0), (2, x1), (2, x2)] M = (am_g (decide (0 < x0)) <| am_g (am_ob M.1 20 && (am_ln M.1 == 6)) <| am_let (am_al M) fun M103 => am_g (am_ob x0 5) <| am_let (am_wr M103 x0 2 (M.1 : Int)) fun M105 => am_g (am_ob M105.1 20 && (am_ln M105.1 == 6)) <| am_let (am_al M105) fun M107 => am_let (am_wr M107 x0 3 (M105.1 : Int)) fun M108 => am_let (am_wr M108 x0 0 x1) fun M109 => am_let (am_wr M109 x0 1 x2) fun M110 => some (0, M110)) := by
  show am_Ex d 34 0 [(2, x0), (2, x1), (2, x2)] [] M = _
  refine (am_e0 rfl rfl).trans ?_
  refine (am_e8 rfl rfl).trans (am_g_congr fun h101 => ?_)
  refine (am_e0 rfl rfl).trans ?_
  refine (am_e0 rfl rfl).trans ?_
  refine (am_nwa (c := 20) rfl rfl).trans (am_g_congr fun h102 => ?_)
  refine am_letm (fun M103 => ?_)
  refine (am_pf (c := 5) rfl rfl rfl).trans (am_g_congr fun h104 => ?_)
  refine am_letm (fun M105 => ?_)
  refine (am_e0 rfl rfl).trans ?_
  refine (am_e0 rfl rfl).trans ?_
  refine (am_nwa (c := 20) rfl rfl).trans (am_g_congr fun h106 => ?_)
  refine am_letm (fun M107 => ?_)
  refine (am_pf (c := 5) rfl rfl rfl).trans ((am_g_t h104).trans ?_)
  refine am_letm (fun M108 => ?_)
  refine (am_e0 rfl rfl).trans ?_
  refine (am_e0 rfl rfl).trans ?_
  refine (am_pf (c := 5) rfl rfl rfl).trans ((am_g_t h104).trans ?_)
  refine am_letm (fun M109 => ?_)
  refine (am_e0 rfl rfl).trans ?_
  refine (am_e0 rfl rfl).trans ?_
  refine (am_pf (c := 5) rfl rfl rfl).trans ((am_g_t h104).trans ?_)
  refine am_letm (fun M110 => ?_)
  exact (am_e4v rfl rfl).trans rfl
-- 35: UnlearnedHand$Orders.commonDivisor(JJ)J
set_option maxRecDepth 10000 in
theorem aq_35 (d : Nat) (x0 x1 : Int) (M : am_M) : am_Call d 35 [(1, x0), (1, x1)] M = (am_Ex d 35 3 [(1, x0), am_N, (1, x1), am_N, (0, 0), am_N, am_N] [] M) := by
  show am_Ex d 35 0 [(1, x0), am_N, (1, x1), am_N, am_N, am_N, am_N] [] M = _
  refine (am_e0 rfl rfl).trans ?_
  refine (am_e0 rfl rfl).trans ?_
  exact (am_e5 rfl).trans rfl
set_option maxRecDepth 10000 in
theorem aq_35_3 (d : Nat) (x0 x2 x4 : Int) (M : am_M) : am_Ex d 35 3 [(1, x0), am_N, (1, x2), am_N, (0, x4), am_N, am_N] [] M = (if x4 < 200 then (if am_cmp x2 0 = 0 then (some (x0, M)) else (if (x2 : Int) = 0 then none else am_let (am_lrem x0 x2) fun v104 => am_let (am_w32 (x4 + 1)) fun v105 => am_Ex d 35 3 [(1, x2), am_N, (1, v104), am_N, (0, v105), am_N, am_N] [] M)) else (some (x0, M))) := by
  refine (am_e0 rfl rfl).trans ?_
  refine (am_e0 rfl rfl).trans ?_
  refine (am_i_ge rfl).trans (am_if_congr (fun c101 => ?_) (fun c101 => ?_))
  · refine (am_e0 rfl rfl).trans ?_
    refine (am_e0 rfl rfl).trans ?_
    refine (am_e0 rfl rfl).trans ?_
    refine (am_z_eq rfl).trans (am_if_congr (fun c102 => ?_) (fun c102 => ?_))
    · refine (am_e5 rfl).trans ?_
      show am_Ex d 35 21 [(1, x0), am_N, am_N, am_N, am_N, am_N, am_N] [] M = _
      refine (am_e0 rfl rfl).trans ?_
      exact (am_e4l rfl rfl).trans rfl
    · refine (am_e0 rfl rfl).trans ?_
      refine (am_e0 rfl rfl).trans ?_
      refine (am_rml rfl).trans (am_if_congr (fun _ => rfl) (fun c103 => ?_))
      refine (am_e0 rfl rfl).trans ?_
      refine am_lets (L := fun v104 => [(1, x0), am_N, (1, x2), am_N, (0, x4), (1, v104), am_N]) (fun v104 => ?_)
      refine (am_e0 rfl rfl).trans ?_
      refine (am_e0 rfl rfl).trans ?_
      refine (am_e0 rfl rfl).trans ?_
      refine (am_e0 rfl rfl).trans ?_
      refine (am_e0 rfl rfl).trans ?_
      refine am_lets (L := fun v105 => [(1, x2), am_N, (1, v104), am_N, (0, v105), (1, v104), am_N]) (fun v105 => ?_)
      refine (am_e1 rfl rfl).trans ?_
      exact (am_e5 rfl).trans rfl
  · refine (am_e5 rfl).trans ?_
    show am_Ex d 35 21 [(1, x0), am_N, am_N, am_N, am_N, am_N, am_N] [] M = _
    refine (am_e0 rfl rfl).trans ?_
    exact (am_e4l rfl rfl).trans rfl
-- 36: UnlearnedHand$Orders.firstOrder(I)Z
set_option maxRecDepth 10000 in
theorem aq_36 (d : Nat) (x0 x1 : Int) (M : am_M) : am_Call d 36 [(2, x0), (0, x1)] M = (am_g (am_ob x0 5) <| am_let (am_wr M x0 4 0) fun M102 => am_Ex d 36 6 [(2, x0), (0, x1), (0, 0)] [] M102) := by
  show am_Ex d 36 0 [(2, x0), (0, x1), am_N] [] M = _
  refine (am_e0 rfl rfl).trans ?_
  refine (am_e0 rfl rfl).trans ?_
  refine (am_pf (c := 5) rfl rfl rfl).trans (am_g_congr fun h101 => ?_)
  refine am_letm (fun M102 => ?_)
  refine (am_e0 rfl rfl).trans ?_
  refine (am_e0 rfl rfl).trans ?_
  exact (am_e5 rfl).trans rfl
set_option maxRecDepth 10000 in
theorem aq_36_6 (d : Nat) (x0 x1 x2 : Int) (M : am_M) : am_Ex d 36 6 [(2, x0), (0, x1), (0, x2)] [] M = (if x2 < 8 then (if am_and (am_shr x1 x2) 1 = 0 then (am_Ex d 36 32 [(2, x0), (0, x1), (0, x2)] [] M) else (am_g (am_ob x0 5) <| if am_rd M x0 4 < 6 then (am_g (am_ar (am_rd M x0 2) 20 (am_rd M x0 4)) <| am_let (am_wr M (am_rd M x0 2) (am_rd M x0 4) x2) fun M106 => am_let (am_wr M106 x0 4 (am_w32 ((am_rd M106 x0 4) + 1))) fun M107 => am_Ex d 36 32 [(2, x0), (0, x1), (0, x2)] [] M107) else (am_Ex d 36 32 [(2, x0), (0, x1), (0, x2)] [] M))) else (am_g (am_ob x0 5) <| if am_rd M x0 4 ≤ 0 then (some (0, M)) else (some (1, M)))) := by
  refine (am_e0 rfl rfl).trans ?_
  refine (am_e0 rfl rfl).trans ?_
  refine (am_i_ge rfl).trans (am_if_congr (fun c101 => ?_) (fun c101 => ?_))
  · refine (am_e0 rfl rfl).trans ?_
    refine (am_e0 rfl rfl).trans ?_
    refine (am_e0 rfl rfl).trans ?_
    refine (am_e0 rfl rfl).trans ?_
    refine (am_e0 rfl rfl).trans ?_
    refine (am_z_eq rfl).trans (am_if_congr (fun c102 => ?_) (fun c102 => ?_))
    · exact (am_e5 rfl).trans rfl
    · refine (am_e0 rfl rfl).trans ?_
      refine (am_gf (c := 5) (t := 0) rfl rfl rfl).trans (am_g_congr fun h103 => ?_)
      refine (am_e0 rfl rfl).trans ?_
      refine (am_i_ge rfl).trans (am_if_congr (fun c104 => ?_) (fun c104 => ?_))
      · refine (am_e0 rfl rfl).trans ?_
        refine (am_gf (c := 5) (t := 2) rfl rfl rfl).trans ((am_g_t h103).trans ?_)
        refine (am_e0 rfl rfl).trans ?_
        refine (am_gf (c := 5) (t := 0) rfl rfl rfl).trans ((am_g_t h103).trans ?_)
        refine (am_e0 rfl rfl).trans ?_
        refine (am_ias rfl).trans (am_g_congr fun h105 => ?_)
        refine am_letm (fun M106 => ?_)
        refine (am_e0 rfl rfl).trans ?_
        refine (am_e0 rfl rfl).trans ?_
        refine (am_gf (c := 5) (t := 0) rfl rfl rfl).trans ((am_g_t h103).trans ?_)
        refine (am_e0 rfl rfl).trans ?_
        refine (am_e0 rfl rfl).trans ?_
        refine (am_pf (c := 5) rfl rfl rfl).trans ((am_g_t h103).trans ?_)
        refine am_letm (fun M107 => ?_)
        exact (am_e5 rfl).trans rfl
      · exact (am_e5 rfl).trans rfl
  · refine (am_e0 rfl rfl).trans ?_
    refine (am_gf (c := 5) (t := 0) rfl rfl rfl).trans (am_g_congr fun h108 => ?_)
    refine (am_z_le rfl).trans (am_if_congr (fun c109 => ?_) (fun c109 => ?_))
    · refine (am_e0 rfl rfl).trans ?_
      exact (am_e4i rfl rfl).trans rfl
    · refine (am_e0 rfl rfl).trans ?_
      refine (am_e1 rfl rfl).trans ?_
      exact (am_e4i rfl rfl).trans rfl
set_option maxRecDepth 10000 in
theorem aq_36_32 (d : Nat) (x0 x1 x2 : Int) (M : am_M) : am_Ex d 36 32 [(2, x0), (0, x1), (0, x2)] [] M = (am_let (am_w32 (x2 + 1)) fun v101 => am_Ex d 36 6 [(2, x0), (0, x1), (0, v101)] [] M) := by
  refine (am_e0 rfl rfl).trans ?_
  refine am_lets (L := fun v101 => [(2, x0), (0, x1), (0, v101)]) (fun v101 => ?_)
  refine (am_e1 rfl rfl).trans ?_
  exact (am_e5 rfl).trans rfl
-- 37: UnlearnedHand$Orders.swap(II)V
set_option maxRecDepth 10000 in
theorem aq_37 (d : Nat) (x0 x1 x2 : Int) (M : am_M) : am_Call d 37 [(2, x0), (0, x1), (0, x2)] M = (if x1 < 0 then (some (0, M)) else (if x1 < 6 then (if x2 < 0 then (some (0, M)) else (if x2 < 6 then (am_g (am_ob x0 5) <| am_g (am_ar (am_rd M x0 2) 20 x1) <| am_let (am_rd M (am_rd M x0 2) x1) fun v107 => am_g (am_ar (am_rd M x0 2) 20 x2) <| am_let (am_wr M (am_rd M x0 2) x1 (am_rd M (am_rd M x0 2) x2)) fun M109 => am_g (am_ar (am_rd M109 x0 2) 20 x2) <| am_let (am_wr M109 (am_rd M109 x0 2) x2 v107) fun M111 => some (0, M111)) else (some (0, M)))) else (some (0, M)))) := by
  show am_Ex d 37 0 [(2, x0), (0, x1), (0, x2), am_N] [] M = _
  refine (am_e0 rfl rfl).trans ?_
  refine (am_z_lt rfl).trans (am_if_congr (fun c101 => ?_) (fun c101 => ?_))
  · refine (am_e5 rfl).trans ?_
    show am_Ex d 37 29 [am_N, am_N, am_N, am_N] [] M = _
    exact (am_e4v rfl rfl).trans rfl
  · refine (am_e0 rfl rfl).trans ?_
    refine (am_e0 rfl rfl).trans ?_
    refine (am_i_ge rfl).trans (am_if_congr (fun c102 => ?_) (fun c102 => ?_))
    · refine (am_e0 rfl rfl).trans ?_
      refine (am_z_lt rfl).trans (am_if_congr (fun c103 => ?_) (fun c103 => ?_))
      · refine (am_e5 rfl).trans ?_
        show am_Ex d 37 29 [am_N, am_N, am_N, am_N] [] M = _
        exact (am_e4v rfl rfl).trans rfl
      · refine (am_e0 rfl rfl).trans ?_
        refine (am_e0 rfl rfl).trans ?_
        refine (am_i_ge rfl).trans (am_if_congr (fun c104 => ?_) (fun c104 => ?_))
        · refine (am_e0 rfl rfl).trans ?_
          refine (am_gf (c := 5) (t := 2) rfl rfl rfl).trans (am_g_congr fun h105 => ?_)
          refine (am_e0 rfl rfl).trans ?_
          refine (am_ial rfl).trans (am_g_congr fun h106 => ?_)
          refine (am_e0 rfl rfl).trans ?_
          refine am_lets (L := fun v107 => [(2, x0), (0, x1), (0, x2), (0, v107)]) (fun v107 => ?_)
          refine (am_e0 rfl rfl).trans ?_
          refine (am_gf (c := 5) (t := 2) rfl rfl rfl).trans ((am_g_t h105).trans ?_)
          refine (am_e0 rfl rfl).trans ?_
          refine (am_e0 rfl rfl).trans ?_
          refine (am_gf (c := 5) (t := 2) rfl rfl rfl).trans ((am_g_t h105).trans ?_)
          refine (am_e0 rfl rfl).trans ?_
          refine (am_ial rfl).trans (am_g_congr fun h108 => ?_)
          refine (am_ias rfl).trans ((am_g_t h106).trans ?_)
          refine am_letm (fun M109 => ?_)
          refine (am_e0 rfl rfl).trans ?_
          refine (am_gf (c := 5) (t := 2) rfl rfl rfl).trans ((am_g_t h105).trans ?_)
          refine (am_e0 rfl rfl).trans ?_
          refine (am_e0 rfl rfl).trans ?_
          refine (am_ias rfl).trans (am_g_congr fun h110 => ?_)
          refine am_letm (fun M111 => ?_)
          refine (am_e5 rfl).trans ?_
          show am_Ex d 37 29 [am_N, am_N, am_N, am_N] [] M111 = _
          exact (am_e4v rfl rfl).trans rfl
        · refine (am_e5 rfl).trans ?_
          show am_Ex d 37 29 [am_N, am_N, am_N, am_N] [] M = _
          exact (am_e4v rfl rfl).trans rfl
    · refine (am_e5 rfl).trans ?_
      show am_Ex d 37 29 [am_N, am_N, am_N, am_N] [] M = _
      exact (am_e4v rfl rfl).trans rfl
-- 38: UnlearnedHand$Reader.<init>()V
set_option maxRecDepth 10000 in
theorem aq_38 (d : Nat) (x0 : Int) (M : am_M) : am_Call d 38 [(2, x0)] M = (am_g (decide (0 < x0)) <| am_g (am_ob M.1 20 && (am_ln M.1 == 301)) <| am_let (am_al M) fun M103 => am_g (am_ob x0 6) <| am_let (am_wr M103 x0 0 (M.1 : Int)) fun M105 => am_g (am_ob M105.1 20 && (am_ln M105.1 == 301)) <| am_let (am_al M105) fun M107 => am_let (am_wr M107 x0 1 (M105.1 : Int)) fun M108 => am_g (am_ob M108.1 20 && (am_ln M108.1 == 301)) <| am_let (am_al M108) fun M110 => am_let (am_wr M110 x0 2 (M108.1 : Int)) fun M111 => am_let (am_wr M111 x0 9 (-1)) fun M112 => some (0, M112)) := by
  show am_Ex d 38 0 [(2, x0)] [] M = _
  refine (am_e0 rfl rfl).trans ?_
  refine (am_e8 rfl rfl).trans (am_g_congr fun h101 => ?_)
  refine (am_e0 rfl rfl).trans ?_
  refine (am_e0 rfl rfl).trans ?_
  refine (am_nwa (c := 20) rfl rfl).trans (am_g_congr fun h102 => ?_)
  refine am_letm (fun M103 => ?_)
  refine (am_pf (c := 6) rfl rfl rfl).trans (am_g_congr fun h104 => ?_)
  refine am_letm (fun M105 => ?_)
  refine (am_e0 rfl rfl).trans ?_
  refine (am_e0 rfl rfl).trans ?_
  refine (am_nwa (c := 20) rfl rfl).trans (am_g_congr fun h106 => ?_)
  refine am_letm (fun M107 => ?_)
  refine (am_pf (c := 6) rfl rfl rfl).trans ((am_g_t h104).trans ?_)
  refine am_letm (fun M108 => ?_)
  refine (am_e0 rfl rfl).trans ?_
  refine (am_e0 rfl rfl).trans ?_
  refine (am_nwa (c := 20) rfl rfl).trans (am_g_congr fun h109 => ?_)
  refine am_letm (fun M110 => ?_)
  refine (am_pf (c := 6) rfl rfl rfl).trans ((am_g_t h104).trans ?_)
  refine am_letm (fun M111 => ?_)
  refine (am_e0 rfl rfl).trans ?_
  refine (am_e0 rfl rfl).trans ?_
  refine (am_pf (c := 6) rfl rfl rfl).trans ((am_g_t h104).trans ?_)
  refine am_letm (fun M112 => ?_)
  exact (am_e4v rfl rfl).trans rfl
-- 39: UnlearnedHand$Reader.addToken(III)V
set_option maxRecDepth 10000 in
theorem aq_39 (d : Nat) (x0 x1 x2 x3 : Int) (M : am_M) : am_Call d 39 [(2, x0), (0, x1), (0, x2), (0, x3)] M = (am_g (am_ob x0 6) <| if am_rd M x0 3 < 0 then (some (0, M)) else (am_g (am_ia (am_rd M x0 0)) <| if am_rd M x0 3 < am_ln (am_rd M x0 0) then (am_g (am_ar (am_rd M x0 0) 20 (am_rd M x0 3)) <| am_let (am_wr M (am_rd M x0 0) (am_rd M x0 3) x1) fun M106 => am_g (am_ar (am_rd M106 x0 1) 20 (am_rd M106 x0 3)) <| am_let (am_wr M106 (am_rd M106 x0 1) (am_rd M106 x0 3) x2) fun M108 => am_g (am_ar (am_rd M108 x0 2) 20 (am_rd M108 x0 3)) <| am_let (am_wr M108 (am_rd M108 x0 2) (am_rd M108 x0 3) x3) fun M110 => am_let (am_wr M110 x0 3 (am_w32 ((am_rd M110 x0 3) + 1))) fun M111 => some (0, M111)) else (some (0, M)))) := by
  show am_Ex d 39 0 [(2, x0), (0, x1), (0, x2), (0, x3)] [] M = _
  refine (am_e0 rfl rfl).trans ?_
  refine (am_gf (c := 6) (t := 0) rfl rfl rfl).trans (am_g_congr fun h101 => ?_)
  refine (am_z_lt rfl).trans (am_if_congr (fun c102 => ?_) (fun c102 => ?_))
  · refine (am_e5 rfl).trans ?_
    show am_Ex d 39 34 [am_N, am_N, am_N, am_N] [] M = _
    exact (am_e4v rfl rfl).trans rfl
  · refine (am_e0 rfl rfl).trans ?_
    refine (am_gf (c := 6) (t := 0) rfl rfl rfl).trans ((am_g_t h101).trans ?_)
    refine (am_e0 rfl rfl).trans ?_
    refine (am_gf (c := 6) (t := 2) rfl rfl rfl).trans ((am_g_t h101).trans ?_)
    refine (am_aln rfl).trans (am_g_congr fun h103 => ?_)
    refine (am_i_ge rfl).trans (am_if_congr (fun c104 => ?_) (fun c104 => ?_))
    · refine (am_e0 rfl rfl).trans ?_
      refine (am_gf (c := 6) (t := 2) rfl rfl rfl).trans ((am_g_t h101).trans ?_)
      refine (am_e0 rfl rfl).trans ?_
      refine (am_gf (c := 6) (t := 0) rfl rfl rfl).trans ((am_g_t h101).trans ?_)
      refine (am_e0 rfl rfl).trans ?_
      refine (am_ias rfl).trans (am_g_congr fun h105 => ?_)
      refine am_letm (fun M106 => ?_)
      refine (am_e0 rfl rfl).trans ?_
      refine (am_gf (c := 6) (t := 2) rfl rfl rfl).trans ((am_g_t h101).trans ?_)
      refine (am_e0 rfl rfl).trans ?_
      refine (am_gf (c := 6) (t := 0) rfl rfl rfl).trans ((am_g_t h101).trans ?_)
      refine (am_e0 rfl rfl).trans ?_
      refine (am_ias rfl).trans (am_g_congr fun h107 => ?_)
      refine am_letm (fun M108 => ?_)
      refine (am_e0 rfl rfl).trans ?_
      refine (am_gf (c := 6) (t := 2) rfl rfl rfl).trans ((am_g_t h101).trans ?_)
      refine (am_e0 rfl rfl).trans ?_
      refine (am_gf (c := 6) (t := 0) rfl rfl rfl).trans ((am_g_t h101).trans ?_)
      refine (am_e0 rfl rfl).trans ?_
      refine (am_ias rfl).trans (am_g_congr fun h109 => ?_)
      refine am_letm (fun M110 => ?_)
      refine (am_e0 rfl rfl).trans ?_
      refine (am_e0 rfl rfl).trans ?_
      refine (am_gf (c := 6) (t := 0) rfl rfl rfl).trans ((am_g_t h101).trans ?_)
      refine (am_e0 rfl rfl).trans ?_
      refine (am_e0 rfl rfl).trans ?_
      refine (am_pf (c := 6) rfl rfl rfl).trans ((am_g_t h101).trans ?_)
      refine am_letm (fun M111 => ?_)
      refine (am_e5 rfl).trans ?_
      show am_Ex d 39 34 [am_N, am_N, am_N, am_N] [] M111 = _
      exact (am_e4v rfl rfl).trans rfl
    · refine (am_e5 rfl).trans ?_
      show am_Ex d 39 34 [am_N, am_N, am_N, am_N] [] M = _
      exact (am_e4v rfl rfl).trans rfl
-- 40: UnlearnedHand$Reader.isLetter(C)Z
set_option maxRecDepth 10000 in
theorem aq_40 (d : Nat) (x0 : Int) (M : am_M) : am_Call d 40 [(0, x0)] M = (if x0 < 97 then (am_Ex d 40 7 [(0, x0)] [] M) else (if x0 ≤ 122 then (am_Ex d 40 14 [am_N] [] M) else (am_Ex d 40 7 [(0, x0)] [] M))) := by
  show am_Ex d 40 0 [(0, x0)] [] M = _
  refine (am_e0 rfl rfl).trans ?_
  refine (am_e0 rfl rfl).trans ?_
  refine (am_i_lt rfl).trans (am_if_congr (fun c101 => ?_) (fun c101 => ?_))
  · exact (am_e5 rfl).trans rfl
  · refine (am_e0 rfl rfl).trans ?_
    refine (am_e0 rfl rfl).trans ?_
    refine (am_i_le rfl).trans (am_if_congr (fun c102 => ?_) (fun c102 => ?_))
    · exact (am_e5 rfl).trans rfl
    · exact (am_e5 rfl).trans rfl
set_option maxRecDepth 10000 in
theorem aq_40_7 (d : Nat) (x0 : Int) (M : am_M) : am_Ex d 40 7 [(0, x0)] [] M = (if x0 < 65 then (some (0, M)) else (if x0 ≤ 90 then (am_Ex d 40 14 [am_N] [] M) else (some (0, M)))) := by
  refine (am_e0 rfl rfl).trans ?_
  refine (am_e0 rfl rfl).trans ?_
  refine (am_i_lt rfl).trans (am_if_congr (fun c101 => ?_) (fun c101 => ?_))
  · refine (am_e5 rfl).trans ?_
    show am_Ex d 40 17 [am_N] [] M = _
    refine (am_e0 rfl rfl).trans ?_
    exact (am_e4i rfl rfl).trans rfl
  · refine (am_e0 rfl rfl).trans ?_
    refine (am_e0 rfl rfl).trans ?_
    refine (am_i_gt rfl).trans (am_if_congr (fun c102 => ?_) (fun c102 => ?_))
    · exact (am_e5 rfl).trans rfl
    · refine (am_e5 rfl).trans ?_
      show am_Ex d 40 17 [am_N] [] M = _
      refine (am_e0 rfl rfl).trans ?_
      exact (am_e4i rfl rfl).trans rfl
set_option maxRecDepth 10000 in
theorem aq_40_14 (d : Nat) (M : am_M) : am_Ex d 40 14 [am_N] [] M = (some (1, M)) := by
  refine (am_e0 rfl rfl).trans ?_
  refine (am_e1 rfl rfl).trans ?_
  exact (am_e4i rfl rfl).trans rfl
-- 41: UnlearnedHand$Reader.isDigit(C)Z
set_option maxRecDepth 10000 in
theorem aq_41 (d : Nat) (x0 : Int) (M : am_M) : am_Call d 41 [(0, x0)] M = (if x0 < 48 then (some (0, M)) else (if x0 ≤ 57 then (some (1, M)) else (some (0, M)))) := by
  show am_Ex d 41 0 [(0, x0)] [] M = _
  refine (am_e0 rfl rfl).trans ?_
  refine (am_e0 rfl rfl).trans ?_
  refine (am_i_lt rfl).trans (am_if_congr (fun c101 => ?_) (fun c101 => ?_))
  · refine (am_e5 rfl).trans ?_
    show am_Ex d 41 9 [am_N] [] M = _
    refine (am_e0 rfl rfl).trans ?_
    exact (am_e4i rfl rfl).trans rfl
  · refine (am_e0 rfl rfl).trans ?_
    refine (am_e0 rfl rfl).trans ?_
    refine (am_i_gt rfl).trans (am_if_congr (fun c102 => ?_) (fun c102 => ?_))
    · refine (am_e0 rfl rfl).trans ?_
      refine (am_e1 rfl rfl).trans ?_
      exact (am_e4i rfl rfl).trans rfl
    · refine (am_e5 rfl).trans ?_
      show am_Ex d 41 9 [am_N] [] M = _
      refine (am_e0 rfl rfl).trans ?_
      exact (am_e4i rfl rfl).trans rfl
-- 42: UnlearnedHand$Reader.numberValue([CII)I
set_option maxRecDepth 10000 in
theorem aq_42 (d : Nat) (x0 x1 x2 : Int) (M : am_M) : am_Call d 42 [(2, x0), (0, x1), (0, x2)] M = (am_Ex d 42 5 [(2, x0), am_N, (0, x2), (0, 0), (0, x1)] [] M) := by
  show am_Ex d 42 0 [(2, x0), (0, x1), (0, x2), am_N, am_N] [] M = _
  refine (am_e0 rfl rfl).trans ?_
  refine (am_e0 rfl rfl).trans ?_
  refine (am_e0 rfl rfl).trans ?_
  refine (am_e0 rfl rfl).trans ?_
  exact (am_e5 rfl).trans rfl
set_option maxRecDepth 10000 in
theorem aq_42_5 (d : Nat) (x0 x2 x3 x4 : Int) (M : am_M) : am_Ex d 42 5 [(2, x0), am_N, (0, x2), (0, x3), (0, x4)] [] M = (if x4 < x2 then (if x4 < 0 then (some (x3, M)) else (am_g (am_ia x0) <| if x4 < am_ln x0 then (am_g (am_ar x0 22 x4) <| am_let (min (am_w32 ((am_w32 (x3 * 10)) + (am_w32 ((am_rd M x0 x4) - 48)))) 10000) fun v106 => am_let (am_w32 (x4 + 1)) fun v107 => am_Ex d 42 5 [(2, x0), am_N, (0, x2), (0, v106), (0, v107)] [] M) else (some (x3, M)))) else (some (x3, M))) := by
  refine (am_e0 rfl rfl).trans ?_
  refine (am_e0 rfl rfl).trans ?_
  refine (am_i_ge rfl).trans (am_if_congr (fun c101 => ?_) (fun c101 => ?_))
  · refine (am_e0 rfl rfl).trans ?_
    refine (am_z_lt rfl).trans (am_if_congr (fun c102 => ?_) (fun c102 => ?_))
    · refine (am_e5 rfl).trans ?_
      show am_Ex d 42 29 [am_N, am_N, am_N, (0, x3), am_N] [] M = _
      refine (am_e0 rfl rfl).trans ?_
      exact (am_e4i rfl rfl).trans rfl
    · refine (am_e0 rfl rfl).trans ?_
      refine (am_e0 rfl rfl).trans ?_
      refine (am_aln rfl).trans (am_g_congr fun h103 => ?_)
      refine (am_i_ge rfl).trans (am_if_congr (fun c104 => ?_) (fun c104 => ?_))
      · refine (am_e0 rfl rfl).trans ?_
        refine (am_e0 rfl rfl).trans ?_
        refine (am_e0 rfl rfl).trans ?_
        refine (am_e0 rfl rfl).trans ?_
        refine (am_e0 rfl rfl).trans ?_
        refine (am_cal rfl).trans (am_g_congr fun h105 => ?_)
        refine (am_e0 rfl rfl).trans ?_
        refine (am_e0 rfl rfl).trans ?_
        refine (am_e0 rfl rfl).trans ?_
        refine (am_e0 rfl rfl).trans ?_
        refine (am_e10 (w := min (am_w32 ((am_w32 (x3 * 10)) + (am_w32 ((am_rd M x0 x4) - 48)))) 10000) rfl rfl rfl).trans ?_
        refine (am_e0 rfl rfl).trans ?_
        refine am_lets (L := fun v106 => [(2, x0), am_N, (0, x2), (0, v106), (0, x4)]) (fun v106 => ?_)
        refine (am_e0 rfl rfl).trans ?_
        refine am_lets (L := fun v107 => [(2, x0), am_N, (0, x2), (0, v106), (0, v107)]) (fun v107 => ?_)
        refine (am_e1 rfl rfl).trans ?_
        exact (am_e5 rfl).trans rfl
      · refine (am_e5 rfl).trans ?_
        show am_Ex d 42 29 [am_N, am_N, am_N, (0, x3), am_N] [] M = _
        refine (am_e0 rfl rfl).trans ?_
        exact (am_e4i rfl rfl).trans rfl
  · refine (am_e5 rfl).trans ?_
    show am_Ex d 42 29 [am_N, am_N, am_N, (0, x3), am_N] [] M = _
    refine (am_e0 rfl rfl).trans ?_
    exact (am_e4i rfl rfl).trans rfl
-- 43: UnlearnedHand$Reader.token()I
set_option maxRecDepth 10000 in
theorem aq_43 (d : Nat) (x0 : Int) (M : am_M) : am_Call d 43 [(2, x0)] M = (am_g (am_ob x0 6) <| if am_rd M x0 8 = 0 then (if am_rd M x0 4 < 0 then (some (44, M)) else (if am_rd M x0 4 < am_rd M x0 3 then (am_g (am_ia (am_rd M x0 0)) <| if am_rd M x0 4 < am_ln (am_rd M x0 0) then (am_g (am_ar (am_rd M x0 0) 20 (am_rd M x0 4)) <| some (am_rd M (am_rd M x0 0) (am_rd M x0 4), M)) else (some (44, M))) else (some (44, M)))) else (some (44, M))) := by
  show am_Ex d 43 0 [(2, x0)] [] M = _
  refine (am_e0 rfl rfl).trans ?_
  refine (am_gf (c := 6) (t := 0) rfl rfl rfl).trans (am_g_congr fun h101 => ?_)
  refine (am_z_ne rfl).trans (am_if_congr (fun c102 => ?_) (fun c102 => ?_))
  · refine (am_e0 rfl rfl).trans ?_
    refine (am_gf (c := 6) (t := 0) rfl rfl rfl).trans ((am_g_t h101).trans ?_)
    refine (am_z_lt rfl).trans (am_if_congr (fun c103 => ?_) (fun c103 => ?_))
    · refine (am_e5 rfl).trans ?_
      show am_Ex d 43 24 [am_N] [] M = _
      refine (am_e0 rfl rfl).trans ?_
      exact (am_e4i rfl rfl).trans rfl
    · refine (am_e0 rfl rfl).trans ?_
      refine (am_gf (c := 6) (t := 0) rfl rfl rfl).trans ((am_g_t h101).trans ?_)
      refine (am_e0 rfl rfl).trans ?_
      refine (am_gf (c := 6) (t := 0) rfl rfl rfl).trans ((am_g_t h101).trans ?_)
      refine (am_i_ge rfl).trans (am_if_congr (fun c104 => ?_) (fun c104 => ?_))
      · refine (am_e0 rfl rfl).trans ?_
        refine (am_gf (c := 6) (t := 0) rfl rfl rfl).trans ((am_g_t h101).trans ?_)
        refine (am_e0 rfl rfl).trans ?_
        refine (am_gf (c := 6) (t := 2) rfl rfl rfl).trans ((am_g_t h101).trans ?_)
        refine (am_aln rfl).trans (am_g_congr fun h105 => ?_)
        refine (am_i_ge rfl).trans (am_if_congr (fun c106 => ?_) (fun c106 => ?_))
        · refine (am_e0 rfl rfl).trans ?_
          refine (am_gf (c := 6) (t := 2) rfl rfl rfl).trans ((am_g_t h101).trans ?_)
          refine (am_e0 rfl rfl).trans ?_
          refine (am_gf (c := 6) (t := 0) rfl rfl rfl).trans ((am_g_t h101).trans ?_)
          refine (am_ial rfl).trans (am_g_congr fun h107 => ?_)
          refine (am_e1 rfl rfl).trans ?_
          exact (am_e4i rfl rfl).trans rfl
        · refine (am_e5 rfl).trans ?_
          show am_Ex d 43 24 [am_N] [] M = _
          refine (am_e0 rfl rfl).trans ?_
          exact (am_e4i rfl rfl).trans rfl
      · refine (am_e5 rfl).trans ?_
        show am_Ex d 43 24 [am_N] [] M = _
        refine (am_e0 rfl rfl).trans ?_
        exact (am_e4i rfl rfl).trans rfl
  · refine (am_e5 rfl).trans ?_
    show am_Ex d 43 24 [am_N] [] M = _
    refine (am_e0 rfl rfl).trans ?_
    exact (am_e4i rfl rfl).trans rfl
-- 44: UnlearnedHand$Reader.fail(I)V
set_option maxRecDepth 10000 in
theorem aq_44 (d : Nat) (x0 x1 : Int) (M : am_M) : am_Call d 44 [(2, x0), (0, x1)] M = (am_g (am_ob x0 6) <| if am_rd M x0 8 = 0 then (if am_rd M x0 4 < 0 then (some (0, M)) else (am_g (am_ia (am_rd M x0 2)) <| if am_rd M x0 4 < am_ln (am_rd M x0 2) then (am_let (am_wr M x0 8 x1) fun M106 => am_g (am_ar (am_rd M106 x0 2) 20 (am_rd M106 x0 4)) <| am_let (am_wr M106 x0 9 (am_rd M106 (am_rd M106 x0 2) (am_rd M106 x0 4))) fun M108 => some (0, M108)) else (some (0, M)))) else (some (0, M))) := by
  show am_Ex d 44 0 [(2, x0), (0, x1)] [] M = _
  refine (am_e0 rfl rfl).trans ?_
  refine (am_gf (c := 6) (t := 0) rfl rfl rfl).trans (am_g_congr fun h101 => ?_)
  refine (am_z_ne rfl).trans (am_if_congr (fun c102 => ?_) (fun c102 => ?_))
  · refine (am_e0 rfl rfl).trans ?_
    refine (am_gf (c := 6) (t := 0) rfl rfl rfl).trans ((am_g_t h101).trans ?_)
    refine (am_z_lt rfl).trans (am_if_congr (fun c103 => ?_) (fun c103 => ?_))
    · refine (am_e5 rfl).trans ?_
      show am_Ex d 44 23 [am_N, am_N] [] M = _
      exact (am_e4v rfl rfl).trans rfl
    · refine (am_e0 rfl rfl).trans ?_
      refine (am_gf (c := 6) (t := 0) rfl rfl rfl).trans ((am_g_t h101).trans ?_)
      refine (am_e0 rfl rfl).trans ?_
      refine (am_gf (c := 6) (t := 2) rfl rfl rfl).trans ((am_g_t h101).trans ?_)
      refine (am_aln rfl).trans (am_g_congr fun h104 => ?_)
      refine (am_i_ge rfl).trans (am_if_congr (fun c105 => ?_) (fun c105 => ?_))
      · refine (am_e0 rfl rfl).trans ?_
        refine (am_e0 rfl rfl).trans ?_
        refine (am_pf (c := 6) rfl rfl rfl).trans ((am_g_t h101).trans ?_)
        refine am_letm (fun M106 => ?_)
        refine (am_e0 rfl rfl).trans ?_
        refine (am_e0 rfl rfl).trans ?_
        refine (am_gf (c := 6) (t := 2) rfl rfl rfl).trans ((am_g_t h101).trans ?_)
        refine (am_e0 rfl rfl).trans ?_
        refine (am_gf (c := 6) (t := 0) rfl rfl rfl).trans ((am_g_t h101).trans ?_)
        refine (am_ial rfl).trans (am_g_congr fun h107 => ?_)
        refine (am_pf (c := 6) rfl rfl rfl).trans ((am_g_t h101).trans ?_)
        refine am_letm (fun M108 => ?_)
        refine (am_e5 rfl).trans ?_
        show am_Ex d 44 23 [am_N, am_N] [] M108 = _
        exact (am_e4v rfl rfl).trans rfl
      · refine (am_e5 rfl).trans ?_
        show am_Ex d 44 23 [am_N, am_N] [] M = _
        exact (am_e4v rfl rfl).trans rfl
  · refine (am_e5 rfl).trans ?_
    show am_Ex d 44 23 [am_N, am_N] [] M = _
    exact (am_e4v rfl rfl).trans rfl
-- 45: UnlearnedHand$Reader.numberHere()I
set_option maxRecDepth 10000 in
theorem aq_45 (d : Nat) (x0 : Int) (M : am_M) : am_Call d 45 [(2, x0)] M = (am_g (am_ob x0 6) <| if am_rd M x0 4 < 0 then (some (0, M)) else (am_g (am_ia (am_rd M x0 1)) <| if am_rd M x0 4 < am_ln (am_rd M x0 1) then (am_g (am_ar (am_rd M x0 1) 20 (am_rd M x0 4)) <| some (am_rd M (am_rd M x0 1) (am_rd M x0 4), M)) else (some (0, M)))) := by
  show am_Ex d 45 0 [(2, x0)] [] M = _
  refine (am_e0 rfl rfl).trans ?_
  refine (am_gf (c := 6) (t := 0) rfl rfl rfl).trans (am_g_congr fun h101 => ?_)
  refine (am_z_lt rfl).trans (am_if_congr (fun c102 => ?_) (fun c102 => ?_))
  · refine (am_e5 rfl).trans ?_
    show am_Ex d 45 16 [am_N] [] M = _
    refine (am_e0 rfl rfl).trans ?_
    exact (am_e4i rfl rfl).trans rfl
  · refine (am_e0 rfl rfl).trans ?_
    refine (am_gf (c := 6) (t := 0) rfl rfl rfl).trans ((am_g_t h101).trans ?_)
    refine (am_e0 rfl rfl).trans ?_
    refine (am_gf (c := 6) (t := 2) rfl rfl rfl).trans ((am_g_t h101).trans ?_)
    refine (am_aln rfl).trans (am_g_congr fun h103 => ?_)
    refine (am_i_ge rfl).trans (am_if_congr (fun c104 => ?_) (fun c104 => ?_))
    · refine (am_e0 rfl rfl).trans ?_
      refine (am_gf (c := 6) (t := 2) rfl rfl rfl).trans ((am_g_t h101).trans ?_)
      refine (am_e0 rfl rfl).trans ?_
      refine (am_gf (c := 6) (t := 0) rfl rfl rfl).trans ((am_g_t h101).trans ?_)
      refine (am_ial rfl).trans (am_g_congr fun h105 => ?_)
      refine (am_e1 rfl rfl).trans ?_
      exact (am_e4i rfl rfl).trans rfl
    · refine (am_e5 rfl).trans ?_
      show am_Ex d 45 16 [am_N] [] M = _
      refine (am_e0 rfl rfl).trans ?_
      exact (am_e4i rfl rfl).trans rfl
-- 46: UnlearnedHand$Reader.isNameOfLaw(I)Z
set_option maxRecDepth 10000 in
theorem aq_46 (d : Nat) (x0 x1 : Int) (M : am_M) : am_Call d 46 [(2, x0), (0, x1)] M = (if x1 = 17 then (am_g (am_ob x0 6) <| if am_rd M x0 5 = 1 then (am_Ex d 46 12 [am_N, am_N] [] M) else (if am_rd M x0 5 = 2 then (am_Ex d 46 12 [am_N, am_N] [] M) else (some (0, M)))) else (if x1 = 18 then (am_Ex d 46 23 [(2, x0), am_N] [] M) else (if x1 = 19 then (am_Ex d 46 23 [(2, x0), am_N] [] M) else (if x1 ≤ 16 then (am_Ex d 46 39 [am_N, am_N] [] M) else (am_g (am_ob x0 6) <| if am_rd M x0 5 = 3 then (am_Ex d 46 39 [am_N, am_N] [] M) else (some (0, M))))))) := by
  show am_Ex d 46 0 [(2, x0), (0, x1)] [] M = _
  refine (am_e0 rfl rfl).trans ?_
  refine (am_e0 rfl rfl).trans ?_
  refine (am_i_ne rfl).trans (am_if_congr (fun c101 => ?_) (fun c101 => ?_))
  · refine (am_e0 rfl rfl).trans ?_
    refine (am_gf (c := 6) (t := 0) rfl rfl rfl).trans (am_g_congr fun h102 => ?_)
    refine (am_e0 rfl rfl).trans ?_
    refine (am_i_eq rfl).trans (am_if_congr (fun c103 => ?_) (fun c103 => ?_))
    · exact (am_e5 rfl).trans rfl
    · refine (am_e0 rfl rfl).trans ?_
      refine (am_gf (c := 6) (t := 0) rfl rfl rfl).trans ((am_g_t h102).trans ?_)
      refine (am_e0 rfl rfl).trans ?_
      refine (am_i_ne rfl).trans (am_if_congr (fun c104 => ?_) (fun c104 => ?_))
      · exact (am_e5 rfl).trans rfl
      · refine (am_e0 rfl rfl).trans ?_
        exact (am_e4i rfl rfl).trans rfl
  · refine (am_e0 rfl rfl).trans ?_
    refine (am_e0 rfl rfl).trans ?_
    refine (am_i_eq rfl).trans (am_if_congr (fun c105 => ?_) (fun c105 => ?_))
    · exact (am_e5 rfl).trans rfl
    · refine (am_e0 rfl rfl).trans ?_
      refine (am_e0 rfl rfl).trans ?_
      refine (am_i_ne rfl).trans (am_if_congr (fun c106 => ?_) (fun c106 => ?_))
      · exact (am_e5 rfl).trans rfl
      · refine (am_e0 rfl rfl).trans ?_
        refine (am_e0 rfl rfl).trans ?_
        refine (am_i_le rfl).trans (am_if_congr (fun c107 => ?_) (fun c107 => ?_))
        · exact (am_e5 rfl).trans rfl
        · refine (am_e0 rfl rfl).trans ?_
          refine (am_gf (c := 6) (t := 0) rfl rfl rfl).trans (am_g_congr fun h108 => ?_)
          refine (am_e0 rfl rfl).trans ?_
          refine (am_i_ne rfl).trans (am_if_congr (fun c109 => ?_) (fun c109 => ?_))
          · exact (am_e5 rfl).trans rfl
          · refine (am_e0 rfl rfl).trans ?_
            exact (am_e4i rfl rfl).trans rfl
set_option maxRecDepth 10000 in
theorem aq_46_12 (d : Nat) (M : am_M) : am_Ex d 46 12 [am_N, am_N] [] M = (some (1, M)) := by
  refine (am_e0 rfl rfl).trans ?_
  refine (am_e1 rfl rfl).trans ?_
  exact (am_e4i rfl rfl).trans rfl
set_option maxRecDepth 10000 in
theorem aq_46_23 (d : Nat) (x0 : Int) (M : am_M) : am_Ex d 46 23 [(2, x0), am_N] [] M = (am_g (am_ob x0 6) <| if am_rd M x0 5 = 1 then (some (1, M)) else (some (0, M))) := by
  refine (am_e0 rfl rfl).trans ?_
  refine (am_gf (c := 6) (t := 0) rfl rfl rfl).trans (am_g_congr fun h101 => ?_)
  refine (am_e0 rfl rfl).trans ?_
  refine (am_i_ne rfl).trans (am_if_congr (fun c102 => ?_) (fun c102 => ?_))
  · refine (am_e0 rfl rfl).trans ?_
    refine (am_e1 rfl rfl).trans ?_
    exact (am_e4i rfl rfl).trans rfl
  · refine (am_e0 rfl rfl).trans ?_
    exact (am_e4i rfl rfl).trans rfl
set_option maxRecDepth 10000 in
theorem aq_46_39 (d : Nat) (M : am_M) : am_Ex d 46 39 [am_N, am_N] [] M = (some (1, M)) := by
  refine (am_e0 rfl rfl).trans ?_
  refine (am_e1 rfl rfl).trans ?_
  exact (am_e4i rfl rfl).trans rfl
-- 47: UnlearnedHand$Reckoning.<init>(LUnlearnedHand$Guild;LUnlearnedHand$Hands;LUnlearnedHand$Laws;)V
set_option maxRecDepth 10000 in
theorem aq_47 (d : Nat) (x0 x1 x2 x3 : Int) (M : am_M) : am_Call d 47 [(2, x0), (2, x1), (2, x2), (2, x3)] M = (am_g (decide (0 < x0)) <| am_g (am_ob M.1 20 && (am_ln M.1 == 6)) <| am_let (am_al M) fun M103 => am_g (am_ob x0 7) <| am_let (am_wr M103 x0 3 (M.1 : Int)) fun M105 => am_let (am_wr M105 x0 0 x1) fun M106 => am_let (am_wr M106 x0 1 x2) fun M107 => am_let (am_wr M107 x0 2 x3) fun M108 => some (0, M108)) := by
  show am_Ex d 47 0 [(2, x0), (2, x1), (2, x2), (2, x3)] [] M = _
  refine (am_e0 rfl rfl).trans ?_
  refine (am_e8 rfl rfl).trans (am_g_congr fun h101 => ?_)
  refine (am_e0 rfl rfl).trans ?_
  refine (am_e0 rfl rfl).trans ?_
  refine (am_nwa (c := 20) rfl rfl).trans (am_g_congr fun h102 => ?_)
  refine am_letm (fun M103 => ?_)
  refine (am_pf (c := 7) rfl rfl rfl).trans (am_g_congr fun h104 => ?_)
  refine am_letm (fun M105 => ?_)
  refine (am_e0 rfl rfl).trans ?_
  refine (am_e0 rfl rfl).trans ?_
  refine (am_pf (c := 7) rfl rfl rfl).trans ((am_g_t h104).trans ?_)
  refine am_letm (fun M106 => ?_)
  refine (am_e0 rfl rfl).trans ?_
  refine (am_e0 rfl rfl).trans ?_
  refine (am_pf (c := 7) rfl rfl rfl).trans ((am_g_t h104).trans ?_)
  refine am_letm (fun M107 => ?_)
  refine (am_e0 rfl rfl).trans ?_
  refine (am_e0 rfl rfl).trans ?_
  refine (am_pf (c := 7) rfl rfl rfl).trans ((am_g_t h104).trans ?_)
  refine am_letm (fun M108 => ?_)
  exact (am_e4v rfl rfl).trans rfl
-- 48: UnlearnedHand$Reckoning.hadTogether(I)I
set_option maxRecDepth 10000 in
theorem aq_48 (d : Nat) (x0 x1 : Int) (M : am_M) : am_Call d 48 [(2, x0), (0, x1)] M = (am_Ex d 48 5 [(2, x0), (0, x1), (0, 0), (0, 0)] [] M) := by
  show am_Ex d 48 0 [(2, x0), (0, x1), am_N, am_N] [] M = _
  refine (am_e0 rfl rfl).trans ?_
  refine (am_e0 rfl rfl).trans ?_
  refine (am_e0 rfl rfl).trans ?_
  refine (am_e0 rfl rfl).trans ?_
  exact (am_e5 rfl).trans rfl
set_option maxRecDepth 10000 in
theorem aq_48_5 (d : Nat) (x0 x1 x2 x3 : Int) (M : am_M) : am_Ex d 48 5 [(2, x0), (0, x1), (0, x2), (0, x3)] [] M = (am_g (am_ob x0 7) <| am_g (am_ob (am_rd M x0 0) 2) <| if x3 < am_rd M (am_rd M x0 0) 6 then (if x3 < 6 then (if am_and (am_shr x1 x3) 1 = 0 then (am_let (am_or x2 0) fun v106 => am_let (am_w32 (x3 + 1)) fun v107 => am_Ex d 48 5 [(2, x0), (0, x1), (0, v106), (0, v107)] [] M) else (am_g (am_ar (am_rd M x0 3) 20 x3) <| am_let (am_or x2 (am_rd M (am_rd M x0 3) x3)) fun v109 => am_let (am_w32 (x3 + 1)) fun v110 => am_Ex d 48 5 [(2, x0), (0, x1), (0, v109), (0, v110)] [] M)) else (some (x2, M))) else (some (x2, M))) := by
  refine (am_e0 rfl rfl).trans ?_
  refine (am_e0 rfl rfl).trans ?_
  refine (am_gf (c := 7) (t := 2) rfl rfl rfl).trans (am_g_congr fun h101 => ?_)
  refine (am_gf (c := 2) (t := 0) rfl rfl rfl).trans (am_g_congr fun h102 => ?_)
  refine (am_i_ge rfl).trans (am_if_congr (fun c103 => ?_) (fun c103 => ?_))
  · refine (am_e0 rfl rfl).trans ?_
    refine (am_e0 rfl rfl).trans ?_
    refine (am_i_ge rfl).trans (am_if_congr (fun c104 => ?_) (fun c104 => ?_))
    · refine (am_e0 rfl rfl).trans ?_
      refine (am_e0 rfl rfl).trans ?_
      refine (am_e0 rfl rfl).trans ?_
      refine (am_e0 rfl rfl).trans ?_
      refine (am_e0 rfl rfl).trans ?_
      refine (am_e0 rfl rfl).trans ?_
      refine (am_z_eq rfl).trans (am_if_congr (fun c105 => ?_) (fun c105 => ?_))
      · refine (am_e0 rfl rfl).trans ?_
        refine (am_e0 rfl rfl).trans ?_
        refine (am_e0 rfl rfl).trans ?_
        refine am_lets (L := fun v106 => [(2, x0), (0, x1), (0, v106), (0, x3)]) (fun v106 => ?_)
        refine (am_e0 rfl rfl).trans ?_
        refine am_lets (L := fun v107 => [(2, x0), (0, x1), (0, v106), (0, v107)]) (fun v107 => ?_)
        refine (am_e1 rfl rfl).trans ?_
        exact (am_e5 rfl).trans rfl
      · refine (am_e0 rfl rfl).trans ?_
        refine (am_gf (c := 7) (t := 2) rfl rfl rfl).trans ((am_g_t h101).trans ?_)
        refine (am_e0 rfl rfl).trans ?_
        refine (am_ial rfl).trans (am_g_congr fun h108 => ?_)
        refine (am_e1 rfl rfl).trans ?_
        refine (am_e0 rfl rfl).trans ?_
        refine (am_e0 rfl rfl).trans ?_
        refine am_lets (L := fun v109 => [(2, x0), (0, x1), (0, v109), (0, x3)]) (fun v109 => ?_)
        refine (am_e0 rfl rfl).trans ?_
        refine am_lets (L := fun v110 => [(2, x0), (0, x1), (0, v109), (0, v110)]) (fun v110 => ?_)
        refine (am_e1 rfl rfl).trans ?_
        exact (am_e5 rfl).trans rfl
    · refine (am_e5 rfl).trans ?_
      show am_Ex d 48 31 [am_N, am_N, (0, x2), am_N] [] M = _
      refine (am_e0 rfl rfl).trans ?_
      exact (am_e4i rfl rfl).trans rfl
  · refine (am_e5 rfl).trans ?_
    show am_Ex d 48 31 [am_N, am_N, (0, x2), am_N] [] M = _
    refine (am_e0 rfl rfl).trans ?_
    exact (am_e4i rfl rfl).trans rfl
-- 49: UnlearnedHand$Script.<init>()V
set_option maxRecDepth 10000 in
theorem aq_49 (d : Nat) (x0 : Int) (M : am_M) : am_Call d 49 [(2, x0)] M = (am_g (decide (0 < x0)) <| am_g (am_ob M.1 20 && (am_ln M.1 == 300)) <| am_let (am_al M) fun M103 => am_g (am_ob x0 8) <| am_let (am_wr M103 x0 0 (M.1 : Int)) fun M105 => am_g (am_ob M105.1 20 && (am_ln M105.1 == 4)) <| am_let (am_al M105) fun M107 => am_let (am_wr M107 x0 2 (M105.1 : Int)) fun M108 => am_g (am_ob M108.1 20 && (am_ln M108.1 == 4)) <| am_let (am_al M108) fun M110 => am_let (am_wr M110 x0 3 (M108.1 : Int)) fun M111 => am_g (am_ob M111.1 20 && (am_ln M111.1 == 24)) <| am_let (am_al M111) fun M113 => am_let (am_wr M113 x0 4 (M111.1 : Int)) fun M114 => am_g (am_ob M114.1 20 && (am_ln M114.1 == 72)) <| am_let (am_al M114) fun M116 => am_let (am_wr M116 x0 5 (M114.1 : Int)) fun M117 => some (0, M117)) := by
  show am_Ex d 49 0 [(2, x0)] [] M = _
  refine (am_e0 rfl rfl).trans ?_
  refine (am_e8 rfl rfl).trans (am_g_congr fun h101 => ?_)
  refine (am_e0 rfl rfl).trans ?_
  refine (am_e0 rfl rfl).trans ?_
  refine (am_nwa (c := 20) rfl rfl).trans (am_g_congr fun h102 => ?_)
  refine am_letm (fun M103 => ?_)
  refine (am_pf (c := 8) rfl rfl rfl).trans (am_g_congr fun h104 => ?_)
  refine am_letm (fun M105 => ?_)
  refine (am_e0 rfl rfl).trans ?_
  refine (am_e0 rfl rfl).trans ?_
  refine (am_nwa (c := 20) rfl rfl).trans (am_g_congr fun h106 => ?_)
  refine am_letm (fun M107 => ?_)
  refine (am_pf (c := 8) rfl rfl rfl).trans ((am_g_t h104).trans ?_)
  refine am_letm (fun M108 => ?_)
  refine (am_e0 rfl rfl).trans ?_
  refine (am_e0 rfl rfl).trans ?_
  refine (am_nwa (c := 20) rfl rfl).trans (am_g_congr fun h109 => ?_)
  refine am_letm (fun M110 => ?_)
  refine (am_pf (c := 8) rfl rfl rfl).trans ((am_g_t h104).trans ?_)
  refine am_letm (fun M111 => ?_)
  refine (am_e0 rfl rfl).trans ?_
  refine (am_e0 rfl rfl).trans ?_
  refine (am_nwa (c := 20) rfl rfl).trans (am_g_congr fun h112 => ?_)
  refine am_letm (fun M113 => ?_)
  refine (am_pf (c := 8) rfl rfl rfl).trans ((am_g_t h104).trans ?_)
  refine am_letm (fun M114 => ?_)
  refine (am_e0 rfl rfl).trans ?_
  refine (am_e0 rfl rfl).trans ?_
  refine (am_nwa (c := 20) rfl rfl).trans (am_g_congr fun h115 => ?_)
  refine am_letm (fun M116 => ?_)
  refine (am_pf (c := 8) rfl rfl rfl).trans ((am_g_t h104).trans ?_)
  refine am_letm (fun M117 => ?_)
  exact (am_e4v rfl rfl).trans rfl
-- 50: UnlearnedHand$Script.clear()V
set_option maxRecDepth 10000 in
theorem aq_50 (d : Nat) (x0 : Int) (M : am_M) : am_Call d 50 [(2, x0)] M = (am_g (am_ob x0 8) <| am_let (am_wr M x0 1 0) fun M102 => am_let (am_wr M102 x0 6 0) fun M103 => am_Ex d 50 9 [(2, x0), (0, 0)] [] M103) := by
  show am_Ex d 50 0 [(2, x0), am_N] [] M = _
  refine (am_e0 rfl rfl).trans ?_
  refine (am_e0 rfl rfl).trans ?_
  refine (am_pf (c := 8) rfl rfl rfl).trans (am_g_congr fun h101 => ?_)
  refine am_letm (fun M102 => ?_)
  refine (am_e0 rfl rfl).trans ?_
  refine (am_e0 rfl rfl).trans ?_
  refine (am_pf (c := 8) rfl rfl rfl).trans ((am_g_t h101).trans ?_)
  refine am_letm (fun M103 => ?_)
  refine (am_e0 rfl rfl).trans ?_
  refine (am_e0 rfl rfl).trans ?_
  exact (am_e5 rfl).trans rfl
set_option maxRecDepth 10000 in
theorem aq_50_9 (d : Nat) (x0 x1 : Int) (M : am_M) : am_Ex d 50 9 [(2, x0), (0, x1)] [] M = (if x1 < 4 then (am_g (am_ob x0 8) <| am_g (am_ar (am_rd M x0 2) 20 x1) <| am_let (am_wr M (am_rd M x0 2) x1 (-1)) fun M104 => am_g (am_ar (am_rd M104 x0 3) 20 x1) <| am_let (am_wr M104 (am_rd M104 x0 3) x1 (-1)) fun M106 => am_let (am_w32 (x1 + 1)) fun v107 => am_Ex d 50 9 [(2, x0), (0, v107)] [] M106) else (some (0, M))) := by
  refine (am_e0 rfl rfl).trans ?_
  refine (am_e0 rfl rfl).trans ?_
  refine (am_i_ge rfl).trans (am_if_congr (fun c101 => ?_) (fun c101 => ?_))
  · refine (am_e0 rfl rfl).trans ?_
    refine (am_gf (c := 8) (t := 2) rfl rfl rfl).trans (am_g_congr fun h102 => ?_)
    refine (am_e0 rfl rfl).trans ?_
    refine (am_e0 rfl rfl).trans ?_
    refine (am_ias rfl).trans (am_g_congr fun h103 => ?_)
    refine am_letm (fun M104 => ?_)
    refine (am_e0 rfl rfl).trans ?_
    refine (am_gf (c := 8) (t := 2) rfl rfl rfl).trans ((am_g_t h102).trans ?_)
    refine (am_e0 rfl rfl).trans ?_
    refine (am_e0 rfl rfl).trans ?_
    refine (am_ias rfl).trans (am_g_congr fun h105 => ?_)
    refine am_letm (fun M106 => ?_)
    refine (am_e0 rfl rfl).trans ?_
    refine am_lets (L := fun v107 => [(2, x0), (0, v107)]) (fun v107 => ?_)
    refine (am_e1 rfl rfl).trans ?_
    exact (am_e5 rfl).trans rfl
  · exact (am_e4v rfl rfl).trans rfl
-- 51: UnlearnedHand$Script.hasLaw(I)Z
set_option maxRecDepth 10000 in
theorem aq_51 (d : Nat) (x0 x1 : Int) (M : am_M) : am_Call d 51 [(2, x0), (0, x1)] M = (if x1 < 0 then (some (0, M)) else (if x1 < 4 then (am_g (am_ob x0 8) <| am_g (am_ar (am_rd M x0 2) 20 x1) <| if am_rd M (am_rd M x0 2) x1 < 0 then (some (0, M)) else (some (1, M))) else (some (0, M)))) := by
  show am_Ex d 51 0 [(2, x0), (0, x1)] [] M = _
  refine (am_e0 rfl rfl).trans ?_
  refine (am_z_lt rfl).trans (am_if_congr (fun c101 => ?_) (fun c101 => ?_))
  · refine (am_e5 rfl).trans ?_
    show am_Ex d 51 13 [am_N, am_N] [] M = _
    refine (am_e0 rfl rfl).trans ?_
    exact (am_e4i rfl rfl).trans rfl
  · refine (am_e0 rfl rfl).trans ?_
    refine (am_e0 rfl rfl).trans ?_
    refine (am_i_ge rfl).trans (am_if_congr (fun c102 => ?_) (fun c102 => ?_))
    · refine (am_e0 rfl rfl).trans ?_
      refine (am_gf (c := 8) (t := 2) rfl rfl rfl).trans (am_g_congr fun h103 => ?_)
      refine (am_e0 rfl rfl).trans ?_
      refine (am_ial rfl).trans (am_g_congr fun h104 => ?_)
      refine (am_z_lt rfl).trans (am_if_congr (fun c105 => ?_) (fun c105 => ?_))
      · refine (am_e5 rfl).trans ?_
        show am_Ex d 51 13 [am_N, am_N] [] M = _
        refine (am_e0 rfl rfl).trans ?_
        exact (am_e4i rfl rfl).trans rfl
      · refine (am_e0 rfl rfl).trans ?_
        refine (am_e1 rfl rfl).trans ?_
        exact (am_e4i rfl rfl).trans rfl
    · refine (am_e5 rfl).trans ?_
      show am_Ex d 51 13 [am_N, am_N] [] M = _
      refine (am_e0 rfl rfl).trans ?_
      exact (am_e4i rfl rfl).trans rfl
-- 52: UnlearnedHand$Script.beginLaw(I)V
set_option maxRecDepth 10000 in
theorem aq_52 (d : Nat) (x0 x1 : Int) (M : am_M) : am_Call d 52 [(2, x0), (0, x1)] M = (if x1 < 0 then (some (0, M)) else (if x1 < 4 then (am_g (am_ob x0 8) <| am_g (am_ar (am_rd M x0 2) 20 x1) <| am_let (am_wr M (am_rd M x0 2) x1 (am_rd M x0 1)) fun M105 => some (0, M105)) else (some (0, M)))) := by
  show am_Ex d 52 0 [(2, x0), (0, x1)] [] M = _
  refine (am_e0 rfl rfl).trans ?_
  refine (am_z_lt rfl).trans (am_if_congr (fun c101 => ?_) (fun c101 => ?_))
  · refine (am_e5 rfl).trans ?_
    show am_Ex d 52 12 [am_N, am_N] [] M = _
    exact (am_e4v rfl rfl).trans rfl
  · refine (am_e0 rfl rfl).trans ?_
    refine (am_e0 rfl rfl).trans ?_
    refine (am_i_ge rfl).trans (am_if_congr (fun c102 => ?_) (fun c102 => ?_))
    · refine (am_e0 rfl rfl).trans ?_
      refine (am_gf (c := 8) (t := 2) rfl rfl rfl).trans (am_g_congr fun h103 => ?_)
      refine (am_e0 rfl rfl).trans ?_
      refine (am_e0 rfl rfl).trans ?_
      refine (am_gf (c := 8) (t := 0) rfl rfl rfl).trans ((am_g_t h103).trans ?_)
      refine (am_ias rfl).trans (am_g_congr fun h104 => ?_)
      refine am_letm (fun M105 => ?_)
      refine (am_e5 rfl).trans ?_
      show am_Ex d 52 12 [am_N, am_N] [] M105 = _
      exact (am_e4v rfl rfl).trans rfl
    · refine (am_e5 rfl).trans ?_
      show am_Ex d 52 12 [am_N, am_N] [] M = _
      exact (am_e4v rfl rfl).trans rfl
-- 53: UnlearnedHand$Script.endLaw(I)V
set_option maxRecDepth 10000 in
theorem aq_53 (d : Nat) (x0 x1 : Int) (M : am_M) : am_Call d 53 [(2, x0), (0, x1)] M = (if x1 < 0 then (some (0, M)) else (if x1 < 4 then (am_g (am_ob x0 8) <| am_g (am_ar (am_rd M x0 3) 20 x1) <| am_let (am_wr M (am_rd M x0 3) x1 (am_rd M x0 1)) fun M105 => some (0, M105)) else (some (0, M)))) := by
  show am_Ex d 53 0 [(2, x0), (0, x1)] [] M = _
  refine (am_e0 rfl rfl).trans ?_
  refine (am_z_lt rfl).trans (am_if_congr (fun c101 => ?_) (fun c101 => ?_))
  · refine (am_e5 rfl).trans ?_
    show am_Ex d 53 12 [am_N, am_N] [] M = _
    exact (am_e4v rfl rfl).trans rfl
  · refine (am_e0 rfl rfl).trans ?_
    refine (am_e0 rfl rfl).trans ?_
    refine (am_i_ge rfl).trans (am_if_congr (fun c102 => ?_) (fun c102 => ?_))
    · refine (am_e0 rfl rfl).trans ?_
      refine (am_gf (c := 8) (t := 2) rfl rfl rfl).trans (am_g_congr fun h103 => ?_)
      refine (am_e0 rfl rfl).trans ?_
      refine (am_e0 rfl rfl).trans ?_
      refine (am_gf (c := 8) (t := 0) rfl rfl rfl).trans ((am_g_t h103).trans ?_)
      refine (am_ias rfl).trans (am_g_congr fun h104 => ?_)
      refine am_letm (fun M105 => ?_)
      refine (am_e5 rfl).trans ?_
      show am_Ex d 53 12 [am_N, am_N] [] M105 = _
      exact (am_e4v rfl rfl).trans rfl
    · refine (am_e5 rfl).trans ?_
      show am_Ex d 53 12 [am_N, am_N] [] M = _
      exact (am_e4v rfl rfl).trans rfl
-- 54: UnlearnedHand$Script.addCode(I)V
set_option maxRecDepth 10000 in
theorem aq_54 (d : Nat) (x0 x1 : Int) (M : am_M) : am_Call d 54 [(2, x0), (0, x1)] M = (am_g (am_ob x0 8) <| if am_rd M x0 1 < 0 then (some (0, M)) else (if am_rd M x0 1 < 300 then (am_g (am_ar (am_rd M x0 0) 20 (am_rd M x0 1)) <| am_let (am_wr M (am_rd M x0 0) (am_rd M x0 1) x1) fun M105 => am_let (am_wr M105 x0 1 (am_w32 ((am_rd M105 x0 1) + 1))) fun M106 => some (0, M106)) else (some (0, M)))) := by
  show am_Ex d 54 0 [(2, x0), (0, x1)] [] M = _
  refine (am_e0 rfl rfl).trans ?_
  refine (am_gf (c := 8) (t := 0) rfl rfl rfl).trans (am_g_congr fun h101 => ?_)
  refine (am_z_lt rfl).trans (am_if_congr (fun c102 => ?_) (fun c102 => ?_))
  · refine (am_e5 rfl).trans ?_
    show am_Ex d 54 20 [am_N, am_N] [] M = _
    exact (am_e4v rfl rfl).trans rfl
  · refine (am_e0 rfl rfl).trans ?_
    refine (am_gf (c := 8) (t := 0) rfl rfl rfl).trans ((am_g_t h101).trans ?_)
    refine (am_e0 rfl rfl).trans ?_
    refine (am_i_ge rfl).trans (am_if_congr (fun c103 => ?_) (fun c103 => ?_))
    · refine (am_e0 rfl rfl).trans ?_
      refine (am_gf (c := 8) (t := 2) rfl rfl rfl).trans ((am_g_t h101).trans ?_)
      refine (am_e0 rfl rfl).trans ?_
      refine (am_gf (c := 8) (t := 0) rfl rfl rfl).trans ((am_g_t h101).trans ?_)
      refine (am_e0 rfl rfl).trans ?_
      refine (am_ias rfl).trans (am_g_congr fun h104 => ?_)
      refine am_letm (fun M105 => ?_)
      refine (am_e0 rfl rfl).trans ?_
      refine (am_e0 rfl rfl).trans ?_
      refine (am_gf (c := 8) (t := 0) rfl rfl rfl).trans ((am_g_t h101).trans ?_)
      refine (am_e0 rfl rfl).trans ?_
      refine (am_e0 rfl rfl).trans ?_
      refine (am_pf (c := 8) rfl rfl rfl).trans ((am_g_t h101).trans ?_)
      refine am_letm (fun M106 => ?_)
      refine (am_e5 rfl).trans ?_
      show am_Ex d 54 20 [am_N, am_N] [] M106 = _
      exact (am_e4v rfl rfl).trans rfl
    · refine (am_e5 rfl).trans ?_
      show am_Ex d 54 20 [am_N, am_N] [] M = _
      exact (am_e4v rfl rfl).trans rfl
-- 55: UnlearnedHand$Script.addClause(I)V
set_option maxRecDepth 10000 in
theorem aq_55 (d : Nat) (x0 x1 : Int) (M : am_M) : am_Call d 55 [(2, x0), (0, x1)] M = (am_g (am_ob x0 8) <| if am_rd M x0 6 < 0 then (some (0, M)) else (if am_rd M x0 6 < 24 then (am_g (am_ar (am_rd M x0 4) 20 (am_rd M x0 6)) <| am_let (am_wr M (am_rd M x0 4) (am_rd M x0 6) x1) fun M105 => am_let (am_wr M105 x0 6 (am_w32 ((am_rd M105 x0 6) + 1))) fun M106 => some (0, M106)) else (some (0, M)))) := by
  show am_Ex d 55 0 [(2, x0), (0, x1)] [] M = _
  refine (am_e0 rfl rfl).trans ?_
  refine (am_gf (c := 8) (t := 0) rfl rfl rfl).trans (am_g_congr fun h101 => ?_)
  refine (am_z_lt rfl).trans (am_if_congr (fun c102 => ?_) (fun c102 => ?_))
  · refine (am_e5 rfl).trans ?_
    show am_Ex d 55 20 [am_N, am_N] [] M = _
    exact (am_e4v rfl rfl).trans rfl
  · refine (am_e0 rfl rfl).trans ?_
    refine (am_gf (c := 8) (t := 0) rfl rfl rfl).trans ((am_g_t h101).trans ?_)
    refine (am_e0 rfl rfl).trans ?_
    refine (am_i_ge rfl).trans (am_if_congr (fun c103 => ?_) (fun c103 => ?_))
    · refine (am_e0 rfl rfl).trans ?_
      refine (am_gf (c := 8) (t := 2) rfl rfl rfl).trans ((am_g_t h101).trans ?_)
      refine (am_e0 rfl rfl).trans ?_
      refine (am_gf (c := 8) (t := 0) rfl rfl rfl).trans ((am_g_t h101).trans ?_)
      refine (am_e0 rfl rfl).trans ?_
      refine (am_ias rfl).trans (am_g_congr fun h104 => ?_)
      refine am_letm (fun M105 => ?_)
      refine (am_e0 rfl rfl).trans ?_
      refine (am_e0 rfl rfl).trans ?_
      refine (am_gf (c := 8) (t := 0) rfl rfl rfl).trans ((am_g_t h101).trans ?_)
      refine (am_e0 rfl rfl).trans ?_
      refine (am_e0 rfl rfl).trans ?_
      refine (am_pf (c := 8) rfl rfl rfl).trans ((am_g_t h101).trans ?_)
      refine am_letm (fun M106 => ?_)
      refine (am_e5 rfl).trans ?_
      show am_Ex d 55 20 [am_N, am_N] [] M106 = _
      exact (am_e4v rfl rfl).trans rfl
    · refine (am_e5 rfl).trans ?_
      show am_Ex d 55 20 [am_N, am_N] [] M = _
      exact (am_e4v rfl rfl).trans rfl
-- 56: UnlearnedHand$Script.setNumber(II)V
set_option maxRecDepth 10000 in
theorem aq_56 (d : Nat) (x0 x1 x2 : Int) (M : am_M) : am_Call d 56 [(2, x0), (0, x1), (0, x2)] M = (am_g (am_ob x0 8) <| am_let (am_w32 ((am_w32 ((am_w32 ((am_rd M x0 6) - 1)) * 3)) + x1)) fun v102 => if v102 < 0 then (some (0, M)) else (am_g (am_ia (am_rd M x0 5)) <| if v102 < am_ln (am_rd M x0 5) then (am_g (am_ar (am_rd M x0 5) 20 v102) <| am_let (am_wr M (am_rd M x0 5) v102 x2) fun M107 => some (0, M107)) else (some (0, M)))) := by
  show am_Ex d 56 0 [(2, x0), (0, x1), (0, x2), am_N] [] M = _
  refine (am_e0 rfl rfl).trans ?_
  refine (am_gf (c := 8) (t := 0) rfl rfl rfl).trans (am_g_congr fun h101 => ?_)
  refine (am_e0 rfl rfl).trans ?_
  refine (am_e0 rfl rfl).trans ?_
  refine (am_e0 rfl rfl).trans ?_
  refine (am_e0 rfl rfl).trans ?_
  refine (am_e0 rfl rfl).trans ?_
  refine (am_e0 rfl rfl).trans ?_
  refine (am_e0 rfl rfl).trans ?_
  refine am_lets (L := fun v102 => [(2, x0), (0, x1), (0, x2), (0, v102)]) (fun v102 => ?_)
  refine (am_e0 rfl rfl).trans ?_
  refine (am_z_lt rfl).trans (am_if_congr (fun c103 => ?_) (fun c103 => ?_))
  · refine (am_e5 rfl).trans ?_
    show am_Ex d 56 22 [am_N, am_N, am_N, am_N] [] M = _
    exact (am_e4v rfl rfl).trans rfl
  · refine (am_e0 rfl rfl).trans ?_
    refine (am_e0 rfl rfl).trans ?_
    refine (am_gf (c := 8) (t := 2) rfl rfl rfl).trans ((am_g_t h101).trans ?_)
    refine (am_aln rfl).trans (am_g_congr fun h104 => ?_)
    refine (am_i_ge rfl).trans (am_if_congr (fun c105 => ?_) (fun c105 => ?_))
    · refine (am_e0 rfl rfl).trans ?_
      refine (am_gf (c := 8) (t := 2) rfl rfl rfl).trans ((am_g_t h101).trans ?_)
      refine (am_e0 rfl rfl).trans ?_
      refine (am_e0 rfl rfl).trans ?_
      refine (am_ias rfl).trans (am_g_congr fun h106 => ?_)
      refine am_letm (fun M107 => ?_)
      refine (am_e5 rfl).trans ?_
      show am_Ex d 56 22 [am_N, am_N, am_N, am_N] [] M107 = _
      exact (am_e4v rfl rfl).trans rfl
    · refine (am_e5 rfl).trans ?_
      show am_Ex d 56 22 [am_N, am_N, am_N, am_N] [] M = _
      exact (am_e4v rfl rfl).trans rfl
-- 57: UnlearnedHand$Script.kindOf(I)I
set_option maxRecDepth 10000 in
theorem aq_57 (d : Nat) (x0 x1 : Int) (M : am_M) : am_Call d 57 [(2, x0), (0, x1)] M = (if x1 < 0 then (some (0, M)) else (if x1 < 24 then (am_g (am_ob x0 8) <| am_g (am_ar (am_rd M x0 4) 20 x1) <| some (am_rd M (am_rd M x0 4) x1, M)) else (some (0, M)))) := by
  show am_Ex d 57 0 [(2, x0), (0, x1)] [] M = _
  refine (am_e0 rfl rfl).trans ?_
  refine (am_z_lt rfl).trans (am_if_congr (fun c101 => ?_) (fun c101 => ?_))
  · refine (am_e5 rfl).trans ?_
    show am_Ex d 57 11 [am_N, am_N] [] M = _
    refine (am_e0 rfl rfl).trans ?_
    exact (am_e4i rfl rfl).trans rfl
  · refine (am_e0 rfl rfl).trans ?_
    refine (am_e0 rfl rfl).trans ?_
    refine (am_i_ge rfl).trans (am_if_congr (fun c102 => ?_) (fun c102 => ?_))
    · refine (am_e0 rfl rfl).trans ?_
      refine (am_gf (c := 8) (t := 2) rfl rfl rfl).trans (am_g_congr fun h103 => ?_)
      refine (am_e0 rfl rfl).trans ?_
      refine (am_ial rfl).trans (am_g_congr fun h104 => ?_)
      refine (am_e1 rfl rfl).trans ?_
      exact (am_e4i rfl rfl).trans rfl
    · refine (am_e5 rfl).trans ?_
      show am_Ex d 57 11 [am_N, am_N] [] M = _
      refine (am_e0 rfl rfl).trans ?_
      exact (am_e4i rfl rfl).trans rfl
-- 58: UnlearnedHand$Script.numberOf(II)I
set_option maxRecDepth 10000 in
theorem aq_58 (d : Nat) (x0 x1 x2 : Int) (M : am_M) : am_Call d 58 [(2, x0), (0, x1), (0, x2)] M = (am_let (am_w32 ((am_w32 (x1 * 3)) + x2)) fun v101 => if v101 < 0 then (some ((-1), M)) else (am_g (am_ob x0 8) <| am_g (am_ia (am_rd M x0 5)) <| if v101 < am_ln (am_rd M x0 5) then (am_g (am_ar (am_rd M x0 5) 20 v101) <| some (am_rd M (am_rd M x0 5) v101, M)) else (some ((-1), M)))) := by
  show am_Ex d 58 0 [(2, x0), (0, x1), (0, x2), am_N] [] M = _
  refine (am_e0 rfl rfl).trans ?_
  refine (am_e0 rfl rfl).trans ?_
  refine (am_e0 rfl rfl).trans ?_
  refine (am_e0 rfl rfl).trans ?_
  refine (am_e0 rfl rfl).trans ?_
  refine (am_e0 rfl rfl).trans ?_
  refine am_lets (L := fun v101 => [(2, x0), (0, x1), (0, x2), (0, v101)]) (fun v101 => ?_)
  refine (am_e0 rfl rfl).trans ?_
  refine (am_z_lt rfl).trans (am_if_congr (fun c102 => ?_) (fun c102 => ?_))
  · refine (am_e5 rfl).trans ?_
    show am_Ex d 58 19 [am_N, am_N, am_N, am_N] [] M = _
    refine (am_e0 rfl rfl).trans ?_
    exact (am_e4i rfl rfl).trans rfl
  · refine (am_e0 rfl rfl).trans ?_
    refine (am_e0 rfl rfl).trans ?_
    refine (am_gf (c := 8) (t := 2) rfl rfl rfl).trans (am_g_congr fun h103 => ?_)
    refine (am_aln rfl).trans (am_g_congr fun h104 => ?_)
    refine (am_i_ge rfl).trans (am_if_congr (fun c105 => ?_) (fun c105 => ?_))
    · refine (am_e0 rfl rfl).trans ?_
      refine (am_gf (c := 8) (t := 2) rfl rfl rfl).trans ((am_g_t h103).trans ?_)
      refine (am_e0 rfl rfl).trans ?_
      refine (am_ial rfl).trans (am_g_congr fun h106 => ?_)
      refine (am_e1 rfl rfl).trans ?_
      exact (am_e4i rfl rfl).trans rfl
    · refine (am_e5 rfl).trans ?_
      show am_Ex d 58 19 [am_N, am_N, am_N, am_N] [] M = _
      refine (am_e0 rfl rfl).trans ?_
      exact (am_e4i rfl rfl).trans rfl
-- 59: UnlearnedHand.allow(I)Z
set_option maxRecDepth 10000 in
theorem aq_59 (d : Nat) (x0 x1 : Int) (M : am_M) : am_Call d 59 [(2, x0), (0, x1)] M = (if x1 < 0 then (some (0, M)) else (if x1 ≤ 8 then (am_g (am_ob x0 10) <| am_g (am_ob (am_rd M x0 0) 2) <| am_let (am_wr M (am_rd M x0 0) 10 x1) fun M105 => some (1, M105)) else (some (0, M)))) := by
  show am_Ex d 59 0 [(2, x0), (0, x1)] [] M = _
  refine (am_e0 rfl rfl).trans ?_
  refine (am_z_lt rfl).trans (am_if_congr (fun c101 => ?_) (fun c101 => ?_))
  · refine (am_e5 rfl).trans ?_
    show am_Ex d 59 6 [am_N, am_N] [] M = _
    refine (am_e0 rfl rfl).trans ?_
    exact (am_e4i rfl rfl).trans rfl
  · refine (am_e0 rfl rfl).trans ?_
    refine (am_e0 rfl rfl).trans ?_
    refine (am_i_le rfl).trans (am_if_congr (fun c102 => ?_) (fun c102 => ?_))
    · refine (am_e0 rfl rfl).trans ?_
      refine (am_gf (c := 10) (t := 2) rfl rfl rfl).trans (am_g_congr fun h103 => ?_)
      refine (am_e0 rfl rfl).trans ?_
      refine (am_pf (c := 2) rfl rfl rfl).trans (am_g_congr fun h104 => ?_)
      refine am_letm (fun M105 => ?_)
      refine (am_e0 rfl rfl).trans ?_
      exact (am_e4i rfl rfl).trans rfl
    · refine (am_e5 rfl).trans ?_
      show am_Ex d 59 6 [am_N, am_N] [] M = _
      refine (am_e0 rfl rfl).trans ?_
      exact (am_e4i rfl rfl).trans rfl
-- 60: UnlearnedHand.feedFour(I)V
set_option maxRecDepth 10000 in
theorem aq_60 (d : Nat) (x0 x1 : Int) (M : am_M) : am_Call d 60 [(2, x0), (0, x1)] M = (am_Ex d 60 3 [(2, x0), (0, x1), (0, 24)] [] M) := by
  show am_Ex d 60 0 [(2, x0), (0, x1), am_N] [] M = _
  refine (am_e0 rfl rfl).trans ?_
  refine (am_e0 rfl rfl).trans ?_
  exact (am_e5 rfl).trans rfl
set_option maxRecDepth 10000 in
theorem aq_60_3 (d : Nat) (x0 x1 x2 : Int) (M : am_M) : am_Ex d 60 3 [(2, x0), (0, x1), (0, x2)] [] M = (if x2 < 0 then (some (0, M)) else (am_g (am_ob x0 10) <| if am_rd M x0 8 < 0 then (am_Ex d 60 32 [(2, x0), (0, x1), (0, x2)] [] M) else (am_g (am_ia (am_rd M x0 7)) <| if am_rd M x0 8 < am_ln (am_rd M x0 7) then (am_g (am_ar (am_rd M x0 7) 22 (am_rd M x0 8)) <| am_let (am_wr M (am_rd M x0 7) (am_rd M x0 8) (am_u16 (am_u16 (am_and (am_ushr x1 x2) 255)))) fun M107 => am_let (am_wr M107 x0 8 (am_w32 ((am_rd M107 x0 8) + 1))) fun M108 => am_Ex d 60 32 [(2, x0), (0, x1), (0, x2)] [] M108) else (am_Ex d 60 32 [(2, x0), (0, x1), (0, x2)] [] M)))) := by
  refine (am_e0 rfl rfl).trans ?_
  refine (am_z_lt rfl).trans (am_if_congr (fun c101 => ?_) (fun c101 => ?_))
  · exact (am_e4v rfl rfl).trans rfl
  · refine (am_e0 rfl rfl).trans ?_
    refine (am_gf (c := 10) (t := 0) rfl rfl rfl).trans (am_g_congr fun h102 => ?_)
    refine (am_z_lt rfl).trans (am_if_congr (fun c103 => ?_) (fun c103 => ?_))
    · exact (am_e5 rfl).trans rfl
    · refine (am_e0 rfl rfl).trans ?_
      refine (am_gf (c := 10) (t := 0) rfl rfl rfl).trans ((am_g_t h102).trans ?_)
      refine (am_e0 rfl rfl).trans ?_
      refine (am_gf (c := 10) (t := 2) rfl rfl rfl).trans ((am_g_t h102).trans ?_)
      refine (am_aln rfl).trans (am_g_congr fun h104 => ?_)
      refine (am_i_ge rfl).trans (am_if_congr (fun c105 => ?_) (fun c105 => ?_))
      · refine (am_e0 rfl rfl).trans ?_
        refine (am_gf (c := 10) (t := 2) rfl rfl rfl).trans ((am_g_t h102).trans ?_)
        refine (am_e0 rfl rfl).trans ?_
        refine (am_gf (c := 10) (t := 0) rfl rfl rfl).trans ((am_g_t h102).trans ?_)
        refine (am_e0 rfl rfl).trans ?_
        refine (am_e0 rfl rfl).trans ?_
        refine (am_e0 rfl rfl).trans ?_
        refine (am_e0 rfl rfl).trans ?_
        refine (am_e0 rfl rfl).trans ?_
        refine (am_e0 rfl rfl).trans ?_
        refine (am_cas rfl).trans (am_g_congr fun h106 => ?_)
        refine am_letm (fun M107 => ?_)
        refine (am_e0 rfl rfl).trans ?_
        refine (am_e0 rfl rfl).trans ?_
        refine (am_gf (c := 10) (t := 0) rfl rfl rfl).trans ((am_g_t h102).trans ?_)
        refine (am_e0 rfl rfl).trans ?_
        refine (am_e0 rfl rfl).trans ?_
        refine (am_pf (c := 10) rfl rfl rfl).trans ((am_g_t h102).trans ?_)
        refine am_letm (fun M108 => ?_)
        exact (am_e5 rfl).trans rfl
      · exact (am_e5 rfl).trans rfl
set_option maxRecDepth 10000 in
theorem aq_60_32 (d : Nat) (x0 x1 x2 : Int) (M : am_M) : am_Ex d 60 32 [(2, x0), (0, x1), (0, x2)] [] M = (am_let (am_w32 (x2 + (-8))) fun v101 => am_Ex d 60 3 [(2, x0), (0, x1), (0, v101)] [] M) := by
  refine (am_e0 rfl rfl).trans ?_
  refine am_lets (L := fun v101 => [(2, x0), (0, x1), (0, v101)]) (fun v101 => ?_)
  refine (am_e1 rfl rfl).trans ?_
  exact (am_e5 rfl).trans rfl
-- 61: UnlearnedHand.end(I)I
set_option maxRecDepth 10000 in
theorem aq_61 (d : Nat) (x0 x1 : Int) (M : am_M) : am_Call d 61 [(2, x0), (0, x1)] M = (if x1 < 0 then (some ((-1), M)) else (am_g (am_ob x0 10) <| if x1 ≤ am_rd M x0 8 then (am_let (am_wr M x0 8 x1) fun M104 => some (x1, M104)) else (some ((-1), M)))) := by
  show am_Ex d 61 0 [(2, x0), (0, x1)] [] M = _
  refine (am_e0 rfl rfl).trans ?_
  refine (am_z_lt rfl).trans (am_if_congr (fun c101 => ?_) (fun c101 => ?_))
  · refine (am_e5 rfl).trans ?_
    show am_Ex d 61 7 [am_N, am_N] [] M = _
    refine (am_e0 rfl rfl).trans ?_
    exact (am_e4i rfl rfl).trans rfl
  · refine (am_e0 rfl rfl).trans ?_
    refine (am_e0 rfl rfl).trans ?_
    refine (am_gf (c := 10) (t := 0) rfl rfl rfl).trans (am_g_congr fun h102 => ?_)
    refine (am_i_le rfl).trans (am_if_congr (fun c103 => ?_) (fun c103 => ?_))
    · refine (am_e0 rfl rfl).trans ?_
      refine (am_e0 rfl rfl).trans ?_
      refine (am_pf (c := 10) rfl rfl rfl).trans ((am_g_t h102).trans ?_)
      refine am_letm (fun M104 => ?_)
      refine (am_e0 rfl rfl).trans ?_
      exact (am_e4i rfl rfl).trans rfl
    · refine (am_e5 rfl).trans ?_
      show am_Ex d 61 7 [am_N, am_N] [] M = _
      refine (am_e0 rfl rfl).trans ?_
      exact (am_e4i rfl rfl).trans rfl
-- 62: UnlearnedHand.fault(I)I
set_option maxRecDepth 10000 in
theorem aq_62 (d : Nat) (x0 x1 : Int) (M : am_M) : am_Call d 62 [(2, x0), (0, x1)] M = (am_g (am_ob x0 10) <| am_g (am_ob (am_rd M x0 9) 6) <| if am_rd M (am_rd M x0 9) 7 = 0 then (some ((-1), M)) else (if x1 < 0 then (some ((-1), M)) else (if x1 ≤ 1 then (if x1 = 0 then (some (am_rd M (am_rd M x0 9) 8, M)) else (some (am_rd M (am_rd M x0 9) 9, M))) else (some ((-1), M))))) := by
  show am_Ex d 62 0 [(2, x0), (0, x1)] [] M = _
  refine (am_e0 rfl rfl).trans ?_
  refine (am_gf (c := 10) (t := 2) rfl rfl rfl).trans (am_g_congr fun h101 => ?_)
  refine (am_gf (c := 6) (t := 0) rfl rfl rfl).trans (am_g_congr fun h102 => ?_)
  refine (am_z_eq rfl).trans (am_if_congr (fun c103 => ?_) (fun c103 => ?_))
  · refine (am_e5 rfl).trans ?_
    show am_Ex d 62 10 [am_N, am_N] [] M = _
    refine (am_e0 rfl rfl).trans ?_
    exact (am_e4i rfl rfl).trans rfl
  · refine (am_e0 rfl rfl).trans ?_
    refine (am_z_lt rfl).trans (am_if_congr (fun c104 => ?_) (fun c104 => ?_))
    · refine (am_e5 rfl).trans ?_
      show am_Ex d 62 10 [am_N, am_N] [] M = _
      refine (am_e0 rfl rfl).trans ?_
      exact (am_e4i rfl rfl).trans rfl
    · refine (am_e0 rfl rfl).trans ?_
      refine (am_e0 rfl rfl).trans ?_
      refine (am_i_le rfl).trans (am_if_congr (fun c105 => ?_) (fun c105 => ?_))
      · refine (am_e0 rfl rfl).trans ?_
        refine (am_z_ne rfl).trans (am_if_congr (fun c106 => ?_) (fun c106 => ?_))
        · refine (am_e0 rfl rfl).trans ?_
          refine (am_gf (c := 10) (t := 2) rfl rfl rfl).trans ((am_g_t h101).trans ?_)
          refine (am_gf (c := 6) (t := 0) rfl rfl rfl).trans ((am_g_t h102).trans ?_)
          refine (am_e1 rfl rfl).trans ?_
          exact (am_e4i rfl rfl).trans rfl
        · refine (am_e0 rfl rfl).trans ?_
          refine (am_gf (c := 10) (t := 2) rfl rfl rfl).trans ((am_g_t h101).trans ?_)
          refine (am_gf (c := 6) (t := 0) rfl rfl rfl).trans ((am_g_t h102).trans ?_)
          exact (am_e4i rfl rfl).trans rfl
      · refine (am_e5 rfl).trans ?_
        show am_Ex d 62 10 [am_N, am_N] [] M = _
        refine (am_e0 rfl rfl).trans ?_
        exact (am_e4i rfl rfl).trans rfl
