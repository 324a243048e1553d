/-! equations of the methods 103 .. 122 -/
-- 103: java/lang/StringLatin1.indexOfChar([BIII)I
set_option maxRecDepth 10000 in
theorem aq_103 (d : Nat) (x0 x1 x2 x3 : Int) (M : am_M) : am_Call d 103 [(2, x0), (0, x1), (0, x2), (0, x3)] M = (am_let (am_i8 x1) fun v101 => am_Ex d 103 6 [(2, x0), am_N, am_N, (0, x3), (0, v101), (0, x2)] [] M) := by
  show am_Ex d 103 0 [(2, x0), (0, x1), (0, x2), (0, x3), am_N, am_N] [] M = _
  refine (am_e0 rfl rfl).trans ?_
  refine (am_e0 rfl rfl).trans ?_
  refine (am_e0 rfl rfl).trans ?_
  refine am_lets (L := fun v101 => [(2, x0), (0, x1), (0, x2), (0, x3), (0, v101), am_N]) (fun v101 => ?_)
  refine (am_e0 rfl rfl).trans ?_
  refine (am_e0 rfl rfl).trans ?_
  exact (am_e5 rfl).trans rfl
set_option maxRecDepth 10000 in
theorem aq_103_6 (d : Nat) (x0 x3 x4 x5 : Int) (M : am_M) : am_Ex d 103 6 [(2, x0), am_N, am_N, (0, x3), (0, x4), (0, x5)] [] M = (if x5 < x3 then (am_g ((decide (x0 = -5) || decide (x0 = -6)) && (decide (0 ≤ x5) && decide (x5 < ((am_str (-5 - x0).toNat).length : Int)))) <| if (am_str (-5 - x0).toNat).getD (x5).toNat 0 = x4 then (some (x5, M)) else (am_let (am_w32 (x5 + 1)) fun v104 => am_Ex d 103 6 [(2, x0), am_N, am_N, (0, x3), (0, x4), (0, v104)] [] M)) else (some ((-1), M))) := by
  refine (am_e0 rfl rfl).trans ?_
  refine (am_e0 rfl rfl).trans ?_
  refine (am_i_ge rfl).trans (am_if_congr (fun c101 => ?_) (fun c101 => ?_))
  · refine (am_e0 rfl rfl).trans ?_
    refine (am_e0 rfl rfl).trans ?_
    refine (am_rbl rfl).trans (am_g_congr fun h102 => ?_)
    refine (am_e0 rfl rfl).trans ?_
    refine (am_i_ne rfl).trans (am_if_congr (fun c103 => ?_) (fun c103 => ?_))
    · refine (am_e0 rfl rfl).trans ?_
      exact (am_e4i rfl rfl).trans rfl
    · refine (am_e0 rfl rfl).trans ?_
      refine am_lets (L := fun v104 => [(2, x0), am_N, am_N, (0, x3), (0, x4), (0, v104)]) (fun v104 => ?_)
      refine (am_e1 rfl rfl).trans ?_
      exact (am_e5 rfl).trans rfl
  · refine (am_e0 rfl rfl).trans ?_
    exact (am_e4i rfl rfl).trans rfl
-- 104: jdk/internal/util/Preconditions.checkIndex(IILjava/util/function/BiFunction;)I
set_option maxRecDepth 10000 in
theorem aq_104 (d : Nat) (x0 x1 x2 : Int) (M : am_M) : am_Call d 104 [(0, x0), (0, x1), (2, x2)] M = (if x0 < 0 then (am_Ex d 104 6 [(0, x0), (0, x1), (2, x2)] [] M) else (if x0 < x1 then (some (x0, M)) else (am_Ex d 104 6 [(0, x0), (0, x1), (2, x2)] [] M))) := by
  show am_Ex d 104 0 [(0, x0), (0, x1), (2, x2)] [] M = _
  refine (am_e0 rfl rfl).trans ?_
  refine (am_z_lt rfl).trans (am_if_congr (fun c101 => ?_) (fun c101 => ?_))
  · exact (am_e5 rfl).trans rfl
  · refine (am_e0 rfl rfl).trans ?_
    refine (am_e0 rfl rfl).trans ?_
    refine (am_i_lt rfl).trans (am_if_congr (fun c102 => ?_) (fun c102 => ?_))
    · refine (am_e5 rfl).trans ?_
      show am_Ex d 104 12 [(0, x0), am_N, am_N] [] M = _
      refine (am_e0 rfl rfl).trans ?_
      exact (am_e4i rfl rfl).trans rfl
    · exact (am_e5 rfl).trans rfl
set_option maxRecDepth 10000 in
theorem aq_104_6 (d : Nat) (x0 x1 x2 : Int) (M : am_M) : am_Ex d 104 6 [(0, x0), (0, x1), (2, x2)] [] M = (none) := by
  refine (am_e0 rfl rfl).trans ?_
  refine (am_e0 rfl rfl).trans ?_
  refine (am_e0 rfl rfl).trans ?_
  exact (am_e99 rfl).trans rfl
-- 105: UnlearnedHand$Foresight.<init>(LUnlearnedHand$Guild;LUnlearnedHand$Hands;LUnlearnedHand$Laws;LUnlearnedHand$Deeds;)V
set_option maxRecDepth 10000 in
theorem aq_105 (d : Nat) (x0 x1 x2 x3 x4 : Int) (M : am_M) : am_Call d 105 [(2, x0), (2, x1), (2, x2), (2, x3), (2, x4)] M = (am_g (decide (0 < x0)) <| am_g (am_ob M.1 3) <| am_let (am_al M) fun M103 => am_g (am_ob (M.1 : Int) 3) <| (am_Call d 21 [(2, (M.1 : Int))] M103).bind fun r105 => am_g (am_ob x0 1) <| am_let (am_wr r105.2 x0 4 (M.1 : Int)) fun M107 => am_g (am_mt M107 16 8) <| am_let (am_mna M107 (8 : Int).toNat) fun M109 => am_let (am_wr M109 x0 5 (M107.1 : Int)) fun M110 => am_g (am_ob M110.1 20 && (am_ln M110.1 == 4)) <| am_let (am_al M110) fun M112 => am_let (am_wr M112 x0 6 (M110.1 : Int)) fun M113 => am_g (am_ob M113.1 20 && (am_ln M113.1 == 4)) <| am_let (am_al M113) fun M115 => am_let (am_wr M115 x0 7 (M113.1 : Int)) fun M116 => am_let (am_wr M116 x0 0 x1) fun M117 => am_let (am_wr M117 x0 1 x2) fun M118 => am_let (am_wr M118 x0 2 x3) fun M119 => am_let (am_wr M119 x0 3 x4) fun M120 => some (0, M120)) := by
  show am_Ex d 105 0 [(2, x0), (2, x1), (2, x2), (2, x3), (2, x4)] [] M = _
  refine (am_e0 rfl rfl).trans ?_
  refine (am_e8 rfl rfl).trans (am_g_congr fun h101 => ?_)
  refine (am_e0 rfl rfl).trans ?_
  refine (am_nwo (c := 3) rfl rfl).trans (am_g_congr fun h102 => ?_)
  refine am_letm (fun M103 => ?_)
  refine (am_e0 rfl rfl).trans ?_
  refine (am_cal3 (z := 21) (k := 1) (c := (am_ob (M.1 : Int) 3)) rfl rfl rfl rfl rfl rfl rfl rfl).trans (am_g_congr fun h104 => ?_)
  refine am_bind_congr fun r105 => ?_
  show am_Ex d 105 6 [(2, x0), (2, x1), (2, x2), (2, x3), (2, x4)] [(2, (M.1 : Int)), (2, x0)] r105.2 = _
  refine (am_pf (c := 1) rfl rfl rfl).trans (am_g_congr fun h106 => ?_)
  refine am_letm (fun M107 => ?_)
  refine (am_e0 rfl rfl).trans ?_
  refine (am_e0 rfl rfl).trans ?_
  refine (am_e0 rfl rfl).trans ?_
  refine (am_nwm rfl).trans (am_g_congr fun h108 => ?_)
  refine am_letm (fun M109 => ?_)
  refine (am_pf (c := 1) rfl rfl rfl).trans ((am_g_t h106).trans ?_)
  refine am_letm (fun M110 => ?_)
  refine (am_e0 rfl rfl).trans ?_
  refine (am_e0 rfl rfl).trans ?_
  refine (am_nwa (c := 20) rfl rfl).trans (am_g_congr fun h111 => ?_)
  refine am_letm (fun M112 => ?_)
  refine (am_pf (c := 1) rfl rfl rfl).trans ((am_g_t h106).trans ?_)
  refine am_letm (fun M113 => ?_)
  refine (am_e0 rfl rfl).trans ?_
  refine (am_e0 rfl rfl).trans ?_
  refine (am_nwa (c := 20) rfl rfl).trans (am_g_congr fun h114 => ?_)
  refine am_letm (fun M115 => ?_)
  refine (am_pf (c := 1) rfl rfl rfl).trans ((am_g_t h106).trans ?_)
  refine am_letm (fun M116 => ?_)
  refine (am_e0 rfl rfl).trans ?_
  refine (am_e0 rfl rfl).trans ?_
  refine (am_pf (c := 1) rfl rfl rfl).trans ((am_g_t h106).trans ?_)
  refine am_letm (fun M117 => ?_)
  refine (am_e0 rfl rfl).trans ?_
  refine (am_e0 rfl rfl).trans ?_
  refine (am_pf (c := 1) rfl rfl rfl).trans ((am_g_t h106).trans ?_)
  refine am_letm (fun M118 => ?_)
  refine (am_e0 rfl rfl).trans ?_
  refine (am_e0 rfl rfl).trans ?_
  refine (am_pf (c := 1) rfl rfl rfl).trans ((am_g_t h106).trans ?_)
  refine am_letm (fun M119 => ?_)
  refine (am_e0 rfl rfl).trans ?_
  refine (am_e0 rfl rfl).trans ?_
  refine (am_pf (c := 1) rfl rfl rfl).trans ((am_g_t h106).trans ?_)
  refine am_letm (fun M120 => ?_)
  exact (am_e4v rfl rfl).trans rfl
-- 106: UnlearnedHand$Foresight.fewLessons(III)I
set_option maxRecDepth 10000 in
theorem aq_106 (d : Nat) (x0 x1 x2 x3 : Int) (M : am_M) : am_Call d 106 [(2, x0), (0, x1), (0, x2), (0, x3)] M = (am_g (am_ob x0 1) <| am_g (am_ob (am_rd M x0 0) 2) <| am_let (am_w32 ((am_rd M (am_rd M x0 0) 5) + 1)) fun v103 => am_Ex d 106 11 [(2, x0), (0, x1), (0, x2), (0, x3), (0, v103), (0, 1), (0, 0), am_N, am_N] [] M) := by
  show am_Ex d 106 0 [(2, x0), (0, x1), (0, x2), (0, x3), am_N, am_N, am_N, am_N, am_N] [] M = _
  refine (am_e0 rfl rfl).trans ?_
  refine (am_gf (c := 1) (t := 2) rfl rfl rfl).trans (am_g_congr fun h101 => ?_)
  refine (am_gf (c := 2) (t := 0) rfl rfl rfl).trans (am_g_congr fun h102 => ?_)
  refine (am_e0 rfl rfl).trans ?_
  refine (am_e0 rfl rfl).trans ?_
  refine (am_e0 rfl rfl).trans ?_
  refine am_lets (L := fun v103 => [(2, x0), (0, x1), (0, x2), (0, x3), (0, v103), am_N, am_N, am_N, am_N]) (fun v103 => ?_)
  refine (am_e0 rfl rfl).trans ?_
  refine (am_e0 rfl rfl).trans ?_
  refine (am_e0 rfl rfl).trans ?_
  refine (am_e0 rfl rfl).trans ?_
  exact (am_e5 rfl).trans rfl
set_option maxRecDepth 10000 in
theorem aq_106_11 (d : Nat) (x0 x1 x2 x3 x4 x5 x6 : Int) (M : am_M) : am_Ex d 106 11 [(2, x0), (0, x1), (0, x2), (0, x3), (0, x4), (0, x5), (0, x6), am_N, am_N] [] M = (if x6 < x1 then (if x6 < 4 then (am_let (am_w32 (x5 * x4)) fun v103 => am_g (am_ob x0 1) <| am_g (am_ar (am_rd M x0 6) 20 x6) <| am_let (am_wr M (am_rd M x0 6) x6 0) fun M106 => am_let (am_w32 (x6 + 1)) fun v107 => am_Ex d 106 11 [(2, x0), (0, x1), (0, x2), (0, x3), (0, x4), (0, v103), (0, v107), am_N, am_N] [] M106) else (am_Ex d 106 29 [(2, x0), (0, x1), (0, x2), (0, x3), (0, x4), (0, x5), am_N, am_N, am_N] [] M)) else (am_Ex d 106 29 [(2, x0), (0, x1), (0, x2), (0, x3), (0, x4), (0, x5), am_N, am_N, am_N] [] M)) := by
  refine (am_e0 rfl rfl).trans ?_
  refine (am_e0 rfl rfl).trans ?_
  refine (am_i_ge rfl).trans (am_if_congr (fun c101 => ?_) (fun c101 => ?_))
  · refine (am_e0 rfl rfl).trans ?_
    refine (am_e0 rfl rfl).trans ?_
    refine (am_i_ge rfl).trans (am_if_congr (fun c102 => ?_) (fun c102 => ?_))
    · refine (am_e0 rfl rfl).trans ?_
      refine (am_e0 rfl rfl).trans ?_
      refine (am_e0 rfl rfl).trans ?_
      refine (am_e0 rfl rfl).trans ?_
      refine am_lets (L := fun v103 => [(2, x0), (0, x1), (0, x2), (0, x3), (0, x4), (0, v103), (0, x6), am_N, am_N]) (fun v103 => ?_)
      refine (am_e0 rfl rfl).trans ?_
      refine (am_gf (c := 1) (t := 2) rfl rfl rfl).trans (am_g_congr fun h104 => ?_)
      refine (am_e0 rfl rfl).trans ?_
      refine (am_e0 rfl rfl).trans ?_
      refine (am_ias rfl).trans (am_g_congr fun h105 => ?_)
      refine am_letm (fun M106 => ?_)
      refine (am_e0 rfl rfl).trans ?_
      refine am_lets (L := fun v107 => [(2, x0), (0, x1), (0, x2), (0, x3), (0, x4), (0, v103), (0, v107), am_N, am_N]) (fun v107 => ?_)
      refine (am_e1 rfl rfl).trans ?_
      exact (am_e5 rfl).trans rfl
    · exact (am_e5 rfl).trans rfl
  · exact (am_e5 rfl).trans rfl
set_option maxRecDepth 10000 in
theorem aq_106_29 (d : Nat) (x0 x1 x2 x3 x4 x5 : Int) (M : am_M) : am_Ex d 106 29 [(2, x0), (0, x1), (0, x2), (0, x3), (0, x4), (0, x5), am_N, am_N, am_N] [] M = (am_Ex d 106 34 [(2, x0), (0, x1), (0, x2), (0, x3), (0, x4), (0, x5), (0, (-1)), (0, 0), am_N] [] M) := by
  refine (am_e0 rfl rfl).trans ?_
  refine (am_e0 rfl rfl).trans ?_
  refine (am_e0 rfl rfl).trans ?_
  refine (am_e0 rfl rfl).trans ?_
  exact (am_e5 rfl).trans rfl
set_option maxRecDepth 10000 in
theorem aq_106_34 (d : Nat) (x0 x1 x2 x3 x4 x5 x6 x7 : Int) (M : am_M) : am_Ex d 106 34 [(2, x0), (0, x1), (0, x2), (0, x3), (0, x4), (0, x5), (0, x6), (0, x7), am_N] [] M = (if x7 < x5 then (am_g (am_ob x0 1) <| (am_Call d 3 [(2, x0), (0, x1)] M).bind fun r103 => if x6 = (-1) then (am_Ex d 106 48 [(2, x0), (0, x1), (0, x2), (0, x3), (0, x4), (0, x5), (0, x6), (0, x7), (0, r103.1)] [] r103.2) else (if r103.1 < x6 then (am_Ex d 106 48 [(2, x0), (0, x1), (0, x2), (0, x3), (0, x4), (0, x5), (0, x6), (0, x7), (0, r103.1)] [] r103.2) else (am_Ex d 106 64 [(2, x0), (0, x1), (0, x2), (0, x3), (0, x4), (0, x5), (0, x6), (0, x7), am_N] [] r103.2))) else (if x6 = (-1) then (am_Ex d 106 79 [am_N, am_N, am_N, (0, x3), am_N, am_N, (0, x6), am_N, am_N] [] M) else (if x3 < 0 then (am_Ex d 106 79 [am_N, am_N, am_N, (0, x3), am_N, am_N, (0, x6), am_N, am_N] [] M) else (if x3 < 4 then (am_g (am_ob x0 1) <| am_g (am_ar (am_rd M x0 7) 20 x3) <| if am_rd M (am_rd M x0 7) x3 = 0 then (some (8, M)) else (some (am_w32 ((am_rd M (am_rd M x0 7) x3) - 1), M))) else (am_Ex d 106 79 [am_N, am_N, am_N, (0, x3), am_N, am_N, (0, x6), am_N, am_N] [] M))))) := by
  refine (am_e0 rfl rfl).trans ?_
  refine (am_e0 rfl rfl).trans ?_
  refine (am_i_ge rfl).trans (am_if_congr (fun c101 => ?_) (fun c101 => ?_))
  · refine (am_e0 rfl rfl).trans ?_
    refine (am_e0 rfl rfl).trans ?_
    refine (am_cal3 (z := 3) (k := 2) (c := (am_ob x0 1)) rfl rfl rfl rfl rfl rfl rfl rfl).trans (am_g_congr fun h102 => ?_)
    refine am_bind_congr fun r103 => ?_
    show am_Ex d 106 40 [(2, x0), (0, x1), (0, x2), (0, x3), (0, x4), (0, x5), (0, x6), (0, x7), am_N] [(0, r103.1)] r103.2 = _
    refine (am_e0 rfl rfl).trans ?_
    refine (am_e0 rfl rfl).trans ?_
    refine (am_e0 rfl rfl).trans ?_
    refine (am_i_eq rfl).trans (am_if_congr (fun c104 => ?_) (fun c104 => ?_))
    · exact (am_e5 rfl).trans rfl
    · refine (am_e0 rfl rfl).trans ?_
      refine (am_e0 rfl rfl).trans ?_
      refine (am_i_ge rfl).trans (am_if_congr (fun c105 => ?_) (fun c105 => ?_))
      · exact (am_e5 rfl).trans rfl
      · exact (am_e5 rfl).trans rfl
  · refine (am_e0 rfl rfl).trans ?_
    refine (am_e0 rfl rfl).trans ?_
    refine (am_i_eq rfl).trans (am_if_congr (fun c106 => ?_) (fun c106 => ?_))
    · exact (am_e5 rfl).trans rfl
    · refine (am_e0 rfl rfl).trans ?_
      refine (am_z_lt rfl).trans (am_if_congr (fun c107 => ?_) (fun c107 => ?_))
      · exact (am_e5 rfl).trans rfl
      · refine (am_e0 rfl rfl).trans ?_
        refine (am_e0 rfl rfl).trans ?_
        refine (am_i_lt rfl).trans (am_if_congr (fun c108 => ?_) (fun c108 => ?_))
        · refine (am_e0 rfl rfl).trans ?_
          refine (am_gf (c := 1) (t := 2) rfl rfl rfl).trans (am_g_congr fun h109 => ?_)
          refine (am_e0 rfl rfl).trans ?_
          refine (am_ial rfl).trans (am_g_congr fun h110 => ?_)
          refine (am_z_ne rfl).trans (am_if_congr (fun c111 => ?_) (fun c111 => ?_))
          · refine (am_e0 rfl rfl).trans ?_
            refine (am_e1 rfl rfl).trans ?_
            exact (am_e4i rfl rfl).trans rfl
          · refine (am_e0 rfl rfl).trans ?_
            refine (am_gf (c := 1) (t := 2) rfl rfl rfl).trans ((am_g_t h109).trans ?_)
            refine (am_e0 rfl rfl).trans ?_
            refine (am_ial rfl).trans ((am_g_t h110).trans ?_)
            refine (am_e0 rfl rfl).trans ?_
            refine (am_e0 rfl rfl).trans ?_
            exact (am_e4i rfl rfl).trans rfl
        · exact (am_e5 rfl).trans rfl
set_option maxRecDepth 10000 in
theorem aq_106_48 (d : Nat) (x0 x1 x2 x3 x4 x5 x6 x7 x8 : Int) (M : am_M) : am_Ex d 106 48 [(2, x0), (0, x1), (0, x2), (0, x3), (0, x4), (0, x5), (0, x6), (0, x7), (0, x8)] [] M = (am_g (am_ob x0 1) <| (am_Call d 4 [(2, x0), (0, x1)] M).bind fun r102 => if r102.1 ≤ x2 then (am_g (am_ob (am_rd r102.2 x0 6) 20 && am_ob (am_rd r102.2 x0 7) 20 && (decide (0 ≤ 4) && (decide (0 ≤ 0) && (decide (0 ≤ 0) && (decide (0 + 4 ≤ am_ln (am_rd r102.2 x0 6)) && decide (0 + 4 ≤ am_ln (am_rd r102.2 x0 7))))))) <| am_let (am_cpy r102.2 (am_rd r102.2 x0 6) 0 (am_rd r102.2 x0 7) 0 4) fun M105 => am_Ex d 106 64 [(2, x0), (0, x1), (0, x2), (0, x3), (0, x4), (0, x5), (0, x8), (0, x7), am_N] [] M105) else (am_Ex d 106 64 [(2, x0), (0, x1), (0, x2), (0, x3), (0, x4), (0, x5), (0, x6), (0, x7), am_N] [] r102.2)) := by
  refine (am_e0 rfl rfl).trans ?_
  refine (am_e0 rfl rfl).trans ?_
  refine (am_cal3 (z := 4) (k := 2) (c := (am_ob x0 1)) rfl rfl rfl rfl rfl rfl rfl rfl).trans (am_g_congr fun h101 => ?_)
  refine am_bind_congr fun r102 => ?_
  show am_Ex d 106 51 [(2, x0), (0, x1), (0, x2), (0, x3), (0, x4), (0, x5), (0, x6), (0, x7), (0, x8)] [(0, r102.1)] r102.2 = _
  refine (am_e0 rfl rfl).trans ?_
  refine (am_i_gt rfl).trans (am_if_congr (fun c103 => ?_) (fun c103 => ?_))
  · refine (am_e0 rfl rfl).trans ?_
    refine (am_e0 rfl rfl).trans ?_
    refine (am_e0 rfl rfl).trans ?_
    refine (am_gf (c := 1) (t := 2) rfl rfl rfl).trans ((am_g_t h101).trans ?_)
    refine (am_e0 rfl rfl).trans ?_
    refine (am_e0 rfl rfl).trans ?_
    refine (am_gf (c := 1) (t := 2) rfl rfl rfl).trans ((am_g_t h101).trans ?_)
    refine (am_e0 rfl rfl).trans ?_
    refine (am_e0 rfl rfl).trans ?_
    refine (am_e9 rfl rfl).trans (am_g_congr fun h104 => ?_)
    refine am_letm (fun M105 => ?_)
    exact (am_e5 rfl).trans rfl
  · exact (am_e5 rfl).trans rfl
set_option maxRecDepth 10000 in
theorem aq_106_64 (d : Nat) (x0 x1 x2 x3 x4 x5 x6 x7 : Int) (M : am_M) : am_Ex d 106 64 [(2, x0), (0, x1), (0, x2), (0, x3), (0, x4), (0, x5), (0, x6), (0, x7), am_N] [] M = (am_g (am_ob x0 1) <| (am_Call d 2 [(2, x0), (0, x1), (0, x4)] M).bind fun r102 => am_let (am_w32 (x7 + 1)) fun v103 => am_Ex d 106 34 [(2, x0), (0, x1), (0, x2), (0, x3), (0, x4), (0, x5), (0, x6), (0, v103), am_N] [] r102.2) := by
  refine (am_e0 rfl rfl).trans ?_
  refine (am_e0 rfl rfl).trans ?_
  refine (am_e0 rfl rfl).trans ?_
  refine (am_cal3 (z := 2) (k := 3) (c := (am_ob x0 1)) rfl rfl rfl rfl rfl rfl rfl rfl).trans (am_g_congr fun h101 => ?_)
  refine am_bind_congr fun r102 => ?_
  show am_Ex d 106 68 [(2, x0), (0, x1), (0, x2), (0, x3), (0, x4), (0, x5), (0, x6), (0, x7), am_N] [] r102.2 = _
  refine (am_e0 rfl rfl).trans ?_
  refine am_lets (L := fun v103 => [(2, x0), (0, x1), (0, x2), (0, x3), (0, x4), (0, x5), (0, x6), (0, v103), am_N]) (fun v103 => ?_)
  refine (am_e1 rfl rfl).trans ?_
  exact (am_e5 rfl).trans rfl
set_option maxRecDepth 10000 in
theorem aq_106_79 (d : Nat) (x3 x6 : Int) (M : am_M) : am_Ex d 106 79 [am_N, am_N, am_N, (0, x3), am_N, am_N, (0, x6), am_N, am_N] [] M = (if x3 = (-1) then (some (x6, M)) else (some ((-1), M))) := by
  refine (am_e0 rfl rfl).trans ?_
  refine (am_e0 rfl rfl).trans ?_
  refine (am_i_ne rfl).trans (am_if_congr (fun c101 => ?_) (fun c101 => ?_))
  · refine (am_e0 rfl rfl).trans ?_
    refine (am_e1 rfl rfl).trans ?_
    exact (am_e4i rfl rfl).trans rfl
  · refine (am_e0 rfl rfl).trans ?_
    exact (am_e4i rfl rfl).trans rfl
-- 107: UnlearnedHand$Guild.tellsBoth(II)Z
set_option maxRecDepth 10000 in
theorem aq_107 (d : Nat) (x0 x1 x2 : Int) (M : am_M) : am_Call d 107 [(2, x0), (0, x1), (0, x2)] M = (am_g (am_ob x0 2) <| (am_Call d 8 [(2, x0), (0, x1)] M).bind fun r102 => if r102.1 = 0 then (some (0, r102.2)) else ((am_Call d 7 [(2, x0), (0, x2)] r102.2).bind fun r104 => if r104.1 = 0 then (some (0, r104.2)) else (some (1, r104.2)))) := by
  show am_Ex d 107 0 [(2, x0), (0, x1), (0, x2)] [] M = _
  refine (am_e0 rfl rfl).trans ?_
  refine (am_e0 rfl rfl).trans ?_
  refine (am_cal3 (z := 8) (k := 2) (c := (am_ob x0 2)) rfl rfl rfl rfl rfl rfl rfl rfl).trans (am_g_congr fun h101 => ?_)
  refine am_bind_congr fun r102 => ?_
  show am_Ex d 107 3 [(2, x0), (0, x1), (0, x2)] [(0, r102.1)] r102.2 = _
  refine (am_z_eq rfl).trans (am_if_congr (fun c103 => ?_) (fun c103 => ?_))
  · refine (am_e5 rfl).trans ?_
    show am_Ex d 107 11 [am_N, am_N, am_N] [] r102.2 = _
    refine (am_e0 rfl rfl).trans ?_
    exact (am_e4i rfl rfl).trans rfl
  · refine (am_e0 rfl rfl).trans ?_
    refine (am_e0 rfl rfl).trans ?_
    refine (am_cal3 (z := 7) (k := 2) (c := (am_ob x0 2)) rfl rfl rfl rfl rfl rfl rfl rfl).trans ((am_g_t h101).trans ?_)
    refine am_bind_congr fun r104 => ?_
    show am_Ex d 107 7 [(2, x0), (0, x1), (0, x2)] [(0, r104.1)] r104.2 = _
    refine (am_z_eq rfl).trans (am_if_congr (fun c105 => ?_) (fun c105 => ?_))
    · refine (am_e5 rfl).trans ?_
      show am_Ex d 107 11 [am_N, am_N, am_N] [] r104.2 = _
      refine (am_e0 rfl rfl).trans ?_
      exact (am_e4i rfl rfl).trans rfl
    · refine (am_e0 rfl rfl).trans ?_
      refine (am_e1 rfl rfl).trans ?_
      exact (am_e4i rfl rfl).trans rfl
-- 108: UnlearnedHand$Guild.tellsTurns(I)Z
set_option maxRecDepth 10000 in
theorem aq_108 (d : Nat) (x0 x1 : Int) (M : am_M) : am_Call d 108 [(2, x0), (0, x1)] M = (am_g (am_ob x0 2) <| (am_Call d 11 [(2, x0)] M).bind fun r102 => if am_and x1 (am_xor r102.1 (-1)) = 0 then (some (1, r102.2)) else (some (0, r102.2))) := by
  show am_Ex d 108 0 [(2, x0), (0, x1)] [] M = _
  refine (am_e0 rfl rfl).trans ?_
  refine (am_e0 rfl rfl).trans ?_
  refine (am_cal3 (z := 11) (k := 1) (c := (am_ob x0 2)) rfl rfl rfl rfl rfl rfl rfl rfl).trans (am_g_congr fun h101 => ?_)
  refine am_bind_congr fun r102 => ?_
  show am_Ex d 108 3 [(2, x0), (0, x1)] [(0, r102.1), (0, x1)] r102.2 = _
  refine (am_e0 rfl rfl).trans ?_
  refine (am_e0 rfl rfl).trans ?_
  refine (am_e0 rfl rfl).trans ?_
  refine (am_z_ne rfl).trans (am_if_congr (fun c103 => ?_) (fun c103 => ?_))
  · refine (am_e0 rfl rfl).trans ?_
    refine (am_e1 rfl rfl).trans ?_
    exact (am_e4i rfl rfl).trans rfl
  · refine (am_e0 rfl rfl).trans ?_
    exact (am_e4i rfl rfl).trans rfl
-- 109: UnlearnedHand$Guild.addLead(II)Z
set_option maxRecDepth 10000 in
theorem aq_109 (d : Nat) (x0 x1 x2 : Int) (M : am_M) : am_Call d 109 [(2, x0), (0, x1), (0, x2)] M = (am_g (am_ob x0 2) <| (am_Call d 7 [(2, x0), (0, x1)] M).bind fun r102 => if r102.1 = 0 then (some (0, r102.2)) else ((am_Call d 7 [(2, x0), (0, x2)] r102.2).bind fun r104 => if r104.1 = 0 then (some (0, r104.2)) else (if x1 = x2 then (some (0, r104.2)) else (am_g (am_ar (am_rd r104.2 x0 1) 20 x1) <| if am_and (am_shr (am_rd r104.2 (am_rd r104.2 x0 1) x1) x2) 1 = 0 then (am_let (am_wr r104.2 (am_rd r104.2 x0 1) x1 (am_or (am_rd r104.2 (am_rd r104.2 x0 1) x1) (am_shl 1 x2))) fun M109 => some (1, M109)) else (some (0, r104.2)))))) := by
  show am_Ex d 109 0 [(2, x0), (0, x1), (0, x2)] [] M = _
  refine (am_e0 rfl rfl).trans ?_
  refine (am_e0 rfl rfl).trans ?_
  refine (am_cal3 (z := 7) (k := 2) (c := (am_ob x0 2)) rfl rfl rfl rfl rfl rfl rfl rfl).trans (am_g_congr fun h101 => ?_)
  refine am_bind_congr fun r102 => ?_
  show am_Ex d 109 3 [(2, x0), (0, x1), (0, x2)] [(0, r102.1)] r102.2 = _
  refine (am_z_eq rfl).trans (am_if_congr (fun c103 => ?_) (fun c103 => ?_))
  · refine (am_e5 rfl).trans ?_
    show am_Ex d 109 21 [am_N, am_N, am_N] [] r102.2 = _
    refine (am_e0 rfl rfl).trans ?_
    exact (am_e4i rfl rfl).trans rfl
  · refine (am_e0 rfl rfl).trans ?_
    refine (am_e0 rfl rfl).trans ?_
    refine (am_cal3 (z := 7) (k := 2) (c := (am_ob x0 2)) rfl rfl rfl rfl rfl rfl rfl rfl).trans ((am_g_t h101).trans ?_)
    refine am_bind_congr fun r104 => ?_
    show am_Ex d 109 7 [(2, x0), (0, x1), (0, x2)] [(0, r104.1)] r104.2 = _
    refine (am_z_eq rfl).trans (am_if_congr (fun c105 => ?_) (fun c105 => ?_))
    · refine (am_e5 rfl).trans ?_
      show am_Ex d 109 21 [am_N, am_N, am_N] [] r104.2 = _
      refine (am_e0 rfl rfl).trans ?_
      exact (am_e4i rfl rfl).trans rfl
    · refine (am_e0 rfl rfl).trans ?_
      refine (am_e0 rfl rfl).trans ?_
      refine (am_i_eq rfl).trans (am_if_congr (fun c106 => ?_) (fun c106 => ?_))
      · refine (am_e5 rfl).trans ?_
        show am_Ex d 109 21 [am_N, am_N, am_N] [] r104.2 = _
        refine (am_e0 rfl rfl).trans ?_
        exact (am_e4i rfl rfl).trans rfl
      · refine (am_e0 rfl rfl).trans ?_
        refine (am_gf (c := 2) (t := 2) rfl rfl rfl).trans ((am_g_t h101).trans ?_)
        refine (am_e0 rfl rfl).trans ?_
        refine (am_ial rfl).trans (am_g_congr fun h107 => ?_)
        refine (am_e0 rfl rfl).trans ?_
        refine (am_e0 rfl rfl).trans ?_
        refine (am_e0 rfl rfl).trans ?_
        refine (am_e0 rfl rfl).trans ?_
        refine (am_z_eq rfl).trans (am_if_congr (fun c108 => ?_) (fun c108 => ?_))
        · refine (am_e0 rfl rfl).trans ?_
          refine (am_gf (c := 2) (t := 2) rfl rfl rfl).trans ((am_g_t h101).trans ?_)
          refine (am_e0 rfl rfl).trans ?_
          refine (am_e0 rfl rfl).trans ?_
          refine (am_ial rfl).trans ((am_g_t h107).trans ?_)
          refine (am_e0 rfl rfl).trans ?_
          refine (am_e0 rfl rfl).trans ?_
          refine (am_e0 rfl rfl).trans ?_
          refine (am_e0 rfl rfl).trans ?_
          refine (am_ias rfl).trans ((am_g_t h107).trans ?_)
          refine am_letm (fun M109 => ?_)
          refine (am_e0 rfl rfl).trans ?_
          exact (am_e4i rfl rfl).trans rfl
        · refine (am_e5 rfl).trans ?_
          show am_Ex d 109 21 [am_N, am_N, am_N] [] r104.2 = _
          refine (am_e0 rfl rfl).trans ?_
          exact (am_e4i rfl rfl).trans rfl
-- 110: UnlearnedHand$Guild.worthOf(I)I
set_option maxRecDepth 10000 in
theorem aq_110 (d : Nat) (x0 x1 : Int) (M : am_M) : am_Call d 110 [(2, x0), (0, x1)] M = (am_g (am_ob x0 2) <| (am_Call d 7 [(2, x0), (0, x1)] M).bind fun r102 => if r102.1 = 0 then (some (0, r102.2)) else (am_g (am_ar (am_rd r102.2 x0 0) 20 x1) <| some (am_rd r102.2 (am_rd r102.2 x0 0) x1, r102.2))) := by
  show am_Ex d 110 0 [(2, x0), (0, x1)] [] M = _
  refine (am_e0 rfl rfl).trans ?_
  refine (am_e0 rfl rfl).trans ?_
  refine (am_cal3 (z := 7) (k := 2) (c := (am_ob x0 2)) rfl rfl rfl rfl rfl rfl rfl rfl).trans (am_g_congr fun h101 => ?_)
  refine am_bind_congr fun r102 => ?_
  show am_Ex d 110 3 [(2, x0), (0, x1)] [(0, r102.1)] r102.2 = _
  refine (am_z_eq rfl).trans (am_if_congr (fun c103 => ?_) (fun c103 => ?_))
  · refine (am_e0 rfl rfl).trans ?_
    exact (am_e4i rfl rfl).trans rfl
  · refine (am_e0 rfl rfl).trans ?_
    refine (am_gf (c := 2) (t := 2) rfl rfl rfl).trans ((am_g_t h101).trans ?_)
    refine (am_e0 rfl rfl).trans ?_
    refine (am_ial rfl).trans (am_g_congr fun h104 => ?_)
    refine (am_e1 rfl rfl).trans ?_
    exact (am_e4i rfl rfl).trans rfl
-- 111: UnlearnedHand$Guild.leadsOf(I)I
set_option maxRecDepth 10000 in
theorem aq_111 (d : Nat) (x0 x1 : Int) (M : am_M) : am_Call d 111 [(2, x0), (0, x1)] M = (am_g (am_ob x0 2) <| (am_Call d 7 [(2, x0), (0, x1)] M).bind fun r102 => if r102.1 = 0 then (some (0, r102.2)) else (am_g (am_ar (am_rd r102.2 x0 1) 20 x1) <| some (am_rd r102.2 (am_rd r102.2 x0 1) x1, r102.2))) := by
  show am_Ex d 111 0 [(2, x0), (0, x1)] [] M = _
  refine (am_e0 rfl rfl).trans ?_
  refine (am_e0 rfl rfl).trans ?_
  refine (am_cal3 (z := 7) (k := 2) (c := (am_ob x0 2)) rfl rfl rfl rfl rfl rfl rfl rfl).trans (am_g_congr fun h101 => ?_)
  refine am_bind_congr fun r102 => ?_
  show am_Ex d 111 3 [(2, x0), (0, x1)] [(0, r102.1)] r102.2 = _
  refine (am_z_eq rfl).trans (am_if_congr (fun c103 => ?_) (fun c103 => ?_))
  · refine (am_e0 rfl rfl).trans ?_
    exact (am_e4i rfl rfl).trans rfl
  · refine (am_e0 rfl rfl).trans ?_
    refine (am_gf (c := 2) (t := 2) rfl rfl rfl).trans ((am_g_t h101).trans ?_)
    refine (am_e0 rfl rfl).trans ?_
    refine (am_ial rfl).trans (am_g_congr fun h104 => ?_)
    refine (am_e1 rfl rfl).trans ?_
    exact (am_e4i rfl rfl).trans rfl
-- 112: UnlearnedHand$Guild.prideOf(I)I
set_option maxRecDepth 10000 in
theorem aq_112 (d : Nat) (x0 x1 : Int) (M : am_M) : am_Call d 112 [(2, x0), (0, x1)] M = (am_g (am_ob x0 2) <| (am_Call d 8 [(2, x0), (0, x1)] M).bind fun r102 => if r102.1 = 0 then (some (0, r102.2)) else (am_g (am_ar (am_rd r102.2 x0 2) 20 x1) <| some (am_rd r102.2 (am_rd r102.2 x0 2) x1, r102.2))) := by
  show am_Ex d 112 0 [(2, x0), (0, x1)] [] M = _
  refine (am_e0 rfl rfl).trans ?_
  refine (am_e0 rfl rfl).trans ?_
  refine (am_cal3 (z := 8) (k := 2) (c := (am_ob x0 2)) rfl rfl rfl rfl rfl rfl rfl rfl).trans (am_g_congr fun h101 => ?_)
  refine am_bind_congr fun r102 => ?_
  show am_Ex d 112 3 [(2, x0), (0, x1)] [(0, r102.1)] r102.2 = _
  refine (am_z_eq rfl).trans (am_if_congr (fun c103 => ?_) (fun c103 => ?_))
  · refine (am_e0 rfl rfl).trans ?_
    exact (am_e4i rfl rfl).trans rfl
  · refine (am_e0 rfl rfl).trans ?_
    refine (am_gf (c := 2) (t := 2) rfl rfl rfl).trans ((am_g_t h101).trans ?_)
    refine (am_e0 rfl rfl).trans ?_
    refine (am_ial rfl).trans (am_g_congr fun h104 => ?_)
    refine (am_e1 rfl rfl).trans ?_
    exact (am_e4i rfl rfl).trans rfl
-- 113: UnlearnedHand$Guild.doneAs(Z)I
set_option maxRecDepth 10000 in
theorem aq_113 (d : Nat) (x0 x1 : Int) (M : am_M) : am_Call d 113 [(2, x0), (0, x1)] M = (am_Ex d 113 5 [(2, x0), (0, x1), (0, 0), (0, 0)] [] M) := by
  show am_Ex d 113 0 [(2, x0), (0, x1), am_N, am_N] [] M = _
  refine (am_e0 rfl rfl).trans ?_
  refine (am_e0 rfl rfl).trans ?_
  refine (am_e0 rfl rfl).trans ?_
  refine (am_e0 rfl rfl).trans ?_
  exact (am_e5 rfl).trans rfl
set_option maxRecDepth 10000 in
theorem aq_113_5 (d : Nat) (x0 x1 x2 x3 : Int) (M : am_M) : am_Ex d 113 5 [(2, x0), (0, x1), (0, x2), (0, x3)] [] M = (am_g (am_ob x0 2) <| if x3 < am_rd M x0 8 then (if x3 < 8 then ((am_Call d 17 [(2, x0), (0, x3)] M).bind fun r104 => if r104.1 = x1 then (am_g (am_ar (am_rd r104.2 x0 4) 20 x3) <| am_let (am_or x2 (am_shl 1 (am_rd r104.2 (am_rd r104.2 x0 4) x3))) fun v107 => am_let (am_w32 (x3 + 1)) fun v108 => am_Ex d 113 5 [(2, x0), (0, x1), (0, v107), (0, v108)] [] r104.2) else (am_let (am_or x2 0) fun v109 => am_let (am_w32 (x3 + 1)) fun v110 => am_Ex d 113 5 [(2, x0), (0, x1), (0, v109), (0, v110)] [] r104.2)) else (some (x2, M))) else (some (x2, M))) := by
  refine (am_e0 rfl rfl).trans ?_
  refine (am_e0 rfl rfl).trans ?_
  refine (am_gf (c := 2) (t := 0) rfl rfl rfl).trans (am_g_congr fun h101 => ?_)
  refine (am_i_ge rfl).trans (am_if_congr (fun c102 => ?_) (fun c102 => ?_))
  · refine (am_e0 rfl rfl).trans ?_
    refine (am_e0 rfl rfl).trans ?_
    refine (am_i_ge rfl).trans (am_if_congr (fun c103 => ?_) (fun c103 => ?_))
    · refine (am_e0 rfl rfl).trans ?_
      refine (am_e0 rfl rfl).trans ?_
      refine (am_e0 rfl rfl).trans ?_
      refine (am_cal3 (z := 17) (k := 2) (c := (am_ob x0 2)) rfl rfl rfl rfl rfl rfl rfl rfl).trans ((am_g_t h101).trans ?_)
      refine am_bind_congr fun r104 => ?_
      show am_Ex d 113 16 [(2, x0), (0, x1), (0, x2), (0, x3)] [(0, r104.1), (0, x2)] r104.2 = _
      refine (am_e0 rfl rfl).trans ?_
      refine (am_i_ne rfl).trans (am_if_congr (fun c105 => ?_) (fun c105 => ?_))
      · refine (am_e0 rfl rfl).trans ?_
        refine (am_e0 rfl rfl).trans ?_
        refine (am_gf (c := 2) (t := 2) rfl rfl rfl).trans ((am_g_t h101).trans ?_)
        refine (am_e0 rfl rfl).trans ?_
        refine (am_ial rfl).trans (am_g_congr fun h106 => ?_)
        refine (am_e0 rfl rfl).trans ?_
        refine (am_e1 rfl rfl).trans ?_
        refine (am_e0 rfl rfl).trans ?_
        refine (am_e0 rfl rfl).trans ?_
        refine am_lets (L := fun v107 => [(2, x0), (0, x1), (0, v107), (0, x3)]) (fun v107 => ?_)
        refine (am_e0 rfl rfl).trans ?_
        refine am_lets (L := fun v108 => [(2, x0), (0, x1), (0, v107), (0, v108)]) (fun v108 => ?_)
        refine (am_e1 rfl rfl).trans ?_
        exact (am_e5 rfl).trans rfl
      · refine (am_e0 rfl rfl).trans ?_
        refine (am_e0 rfl rfl).trans ?_
        refine (am_e0 rfl rfl).trans ?_
        refine am_lets (L := fun v109 => [(2, x0), (0, x1), (0, v109), (0, x3)]) (fun v109 => ?_)
        refine (am_e0 rfl rfl).trans ?_
        refine am_lets (L := fun v110 => [(2, x0), (0, x1), (0, v109), (0, v110)]) (fun v110 => ?_)
        refine (am_e1 rfl rfl).trans ?_
        exact (am_e5 rfl).trans rfl
    · refine (am_e5 rfl).trans ?_
      show am_Ex d 113 31 [am_N, am_N, (0, x2), am_N] [] M = _
      refine (am_e0 rfl rfl).trans ?_
      exact (am_e4i rfl rfl).trans rfl
  · refine (am_e5 rfl).trans ?_
    show am_Ex d 113 31 [am_N, am_N, (0, x2), am_N] [] M = _
    refine (am_e0 rfl rfl).trans ?_
    exact (am_e4i rfl rfl).trans rfl
-- 114: UnlearnedHand$Hands.rightOf(II)I
set_option maxRecDepth 10000 in
theorem aq_114 (d : Nat) (x0 x1 x2 : Int) (M : am_M) : am_Call d 114 [(2, x0), (0, x1), (0, x2)] M = ((am_Call d 23 [(0, x1), (0, x2)] M).bind fun r101 => if r101.1 < 0 then (some (0, r101.2)) else (am_g (am_ob x0 3) <| am_g (am_ar (am_rd r101.2 x0 0) 20 r101.1) <| some (am_rd r101.2 (am_rd r101.2 x0 0) r101.1, r101.2))) := by
  show am_Ex d 114 0 [(2, x0), (0, x1), (0, x2), am_N] [] M = _
  refine (am_e0 rfl rfl).trans ?_
  refine (am_e0 rfl rfl).trans ?_
  refine (am_cal3 (z := 23) (k := 2) (c := true) rfl rfl rfl rfl rfl rfl rfl rfl).trans ((am_g_t rfl).trans ?_)
  refine am_bind_congr fun r101 => ?_
  show am_Ex d 114 3 [(2, x0), (0, x1), (0, x2), am_N] [(0, r101.1)] r101.2 = _
  refine (am_e0 rfl rfl).trans ?_
  refine (am_e0 rfl rfl).trans ?_
  refine (am_z_ge rfl).trans (am_if_congr (fun c102 => ?_) (fun c102 => ?_))
  · refine (am_e0 rfl rfl).trans ?_
    refine (am_e1 rfl rfl).trans ?_
    exact (am_e4i rfl rfl).trans rfl
  · refine (am_e0 rfl rfl).trans ?_
    refine (am_gf (c := 3) (t := 2) rfl rfl rfl).trans (am_g_congr fun h103 => ?_)
    refine (am_e0 rfl rfl).trans ?_
    refine (am_ial rfl).trans (am_g_congr fun h104 => ?_)
    exact (am_e4i rfl rfl).trans rfl
-- 115: UnlearnedHand$Hands.wrongOf(II)I
set_option maxRecDepth 10000 in
theorem aq_115 (d : Nat) (x0 x1 x2 : Int) (M : am_M) : am_Call d 115 [(2, x0), (0, x1), (0, x2)] M = ((am_Call d 23 [(0, x1), (0, x2)] M).bind fun r101 => if r101.1 < 0 then (some (0, r101.2)) else (am_g (am_ob x0 3) <| am_g (am_ar (am_rd r101.2 x0 1) 20 r101.1) <| some (am_rd r101.2 (am_rd r101.2 x0 1) r101.1, r101.2))) := by
  show am_Ex d 115 0 [(2, x0), (0, x1), (0, x2), am_N] [] M = _
  refine (am_e0 rfl rfl).trans ?_
  refine (am_e0 rfl rfl).trans ?_
  refine (am_cal3 (z := 23) (k := 2) (c := true) rfl rfl rfl rfl rfl rfl rfl rfl).trans ((am_g_t rfl).trans ?_)
  refine am_bind_congr fun r101 => ?_
  show am_Ex d 115 3 [(2, x0), (0, x1), (0, x2), am_N] [(0, r101.1)] r101.2 = _
  refine (am_e0 rfl rfl).trans ?_
  refine (am_e0 rfl rfl).trans ?_
  refine (am_z_ge rfl).trans (am_if_congr (fun c102 => ?_) (fun c102 => ?_))
  · refine (am_e0 rfl rfl).trans ?_
    refine (am_e1 rfl rfl).trans ?_
    exact (am_e4i rfl rfl).trans rfl
  · refine (am_e0 rfl rfl).trans ?_
    refine (am_gf (c := 3) (t := 2) rfl rfl rfl).trans (am_g_congr fun h103 => ?_)
    refine (am_e0 rfl rfl).trans ?_
    refine (am_ial rfl).trans (am_g_congr fun h104 => ?_)
    exact (am_e4i rfl rfl).trans rfl
-- 116: UnlearnedHand$Hands.bestOf(II)I
set_option maxRecDepth 10000 in
theorem aq_116 (d : Nat) (x0 x1 x2 : Int) (M : am_M) : am_Call d 116 [(2, x0), (0, x1), (0, x2)] M = ((am_Call d 23 [(0, x1), (0, x2)] M).bind fun r101 => if r101.1 < 0 then (some (0, r101.2)) else (am_g (am_ob x0 3) <| am_g (am_ar (am_rd r101.2 x0 2) 20 r101.1) <| some (am_rd r101.2 (am_rd r101.2 x0 2) r101.1, r101.2))) := by
  show am_Ex d 116 0 [(2, x0), (0, x1), (0, x2), am_N] [] M = _
  refine (am_e0 rfl rfl).trans ?_
  refine (am_e0 rfl rfl).trans ?_
  refine (am_cal3 (z := 23) (k := 2) (c := true) rfl rfl rfl rfl rfl rfl rfl rfl).trans ((am_g_t rfl).trans ?_)
  refine am_bind_congr fun r101 => ?_
  show am_Ex d 116 3 [(2, x0), (0, x1), (0, x2), am_N] [(0, r101.1)] r101.2 = _
  refine (am_e0 rfl rfl).trans ?_
  refine (am_e0 rfl rfl).trans ?_
  refine (am_z_ge rfl).trans (am_if_congr (fun c102 => ?_) (fun c102 => ?_))
  · refine (am_e0 rfl rfl).trans ?_
    refine (am_e1 rfl rfl).trans ?_
    exact (am_e4i rfl rfl).trans rfl
  · refine (am_e0 rfl rfl).trans ?_
    refine (am_gf (c := 3) (t := 2) rfl rfl rfl).trans (am_g_congr fun h103 => ?_)
    refine (am_e0 rfl rfl).trans ?_
    refine (am_ial rfl).trans (am_g_congr fun h104 => ?_)
    exact (am_e4i rfl rfl).trans rfl
-- 117: UnlearnedHand$Hands.isSung(II)Z
set_option maxRecDepth 10000 in
theorem aq_117 (d : Nat) (x0 x1 x2 : Int) (M : am_M) : am_Call d 117 [(2, x0), (0, x1), (0, x2)] M = ((am_Call d 23 [(0, x1), (0, x2)] M).bind fun r101 => if r101.1 < 0 then (some (0, r101.2)) else (am_g (am_ob x0 3) <| am_g (am_ar (am_rd r101.2 x0 3) 20 x1) <| if am_and (am_shr (am_rd r101.2 (am_rd r101.2 x0 3) x1) x2) 1 = 0 then (some (0, r101.2)) else (some (1, r101.2)))) := by
  show am_Ex d 117 0 [(2, x0), (0, x1), (0, x2)] [] M = _
  refine (am_e0 rfl rfl).trans ?_
  refine (am_e0 rfl rfl).trans ?_
  refine (am_cal3 (z := 23) (k := 2) (c := true) rfl rfl rfl rfl rfl rfl rfl rfl).trans ((am_g_t rfl).trans ?_)
  refine am_bind_congr fun r101 => ?_
  show am_Ex d 117 3 [(2, x0), (0, x1), (0, x2)] [(0, r101.1)] r101.2 = _
  refine (am_z_lt rfl).trans (am_if_congr (fun c102 => ?_) (fun c102 => ?_))
  · refine (am_e5 rfl).trans ?_
    show am_Ex d 117 16 [am_N, am_N, am_N] [] r101.2 = _
    refine (am_e0 rfl rfl).trans ?_
    exact (am_e4i rfl rfl).trans rfl
  · refine (am_e0 rfl rfl).trans ?_
    refine (am_gf (c := 3) (t := 2) rfl rfl rfl).trans (am_g_congr fun h103 => ?_)
    refine (am_e0 rfl rfl).trans ?_
    refine (am_ial rfl).trans (am_g_congr fun h104 => ?_)
    refine (am_e0 rfl rfl).trans ?_
    refine (am_e0 rfl rfl).trans ?_
    refine (am_e0 rfl rfl).trans ?_
    refine (am_e0 rfl rfl).trans ?_
    refine (am_z_eq rfl).trans (am_if_congr (fun c105 => ?_) (fun c105 => ?_))
    · refine (am_e5 rfl).trans ?_
      show am_Ex d 117 16 [am_N, am_N, am_N] [] r101.2 = _
      refine (am_e0 rfl rfl).trans ?_
      exact (am_e4i rfl rfl).trans rfl
    · refine (am_e0 rfl rfl).trans ?_
      refine (am_e1 rfl rfl).trans ?_
      exact (am_e4i rfl rfl).trans rfl
-- 118: UnlearnedHand$Hands.isTeachable(II)Z
set_option maxRecDepth 10000 in
theorem aq_118 (d : Nat) (x0 x1 x2 : Int) (M : am_M) : am_Call d 118 [(2, x0), (0, x1), (0, x2)] M = (am_g (am_ob x0 3) <| (am_Call d 25 [(2, x0), (0, x1)] M).bind fun r102 => if r102.1 = 0 then ((am_Call d 24 [(2, x0), (0, x1)] r102.2).bind fun r104 => if r104.1 = x2 then (some (0, r104.2)) else (some (1, r104.2))) else (some (0, r102.2))) := by
  show am_Ex d 118 0 [(2, x0), (0, x1), (0, x2)] [] M = _
  refine (am_e0 rfl rfl).trans ?_
  refine (am_e0 rfl rfl).trans ?_
  refine (am_cal3 (z := 25) (k := 2) (c := (am_ob x0 3)) rfl rfl rfl rfl rfl rfl rfl rfl).trans (am_g_congr fun h101 => ?_)
  refine am_bind_congr fun r102 => ?_
  show am_Ex d 118 3 [(2, x0), (0, x1), (0, x2)] [(0, r102.1)] r102.2 = _
  refine (am_z_ne rfl).trans (am_if_congr (fun c103 => ?_) (fun c103 => ?_))
  · refine (am_e0 rfl rfl).trans ?_
    refine (am_e0 rfl rfl).trans ?_
    refine (am_cal3 (z := 24) (k := 2) (c := (am_ob x0 3)) rfl rfl rfl rfl rfl rfl rfl rfl).trans ((am_g_t h101).trans ?_)
    refine am_bind_congr fun r104 => ?_
    show am_Ex d 118 7 [(2, x0), (0, x1), (0, x2)] [(0, r104.1)] r104.2 = _
    refine (am_e0 rfl rfl).trans ?_
    refine (am_i_eq rfl).trans (am_if_congr (fun c105 => ?_) (fun c105 => ?_))
    · refine (am_e5 rfl).trans ?_
      show am_Ex d 118 12 [am_N, am_N, am_N] [] r104.2 = _
      refine (am_e0 rfl rfl).trans ?_
      exact (am_e4i rfl rfl).trans rfl
    · refine (am_e0 rfl rfl).trans ?_
      refine (am_e1 rfl rfl).trans ?_
      exact (am_e4i rfl rfl).trans rfl
  · refine (am_e5 rfl).trans ?_
    show am_Ex d 118 12 [am_N, am_N, am_N] [] r102.2 = _
    refine (am_e0 rfl rfl).trans ?_
    exact (am_e4i rfl rfl).trans rfl
-- 119: UnlearnedHand$Hands.setRight(III)V
set_option maxRecDepth 10000 in
theorem aq_119 (d : Nat) (x0 x1 x2 x3 : Int) (M : am_M) : am_Call d 119 [(2, x0), (0, x1), (0, x2), (0, x3)] M = ((am_Call d 23 [(0, x1), (0, x2)] M).bind fun r101 => if r101.1 < 0 then (some (0, r101.2)) else (am_g (am_ob x0 3) <| if x3 < 0 then (am_g (am_ar (am_rd r101.2 x0 0) 20 r101.1) <| am_let (am_wr r101.2 (am_rd r101.2 x0 0) r101.1 0) fun M106 => am_g (am_ar (am_rd M106 x0 2) 20 r101.1) <| am_g (am_ar (am_rd M106 x0 0) 20 r101.1) <| am_let (am_wr M106 (am_rd M106 x0 2) r101.1 (max (am_rd M106 (am_rd M106 x0 2) r101.1) (am_rd M106 (am_rd M106 x0 0) r101.1))) fun M109 => some (0, M109)) else (if x3 ≤ 99 then (am_g (am_ar (am_rd r101.2 x0 0) 20 r101.1) <| am_let (am_wr r101.2 (am_rd r101.2 x0 0) r101.1 x3) fun M112 => am_g (am_ar (am_rd M112 x0 2) 20 r101.1) <| am_g (am_ar (am_rd M112 x0 0) 20 r101.1) <| am_let (am_wr M112 (am_rd M112 x0 2) r101.1 (max (am_rd M112 (am_rd M112 x0 2) r101.1) (am_rd M112 (am_rd M112 x0 0) r101.1))) fun M115 => some (0, M115)) else (am_g (am_ar (am_rd r101.2 x0 0) 20 r101.1) <| am_let (am_wr r101.2 (am_rd r101.2 x0 0) r101.1 99) fun M117 => am_g (am_ar (am_rd M117 x0 2) 20 r101.1) <| am_g (am_ar (am_rd M117 x0 0) 20 r101.1) <| am_let (am_wr M117 (am_rd M117 x0 2) r101.1 (max (am_rd M117 (am_rd M117 x0 2) r101.1) (am_rd M117 (am_rd M117 x0 0) r101.1))) fun M120 => some (0, M120))))) := by
  show am_Ex d 119 0 [(2, x0), (0, x1), (0, x2), (0, x3), am_N] [] M = _
  refine (am_e0 rfl rfl).trans ?_
  refine (am_e0 rfl rfl).trans ?_
  refine (am_cal3 (z := 23) (k := 2) (c := true) rfl rfl rfl rfl rfl rfl rfl rfl).trans ((am_g_t rfl).trans ?_)
  refine am_bind_congr fun r101 => ?_
  show am_Ex d 119 3 [(2, x0), (0, x1), (0, x2), (0, x3), am_N] [(0, r101.1)] r101.2 = _
  refine (am_e0 rfl rfl).trans ?_
  refine (am_e0 rfl rfl).trans ?_
  refine (am_z_lt rfl).trans (am_if_congr (fun c102 => ?_) (fun c102 => ?_))
  · refine (am_e5 rfl).trans ?_
    show am_Ex d 119 34 [am_N, am_N, am_N, am_N, am_N] [] r101.2 = _
    exact (am_e4v rfl rfl).trans rfl
  · refine (am_e0 rfl rfl).trans ?_
    refine (am_gf (c := 3) (t := 2) rfl rfl rfl).trans (am_g_congr fun h103 => ?_)
    refine (am_e0 rfl rfl).trans ?_
    refine (am_e0 rfl rfl).trans ?_
    refine (am_z_ge rfl).trans (am_if_congr (fun c104 => ?_) (fun c104 => ?_))
    · refine (am_e0 rfl rfl).trans ?_
      refine (am_e1 rfl rfl).trans ?_
      refine (am_ias rfl).trans (am_g_congr fun h105 => ?_)
      refine am_letm (fun M106 => ?_)
      refine (am_e0 rfl rfl).trans ?_
      refine (am_gf (c := 3) (t := 2) rfl rfl rfl).trans ((am_g_t h103).trans ?_)
      refine (am_e0 rfl rfl).trans ?_
      refine (am_e0 rfl rfl).trans ?_
      refine (am_gf (c := 3) (t := 2) rfl rfl rfl).trans ((am_g_t h103).trans ?_)
      refine (am_e0 rfl rfl).trans ?_
      refine (am_ial rfl).trans (am_g_congr fun h107 => ?_)
      refine (am_e0 rfl rfl).trans ?_
      refine (am_gf (c := 3) (t := 2) rfl rfl rfl).trans ((am_g_t h103).trans ?_)
      refine (am_e0 rfl rfl).trans ?_
      refine (am_ial rfl).trans (am_g_congr fun h108 => ?_)
      refine (am_e10 (w := max (am_rd M106 (am_rd M106 x0 2) r101.1) (am_rd M106 (am_rd M106 x0 0) r101.1)) rfl rfl rfl).trans ?_
      refine (am_ias rfl).trans ((am_g_t h107).trans ?_)
      refine am_letm (fun M109 => ?_)
      refine (am_e5 rfl).trans ?_
      show am_Ex d 119 34 [am_N, am_N, am_N, am_N, am_N] [] M109 = _
      exact (am_e4v rfl rfl).trans rfl
    · refine (am_e0 rfl rfl).trans ?_
      refine (am_e0 rfl rfl).trans ?_
      refine (am_i_le rfl).trans (am_if_congr (fun c110 => ?_) (fun c110 => ?_))
      · refine (am_e0 rfl rfl).trans ?_
        refine (am_ias rfl).trans (am_g_congr fun h111 => ?_)
        refine am_letm (fun M112 => ?_)
        refine (am_e0 rfl rfl).trans ?_
        refine (am_gf (c := 3) (t := 2) rfl rfl rfl).trans ((am_g_t h103).trans ?_)
        refine (am_e0 rfl rfl).trans ?_
        refine (am_e0 rfl rfl).trans ?_
        refine (am_gf (c := 3) (t := 2) rfl rfl rfl).trans ((am_g_t h103).trans ?_)
        refine (am_e0 rfl rfl).trans ?_
        refine (am_ial rfl).trans (am_g_congr fun h113 => ?_)
        refine (am_e0 rfl rfl).trans ?_
        refine (am_gf (c := 3) (t := 2) rfl rfl rfl).trans ((am_g_t h103).trans ?_)
        refine (am_e0 rfl rfl).trans ?_
        refine (am_ial rfl).trans (am_g_congr fun h114 => ?_)
        refine (am_e10 (w := max (am_rd M112 (am_rd M112 x0 2) r101.1) (am_rd M112 (am_rd M112 x0 0) r101.1)) rfl rfl rfl).trans ?_
        refine (am_ias rfl).trans ((am_g_t h113).trans ?_)
        refine am_letm (fun M115 => ?_)
        refine (am_e5 rfl).trans ?_
        show am_Ex d 119 34 [am_N, am_N, am_N, am_N, am_N] [] M115 = _
        exact (am_e4v rfl rfl).trans rfl
      · refine (am_e0 rfl rfl).trans ?_
        refine (am_e1 rfl rfl).trans ?_
        refine (am_ias rfl).trans (am_g_congr fun h116 => ?_)
        refine am_letm (fun M117 => ?_)
        refine (am_e0 rfl rfl).trans ?_
        refine (am_gf (c := 3) (t := 2) rfl rfl rfl).trans ((am_g_t h103).trans ?_)
        refine (am_e0 rfl rfl).trans ?_
        refine (am_e0 rfl rfl).trans ?_
        refine (am_gf (c := 3) (t := 2) rfl rfl rfl).trans ((am_g_t h103).trans ?_)
        refine (am_e0 rfl rfl).trans ?_
        refine (am_ial rfl).trans (am_g_congr fun h118 => ?_)
        refine (am_e0 rfl rfl).trans ?_
        refine (am_gf (c := 3) (t := 2) rfl rfl rfl).trans ((am_g_t h103).trans ?_)
        refine (am_e0 rfl rfl).trans ?_
        refine (am_ial rfl).trans (am_g_congr fun h119 => ?_)
        refine (am_e10 (w := max (am_rd M117 (am_rd M117 x0 2) r101.1) (am_rd M117 (am_rd M117 x0 0) r101.1)) rfl rfl rfl).trans ?_
        refine (am_ias rfl).trans ((am_g_t h118).trans ?_)
        refine am_letm (fun M120 => ?_)
        refine (am_e5 rfl).trans ?_
        show am_Ex d 119 34 [am_N, am_N, am_N, am_N, am_N] [] M120 = _
        exact (am_e4v rfl rfl).trans rfl
-- 120: UnlearnedHand$Hands.setWrong(III)V
set_option maxRecDepth 10000 in
theorem aq_120 (d : Nat) (x0 x1 x2 x3 : Int) (M : am_M) : am_Call d 120 [(2, x0), (0, x1), (0, x2), (0, x3)] M = ((am_Call d 23 [(0, x1), (0, x2)] M).bind fun r101 => if r101.1 < 0 then (some (0, r101.2)) else (am_g (am_ob x0 3) <| if x3 < 0 then (am_g (am_ar (am_rd r101.2 x0 1) 20 r101.1) <| am_let (am_wr r101.2 (am_rd r101.2 x0 1) r101.1 0) fun M106 => some (0, M106)) else (if x3 ≤ 99 then (am_g (am_ar (am_rd r101.2 x0 1) 20 r101.1) <| am_let (am_wr r101.2 (am_rd r101.2 x0 1) r101.1 x3) fun M109 => some (0, M109)) else (am_g (am_ar (am_rd r101.2 x0 1) 20 r101.1) <| am_let (am_wr r101.2 (am_rd r101.2 x0 1) r101.1 99) fun M111 => some (0, M111))))) := by
  show am_Ex d 120 0 [(2, x0), (0, x1), (0, x2), (0, x3), am_N] [] M = _
  refine (am_e0 rfl rfl).trans ?_
  refine (am_e0 rfl rfl).trans ?_
  refine (am_cal3 (z := 23) (k := 2) (c := true) rfl rfl rfl rfl rfl rfl rfl rfl).trans ((am_g_t rfl).trans ?_)
  refine am_bind_congr fun r101 => ?_
  show am_Ex d 120 3 [(2, x0), (0, x1), (0, x2), (0, x3), am_N] [(0, r101.1)] r101.2 = _
  refine (am_e0 rfl rfl).trans ?_
  refine (am_e0 rfl rfl).trans ?_
  refine (am_z_lt rfl).trans (am_if_congr (fun c102 => ?_) (fun c102 => ?_))
  · refine (am_e5 rfl).trans ?_
    show am_Ex d 120 21 [am_N, am_N, am_N, am_N, am_N] [] r101.2 = _
    exact (am_e4v rfl rfl).trans rfl
  · refine (am_e0 rfl rfl).trans ?_
    refine (am_gf (c := 3) (t := 2) rfl rfl rfl).trans (am_g_congr fun h103 => ?_)
    refine (am_e0 rfl rfl).trans ?_
    refine (am_e0 rfl rfl).trans ?_
    refine (am_z_ge rfl).trans (am_if_congr (fun c104 => ?_) (fun c104 => ?_))
    · refine (am_e0 rfl rfl).trans ?_
      refine (am_e1 rfl rfl).trans ?_
      refine (am_ias rfl).trans (am_g_congr fun h105 => ?_)
      refine am_letm (fun M106 => ?_)
      refine (am_e5 rfl).trans ?_
      show am_Ex d 120 21 [am_N, am_N, am_N, am_N, am_N] [] M106 = _
      exact (am_e4v rfl rfl).trans rfl
    · refine (am_e0 rfl rfl).trans ?_
      refine (am_e0 rfl rfl).trans ?_
      refine (am_i_le rfl).trans (am_if_congr (fun c107 => ?_) (fun c107 => ?_))
      · refine (am_e0 rfl rfl).trans ?_
        refine (am_ias rfl).trans (am_g_congr fun h108 => ?_)
        refine am_letm (fun M109 => ?_)
        refine (am_e5 rfl).trans ?_
        show am_Ex d 120 21 [am_N, am_N, am_N, am_N, am_N] [] M109 = _
        exact (am_e4v rfl rfl).trans rfl
      · refine (am_e0 rfl rfl).trans ?_
        refine (am_e1 rfl rfl).trans ?_
        refine (am_ias rfl).trans (am_g_congr fun h110 => ?_)
        refine am_letm (fun M111 => ?_)
        refine (am_e5 rfl).trans ?_
        show am_Ex d 120 21 [am_N, am_N, am_N, am_N, am_N] [] M111 = _
        exact (am_e4v rfl rfl).trans rfl
-- 121: UnlearnedHand$Hands.turnSong(II)V
set_option maxRecDepth 10000 in
theorem aq_121 (d : Nat) (x0 x1 x2 : Int) (M : am_M) : am_Call d 121 [(2, x0), (0, x1), (0, x2)] M = ((am_Call d 23 [(0, x1), (0, x2)] M).bind fun r101 => if r101.1 < 0 then (some (0, r101.2)) else (am_g (am_ob x0 3) <| am_g (am_ar (am_rd r101.2 x0 3) 20 x1) <| am_let (am_wr r101.2 (am_rd r101.2 x0 3) x1 (am_xor (am_rd r101.2 (am_rd r101.2 x0 3) x1) (am_shl 1 x2))) fun M105 => some (0, M105))) := by
  show am_Ex d 121 0 [(2, x0), (0, x1), (0, x2)] [] M = _
  refine (am_e0 rfl rfl).trans ?_
  refine (am_e0 rfl rfl).trans ?_
  refine (am_cal3 (z := 23) (k := 2) (c := true) rfl rfl rfl rfl rfl rfl rfl rfl).trans ((am_g_t rfl).trans ?_)
  refine am_bind_congr fun r101 => ?_
  show am_Ex d 121 3 [(2, x0), (0, x1), (0, x2)] [(0, r101.1)] r101.2 = _
  refine (am_z_lt rfl).trans (am_if_congr (fun c102 => ?_) (fun c102 => ?_))
  · refine (am_e5 rfl).trans ?_
    show am_Ex d 121 15 [am_N, am_N, am_N] [] r101.2 = _
    exact (am_e4v rfl rfl).trans rfl
  · refine (am_e0 rfl rfl).trans ?_
    refine (am_gf (c := 3) (t := 2) rfl rfl rfl).trans (am_g_congr fun h103 => ?_)
    refine (am_e0 rfl rfl).trans ?_
    refine (am_e0 rfl rfl).trans ?_
    refine (am_ial rfl).trans (am_g_congr fun h104 => ?_)
    refine (am_e0 rfl rfl).trans ?_
    refine (am_e0 rfl rfl).trans ?_
    refine (am_e0 rfl rfl).trans ?_
    refine (am_e0 rfl rfl).trans ?_
    refine (am_ias rfl).trans ((am_g_t h104).trans ?_)
    refine am_letm (fun M105 => ?_)
    refine (am_e5 rfl).trans ?_
    show am_Ex d 121 15 [am_N, am_N, am_N] [] M105 = _
    exact (am_e4v rfl rfl).trans rfl
-- 122: UnlearnedHand$Hands.countFree(I)I
set_option maxRecDepth 10000 in
theorem aq_122 (d : Nat) (x0 x1 : Int) (M : am_M) : am_Call d 122 [(2, x0), (0, x1)] M = (am_Ex d 122 5 [(2, x0), (0, x1), (0, 0), (0, 0)] [] M) := by
  show am_Ex d 122 0 [(2, x0), (0, x1), am_N, am_N] [] M = _
  refine (am_e0 rfl rfl).trans ?_
  refine (am_e0 rfl rfl).trans ?_
  refine (am_e0 rfl rfl).trans ?_
  refine (am_e0 rfl rfl).trans ?_
  exact (am_e5 rfl).trans rfl
set_option maxRecDepth 10000 in
theorem aq_122_5 (d : Nat) (x0 x1 x2 x3 : Int) (M : am_M) : am_Ex d 122 5 [(2, x0), (0, x1), (0, x2), (0, x3)] [] M = (if x3 < x1 then (am_g (am_ob x0 3) <| (am_Call d 25 [(2, x0), (0, x3)] M).bind fun r103 => if r103.1 = 0 then (am_let (am_w32 (x2 + 0)) fun v105 => am_let (am_w32 (x3 + 1)) fun v106 => am_Ex d 122 5 [(2, x0), (0, x1), (0, v105), (0, v106)] [] r103.2) else (am_let (am_w32 (x2 + 1)) fun v107 => am_let (am_w32 (x3 + 1)) fun v108 => am_Ex d 122 5 [(2, x0), (0, x1), (0, v107), (0, v108)] [] r103.2)) else (some (x2, M))) := by
  refine (am_e0 rfl rfl).trans ?_
  refine (am_e0 rfl rfl).trans ?_
  refine (am_i_ge rfl).trans (am_if_congr (fun c101 => ?_) (fun c101 => ?_))
  · refine (am_e0 rfl rfl).trans ?_
    refine (am_e0 rfl rfl).trans ?_
    refine (am_e0 rfl rfl).trans ?_
    refine (am_cal3 (z := 25) (k := 2) (c := (am_ob x0 3)) rfl rfl rfl rfl rfl rfl rfl rfl).trans (am_g_congr fun h102 => ?_)
    refine am_bind_congr fun r103 => ?_
    show am_Ex d 122 12 [(2, x0), (0, x1), (0, x2), (0, x3)] [(0, r103.1), (0, x2)] r103.2 = _
    refine (am_z_eq rfl).trans (am_if_congr (fun c104 => ?_) (fun c104 => ?_))
    · refine (am_e0 rfl rfl).trans ?_
      refine (am_e0 rfl rfl).trans ?_
      refine (am_e0 rfl rfl).trans ?_
      refine am_lets (L := fun v105 => [(2, x0), (0, x1), (0, v105), (0, x3)]) (fun v105 => ?_)
      refine (am_e0 rfl rfl).trans ?_
      refine am_lets (L := fun v106 => [(2, x0), (0, x1), (0, v105), (0, v106)]) (fun v106 => ?_)
      refine (am_e1 rfl rfl).trans ?_
      exact (am_e5 rfl).trans rfl
    · refine (am_e0 rfl rfl).trans ?_
      refine (am_e1 rfl rfl).trans ?_
      refine (am_e0 rfl rfl).trans ?_
      refine (am_e0 rfl rfl).trans ?_
      refine am_lets (L := fun v107 => [(2, x0), (0, x1), (0, v107), (0, x3)]) (fun v107 => ?_)
      refine (am_e0 rfl rfl).trans ?_
      refine am_lets (L := fun v108 => [(2, x0), (0, x1), (0, v107), (0, v108)]) (fun v108 => ?_)
      refine (am_e1 rfl rfl).trans ?_
      exact (am_e5 rfl).trans rfl
  · refine (am_e0 rfl rfl).trans ?_
    exact (am_e4i rfl rfl).trans rfl
