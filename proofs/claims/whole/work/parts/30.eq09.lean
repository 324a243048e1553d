/-! equations of the methods 216 .. 243 -/
-- 216: UnlearnedHand.told(II)I
set_option maxRecDepth 10000 in
theorem aq_216 (d : Nat) (x0 x1 x2 : Int) (M : am_M) : am_Call d 216 [(2, x0), (0, x1), (0, x2)] M = ((am_Call d 99 [(0, x1)] M).bind fun r101 => am_g (am_ob x0 10) <| am_g (am_ob (am_rd r101.2 x0 0) 2) <| (am_Call d 108 [(2, am_rd r101.2 x0 0), (0, x1)] r101.2).bind fun r104 => if r104.1 = 0 then (some ((-1), r104.2)) else (if r101.1 < 1 then (some ((-1), r104.2)) else (if r101.1 ≤ 6 then (if x2 < (-1) then (some ((-1), r104.2)) else (if x2 < r101.1 then (am_g (am_ob (am_rd r104.2 x0 14) 5) <| (am_Call d 176 [(2, am_rd r104.2 x0 14), (0, x1), (0, x2)] r104.2).bind fun r111 => some (r111.1, r111.2)) else (some ((-1), r104.2)))) else (some ((-1), r104.2))))) := by
  show am_Ex d 216 0 [(2, x0), (0, x1), (0, x2), am_N] [] M = _
  refine (am_e0 rfl rfl).trans ?_
  refine (am_cal3 (z := 99) (k := 1) (c := true) rfl rfl rfl rfl rfl rfl rfl rfl).trans ((am_g_t rfl).trans ?_)
  refine am_bind_congr fun r101 => ?_
  show am_Ex d 216 2 [(2, x0), (0, x1), (0, x2), am_N] [(0, r101.1)] r101.2 = _
  refine (am_e0 rfl rfl).trans ?_
  refine (am_e0 rfl rfl).trans ?_
  refine (am_gf (c := 10) (t := 2) rfl rfl rfl).trans (am_g_congr fun h102 => ?_)
  refine (am_e0 rfl rfl).trans ?_
  refine (am_cal3 (z := 108) (k := 2) (c := (am_ob (am_rd r101.2 x0 0) 2)) rfl rfl rfl rfl rfl rfl rfl rfl).trans (am_g_congr fun h103 => ?_)
  refine am_bind_congr fun r104 => ?_
  show am_Ex d 216 7 [(2, x0), (0, x1), (0, x2), (0, r101.1)] [(0, r104.1)] r104.2 = _
  refine (am_z_eq rfl).trans (am_if_congr (fun c105 => ?_) (fun c105 => ?_))
  · refine (am_e5 rfl).trans ?_
    show am_Ex d 216 21 [am_N, am_N, am_N, am_N] [] r104.2 = _
    refine (am_e0 rfl rfl).trans ?_
    exact (am_e4i rfl rfl).trans rfl
  · refine (am_e0 rfl rfl).trans ?_
    refine (am_e0 rfl rfl).trans ?_
    refine (am_i_lt rfl).trans (am_if_congr (fun c106 => ?_) (fun c106 => ?_))
    · refine (am_e5 rfl).trans ?_
      show am_Ex d 216 21 [am_N, am_N, am_N, am_N] [] r104.2 = _
      refine (am_e0 rfl rfl).trans ?_
      exact (am_e4i rfl rfl).trans rfl
    · refine (am_e0 rfl rfl).trans ?_
      refine (am_e0 rfl rfl).trans ?_
      refine (am_i_gt rfl).trans (am_if_congr (fun c107 => ?_) (fun c107 => ?_))
      · refine (am_e0 rfl rfl).trans ?_
        refine (am_e0 rfl rfl).trans ?_
        refine (am_i_lt rfl).trans (am_if_congr (fun c108 => ?_) (fun c108 => ?_))
        · refine (am_e5 rfl).trans ?_
          show am_Ex d 216 21 [am_N, am_N, am_N, am_N] [] r104.2 = _
          refine (am_e0 rfl rfl).trans ?_
          exact (am_e4i rfl rfl).trans rfl
        · refine (am_e0 rfl rfl).trans ?_
          refine (am_e0 rfl rfl).trans ?_
          refine (am_i_lt rfl).trans (am_if_congr (fun c109 => ?_) (fun c109 => ?_))
          · refine (am_e0 rfl rfl).trans ?_
            refine (am_gf (c := 10) (t := 2) rfl rfl rfl).trans ((am_g_t h102).trans ?_)
            refine (am_e0 rfl rfl).trans ?_
            refine (am_e0 rfl rfl).trans ?_
            refine (am_cal3 (z := 176) (k := 3) (c := (am_ob (am_rd r104.2 x0 14) 5)) rfl rfl rfl rfl rfl rfl rfl rfl).trans (am_g_congr fun h110 => ?_)
            refine am_bind_congr fun r111 => ?_
            show am_Ex d 216 28 [(2, x0), (0, x1), (0, x2), (0, r101.1)] [(0, r111.1)] r111.2 = _
            exact (am_e4i rfl rfl).trans rfl
          · refine (am_e5 rfl).trans ?_
            show am_Ex d 216 21 [am_N, am_N, am_N, am_N] [] r104.2 = _
            refine (am_e0 rfl rfl).trans ?_
            exact (am_e4i rfl rfl).trans rfl
      · refine (am_e5 rfl).trans ?_
        show am_Ex d 216 21 [am_N, am_N, am_N, am_N] [] r104.2 = _
        refine (am_e0 rfl rfl).trans ?_
        exact (am_e4i rfl rfl).trans rfl
-- 217: UnlearnedHandModel.opensSign(I)Z
set_option maxRecDepth 10000 in
theorem aq_217 (d : Nat) (x0 x1 : Int) (M : am_M) : am_Call d 217 [(2, x0), (0, x1)] M = (am_g (am_ob x0 11) <| if am_rd M x0 21 = 8 then ((am_Call d 74 [(2, x0), (0, 3)] M).bind fun r103 => some (0, r103.2)) else (am_let (am_wr M x0 21 (am_w32 ((am_rd M x0 21) + 1))) fun M104 => (am_Call d 76 [(2, x0), (0, x1)] M104).bind fun r105 => (am_Call d 194 [(2, x0)] r105.2).bind fun r106 => some (1, r106.2))) := by
  show am_Ex d 217 0 [(2, x0), (0, x1)] [] M = _
  refine (am_e0 rfl rfl).trans ?_
  refine (am_gf (c := 11) (t := 0) rfl rfl rfl).trans (am_g_congr fun h101 => ?_)
  refine (am_e0 rfl rfl).trans ?_
  refine (am_i_ne rfl).trans (am_if_congr (fun c102 => ?_) (fun c102 => ?_))
  · refine (am_e0 rfl rfl).trans ?_
    refine (am_e0 rfl rfl).trans ?_
    refine (am_cal3 (z := 74) (k := 2) (c := (am_ob x0 11)) rfl rfl rfl rfl rfl rfl rfl rfl).trans ((am_g_t h101).trans ?_)
    refine am_bind_congr fun r103 => ?_
    show am_Ex d 217 7 [(2, x0), (0, x1)] [] r103.2 = _
    refine (am_e0 rfl rfl).trans ?_
    exact (am_e4i rfl rfl).trans rfl
  · refine (am_e0 rfl rfl).trans ?_
    refine (am_e0 rfl rfl).trans ?_
    refine (am_gf (c := 11) (t := 0) rfl rfl rfl).trans ((am_g_t h101).trans ?_)
    refine (am_e0 rfl rfl).trans ?_
    refine (am_e0 rfl rfl).trans ?_
    refine (am_pf (c := 11) rfl rfl rfl).trans ((am_g_t h101).trans ?_)
    refine am_letm (fun M104 => ?_)
    refine (am_e0 rfl rfl).trans ?_
    refine (am_e0 rfl rfl).trans ?_
    refine (am_cal3 (z := 76) (k := 2) (c := (am_ob x0 11)) rfl rfl rfl rfl rfl rfl rfl rfl).trans ((am_g_t h101).trans ?_)
    refine am_bind_congr fun r105 => ?_
    show am_Ex d 217 18 [(2, x0), (0, x1)] [] r105.2 = _
    refine (am_e0 rfl rfl).trans ?_
    refine (am_cal3 (z := 194) (k := 1) (c := (am_ob x0 11)) rfl rfl rfl rfl rfl rfl rfl rfl).trans ((am_g_t h101).trans ?_)
    refine am_bind_congr fun r106 => ?_
    show am_Ex d 217 20 [(2, x0), (0, x1)] [] r106.2 = _
    refine (am_e0 rfl rfl).trans ?_
    exact (am_e4i rfl rfl).trans rfl
-- 218: UnlearnedHandModel.waitsFor(I)V
set_option maxRecDepth 10000 in
theorem aq_218 (d : Nat) (x0 x1 : Int) (M : am_M) : am_Call d 218 [(2, x0), (0, x1)] M = ((am_Call d 78 [(0, x1)] M).bind fun r101 => am_g (am_ob x0 11) <| (am_Call d 152 [(2, x0), (0, r101.1)] r101.2).bind fun r103 => am_g (am_ar (am_rd r103.2 x0 26) 20 (am_rd r103.2 x0 25)) <| am_let (am_wr r103.2 (am_rd r103.2 x0 26) (am_rd r103.2 x0 25) x1) fun M105 => am_g (am_ar (am_rd M105 x0 27) 20 (am_rd M105 x0 25)) <| am_let (am_wr M105 (am_rd M105 x0 27) (am_rd M105 x0 25) (am_rd M105 x0 22)) fun M107 => am_let (am_wr M107 x0 25 (am_w32 ((am_rd M107 x0 25) + 1))) fun M108 => (am_Call d 194 [(2, x0)] M108).bind fun r109 => some (0, r109.2)) := by
  show am_Ex d 218 0 [(2, x0), (0, x1)] [] M = _
  refine (am_e0 rfl rfl).trans ?_
  refine (am_e0 rfl rfl).trans ?_
  refine (am_cal3 (z := 78) (k := 1) (c := true) rfl rfl rfl rfl rfl rfl rfl rfl).trans ((am_g_t rfl).trans ?_)
  refine am_bind_congr fun r101 => ?_
  show am_Ex d 218 3 [(2, x0), (0, x1)] [(0, r101.1), (2, x0)] r101.2 = _
  refine (am_cal3 (z := 152) (k := 2) (c := (am_ob x0 11)) rfl rfl rfl rfl rfl rfl rfl rfl).trans (am_g_congr fun h102 => ?_)
  refine am_bind_congr fun r103 => ?_
  show am_Ex d 218 4 [(2, x0), (0, x1)] [] r103.2 = _
  refine (am_e0 rfl rfl).trans ?_
  refine (am_gf (c := 11) (t := 2) rfl rfl rfl).trans ((am_g_t h102).trans ?_)
  refine (am_e0 rfl rfl).trans ?_
  refine (am_gf (c := 11) (t := 0) rfl rfl rfl).trans ((am_g_t h102).trans ?_)
  refine (am_e0 rfl rfl).trans ?_
  refine (am_ias rfl).trans (am_g_congr fun h104 => ?_)
  refine am_letm (fun M105 => ?_)
  refine (am_e0 rfl rfl).trans ?_
  refine (am_gf (c := 11) (t := 2) rfl rfl rfl).trans ((am_g_t h102).trans ?_)
  refine (am_e0 rfl rfl).trans ?_
  refine (am_gf (c := 11) (t := 0) rfl rfl rfl).trans ((am_g_t h102).trans ?_)
  refine (am_e0 rfl rfl).trans ?_
  refine (am_gf (c := 11) (t := 0) rfl rfl rfl).trans ((am_g_t h102).trans ?_)
  refine (am_ias rfl).trans (am_g_congr fun h106 => ?_)
  refine am_letm (fun M107 => ?_)
  refine (am_e0 rfl rfl).trans ?_
  refine (am_e0 rfl rfl).trans ?_
  refine (am_gf (c := 11) (t := 0) rfl rfl rfl).trans ((am_g_t h102).trans ?_)
  refine (am_e0 rfl rfl).trans ?_
  refine (am_e0 rfl rfl).trans ?_
  refine (am_pf (c := 11) rfl rfl rfl).trans ((am_g_t h102).trans ?_)
  refine am_letm (fun M108 => ?_)
  refine (am_e0 rfl rfl).trans ?_
  refine (am_cal3 (z := 194) (k := 1) (c := (am_ob x0 11)) rfl rfl rfl rfl rfl rfl rfl rfl).trans ((am_g_t h102).trans ?_)
  refine am_bind_congr fun r109 => ?_
  show am_Ex d 218 25 [(2, x0), (0, x1)] [] r109.2 = _
  exact (am_e4v rfl rfl).trans rfl
-- 219: UnlearnedHandModel.clauseIsOver()V
set_option maxRecDepth 10000 in
theorem aq_219 (d : Nat) (x0 : Int) (M : am_M) : am_Call d 219 [(2, x0)] M = (am_g (am_ob x0 11) <| (am_Call d 152 [(2, x0), (0, 1)] M).bind fun r102 => am_let (am_wr r102.2 x0 22 0) fun M103 => (am_Call d 75 [(2, x0), (0, 408), (0, 0)] M103).bind fun r104 => am_let (am_wr r104.2 x0 29 (am_w32 ((am_rd r104.2 x0 29) + 1))) fun M105 => (am_Call d 194 [(2, x0)] M105).bind fun r106 => am_let (am_wr r106.2 x0 28 4) fun M107 => some (0, M107)) := by
  show am_Ex d 219 0 [(2, x0)] [] M = _
  refine (am_e0 rfl rfl).trans ?_
  refine (am_e0 rfl rfl).trans ?_
  refine (am_cal3 (z := 152) (k := 2) (c := (am_ob x0 11)) rfl rfl rfl rfl rfl rfl rfl rfl).trans (am_g_congr fun h101 => ?_)
  refine am_bind_congr fun r102 => ?_
  show am_Ex d 219 3 [(2, x0)] [] r102.2 = _
  refine (am_e0 rfl rfl).trans ?_
  refine (am_e0 rfl rfl).trans ?_
  refine (am_pf (c := 11) rfl rfl rfl).trans ((am_g_t h101).trans ?_)
  refine am_letm (fun M103 => ?_)
  refine (am_e0 rfl rfl).trans ?_
  refine (am_e0 rfl rfl).trans ?_
  refine (am_e0 rfl rfl).trans ?_
  refine (am_cal3 (z := 75) (k := 3) (c := (am_ob x0 11)) rfl rfl rfl rfl rfl rfl rfl rfl).trans ((am_g_t h101).trans ?_)
  refine am_bind_congr fun r104 => ?_
  show am_Ex d 219 10 [(2, x0)] [] r104.2 = _
  refine (am_e0 rfl rfl).trans ?_
  refine (am_e0 rfl rfl).trans ?_
  refine (am_gf (c := 11) (t := 0) rfl rfl rfl).trans ((am_g_t h101).trans ?_)
  refine (am_e0 rfl rfl).trans ?_
  refine (am_e0 rfl rfl).trans ?_
  refine (am_pf (c := 11) rfl rfl rfl).trans ((am_g_t h101).trans ?_)
  refine am_letm (fun M105 => ?_)
  refine (am_e0 rfl rfl).trans ?_
  refine (am_cal3 (z := 194) (k := 1) (c := (am_ob x0 11)) rfl rfl rfl rfl rfl rfl rfl rfl).trans ((am_g_t h101).trans ?_)
  refine am_bind_congr fun r106 => ?_
  show am_Ex d 219 18 [(2, x0)] [] r106.2 = _
  refine (am_e0 rfl rfl).trans ?_
  refine (am_e0 rfl rfl).trans ?_
  refine (am_pf (c := 11) rfl rfl rfl).trans ((am_g_t h101).trans ?_)
  refine am_letm (fun M107 => ?_)
  exact (am_e4v rfl rfl).trans rfl
-- 220: UnlearnedHandModel.number(II)I
set_option maxRecDepth 10000 in
theorem aq_220 (d : Nat) (x0 x1 x2 : Int) (M : am_M) : am_Call d 220 [(2, x0), (0, x1), (0, x2)] M = (am_g (am_ob x0 11) <| if am_rd M x0 19 ≤ 0 then (if am_rd M x0 17 = 2 then ((am_Call d 64 [(0, am_rd M x0 18), (0, x1), (0, x2)] M).bind fun r104 => if r104.1 = 0 then ((am_Call d 74 [(2, x0), (0, 2)] r104.2).bind fun r106 => some (x1, r106.2)) else (am_let (am_rd r104.2 x0 18) fun v107 => (am_Call d 194 [(2, x0)] r104.2).bind fun r108 => some (v107, r108.2))) else (am_Ex d 220 8 [(2, x0), (0, x1), am_N, am_N] [] M)) else (am_Ex d 220 8 [(2, x0), (0, x1), am_N, am_N] [] M)) := by
  show am_Ex d 220 0 [(2, x0), (0, x1), (0, x2), am_N] [] M = _
  refine (am_e0 rfl rfl).trans ?_
  refine (am_gf (c := 11) (t := 0) rfl rfl rfl).trans (am_g_congr fun h101 => ?_)
  refine (am_z_gt rfl).trans (am_if_congr (fun c102 => ?_) (fun c102 => ?_))
  · refine (am_e0 rfl rfl).trans ?_
    refine (am_gf (c := 11) (t := 0) rfl rfl rfl).trans ((am_g_t h101).trans ?_)
    refine (am_e0 rfl rfl).trans ?_
    refine (am_i_eq rfl).trans (am_if_congr (fun c103 => ?_) (fun c103 => ?_))
    · refine (am_e0 rfl rfl).trans ?_
      refine (am_gf (c := 11) (t := 0) rfl rfl rfl).trans ((am_g_t h101).trans ?_)
      refine (am_e0 rfl rfl).trans ?_
      refine (am_e0 rfl rfl).trans ?_
      refine (am_cal3 (z := 64) (k := 3) (c := true) rfl rfl rfl rfl rfl rfl rfl rfl).trans ((am_g_t rfl).trans ?_)
      refine am_bind_congr fun r104 => ?_
      show am_Ex d 220 18 [(2, x0), (0, x1), (0, x2), am_N] [(0, r104.1)] r104.2 = _
      refine (am_z_ne rfl).trans (am_if_congr (fun c105 => ?_) (fun c105 => ?_))
      · refine (am_e0 rfl rfl).trans ?_
        refine (am_e0 rfl rfl).trans ?_
        refine (am_cal3 (z := 74) (k := 2) (c := (am_ob x0 11)) rfl rfl rfl rfl rfl rfl rfl rfl).trans ((am_g_t h101).trans ?_)
        refine am_bind_congr fun r106 => ?_
        show am_Ex d 220 22 [(2, x0), (0, x1), (0, x2), am_N] [] r106.2 = _
        refine (am_e0 rfl rfl).trans ?_
        exact (am_e4i rfl rfl).trans rfl
      · refine (am_e0 rfl rfl).trans ?_
        refine (am_gf (c := 11) (t := 0) rfl rfl rfl).trans ((am_g_t h101).trans ?_)
        refine (am_e0 rfl rfl).trans ?_
        refine am_lets (L := fun v107 => [(2, x0), (0, x1), (0, x2), (0, v107)]) (fun v107 => ?_)
        refine (am_e0 rfl rfl).trans ?_
        refine (am_cal3 (z := 194) (k := 1) (c := (am_ob x0 11)) rfl rfl rfl rfl rfl rfl rfl rfl).trans ((am_g_t h101).trans ?_)
        refine am_bind_congr fun r108 => ?_
        show am_Ex d 220 29 [(2, x0), (0, x1), (0, x2), (0, v107)] [] r108.2 = _
        refine (am_e0 rfl rfl).trans ?_
        exact (am_e4i rfl rfl).trans rfl
    · exact (am_e5 rfl).trans rfl
  · exact (am_e5 rfl).trans rfl
set_option maxRecDepth 10000 in
theorem aq_220_8 (d : Nat) (x0 x1 : Int) (M : am_M) : am_Ex d 220 8 [(2, x0), (0, x1), am_N, am_N] [] M = (am_g (am_ob x0 11) <| (am_Call d 74 [(2, x0), (0, 1)] M).bind fun r102 => some (x1, r102.2)) := by
  refine (am_e0 rfl rfl).trans ?_
  refine (am_e0 rfl rfl).trans ?_
  refine (am_cal3 (z := 74) (k := 2) (c := (am_ob x0 11)) rfl rfl rfl rfl rfl rfl rfl rfl).trans (am_g_congr fun h101 => ?_)
  refine am_bind_congr fun r102 => ?_
  show am_Ex d 220 11 [(2, x0), (0, x1), am_N, am_N] [] r102.2 = _
  refine (am_e0 rfl rfl).trans ?_
  exact (am_e4i rfl rfl).trans rfl
-- 221: UnlearnedHandModel.isHad(II)Z
set_option maxRecDepth 10000 in
theorem aq_221 (d : Nat) (x0 x1 x2 : Int) (M : am_M) : am_Call d 221 [(2, x0), (0, x1), (0, x2)] M = (am_g (am_ob x0 11) <| (am_Call d 86 [(2, x0), (0, 0)] M).bind fun r102 => (am_Call d 90 [(2, x0), (0, x1), (0, x2)] r102.2).bind fun r103 => if r102.1 = (-1) then (am_g (am_ar (am_rd r103.2 x0 39) 20 2) <| am_g (am_ar (am_rd r103.2 x0 39) 20 3) <| if am_rd r103.2 (am_rd r103.2 x0 39) 2 ≤ am_rd r103.2 (am_rd r103.2 x0 39) 3 then (some (0, r103.2)) else (some (1, r103.2))) else ((am_Call d 195 [(2, x0), (0, r102.1)] r103.2).bind fun r108 => if am_cmp r108.1 0 = 0 then (some (0, r108.2)) else (some (1, r108.2)))) := by
  show am_Ex d 221 0 [(2, x0), (0, x1), (0, x2), am_N] [] M = _
  refine (am_e0 rfl rfl).trans ?_
  refine (am_e0 rfl rfl).trans ?_
  refine (am_cal3 (z := 86) (k := 2) (c := (am_ob x0 11)) rfl rfl rfl rfl rfl rfl rfl rfl).trans (am_g_congr fun h101 => ?_)
  refine am_bind_congr fun r102 => ?_
  show am_Ex d 221 3 [(2, x0), (0, x1), (0, x2), am_N] [(0, r102.1)] r102.2 = _
  refine (am_e0 rfl rfl).trans ?_
  refine (am_e0 rfl rfl).trans ?_
  refine (am_e0 rfl rfl).trans ?_
  refine (am_e0 rfl rfl).trans ?_
  refine (am_cal3 (z := 90) (k := 3) (c := (am_ob x0 11)) rfl rfl rfl rfl rfl rfl rfl rfl).trans ((am_g_t h101).trans ?_)
  refine am_bind_congr fun r103 => ?_
  show am_Ex d 221 8 [(2, x0), (0, x1), (0, x2), (0, r102.1)] [] r103.2 = _
  refine (am_e0 rfl rfl).trans ?_
  refine (am_e0 rfl rfl).trans ?_
  refine (am_i_ne rfl).trans (am_if_congr (fun c104 => ?_) (fun c104 => ?_))
  · refine (am_e0 rfl rfl).trans ?_
    refine (am_gf (c := 11) (t := 2) rfl rfl rfl).trans ((am_g_t h101).trans ?_)
    refine (am_e0 rfl rfl).trans ?_
    refine (am_ial rfl).trans (am_g_congr fun h105 => ?_)
    refine (am_e0 rfl rfl).trans ?_
    refine (am_gf (c := 11) (t := 2) rfl rfl rfl).trans ((am_g_t h101).trans ?_)
    refine (am_e0 rfl rfl).trans ?_
    refine (am_ial rfl).trans (am_g_congr fun h106 => ?_)
    refine (am_i_le rfl).trans (am_if_congr (fun c107 => ?_) (fun c107 => ?_))
    · refine (am_e0 rfl rfl).trans ?_
      refine (am_e1 rfl rfl).trans ?_
      exact (am_e4i rfl rfl).trans rfl
    · refine (am_e0 rfl rfl).trans ?_
      refine (am_e1 rfl rfl).trans ?_
      exact (am_e4i rfl rfl).trans rfl
  · refine (am_e0 rfl rfl).trans ?_
    refine (am_e0 rfl rfl).trans ?_
    refine (am_cal3 (z := 195) (k := 2) (c := (am_ob x0 11)) rfl rfl rfl rfl rfl rfl rfl rfl).trans ((am_g_t h101).trans ?_)
    refine am_bind_congr fun r108 => ?_
    show am_Ex d 221 27 [(2, x0), (0, x1), (0, x2), (0, r102.1)] [(1, r108.1)] r108.2 = _
    refine (am_e0 rfl rfl).trans ?_
    refine (am_e0 rfl rfl).trans ?_
    refine (am_z_eq rfl).trans (am_if_congr (fun c109 => ?_) (fun c109 => ?_))
    · refine (am_e0 rfl rfl).trans ?_
      exact (am_e4i rfl rfl).trans rfl
    · refine (am_e0 rfl rfl).trans ?_
      refine (am_e1 rfl rfl).trans ?_
      exact (am_e4i rfl rfl).trans rfl
-- 222: UnlearnedHandModel.fadesOf(II)I
set_option maxRecDepth 10000 in
theorem aq_222 (d : Nat) (x0 x1 x2 : Int) (M : am_M) : am_Call d 222 [(2, x0), (0, x1), (0, x2)] M = (am_g (am_ob x0 11) <| (am_Call d 86 [(2, x0), (0, 1)] M).bind fun r102 => (am_Call d 90 [(2, x0), (0, x1), (0, x2)] r102.2).bind fun r103 => am_g (am_ar (am_rd r103.2 x0 44) 20 x1) <| (am_Call d 65 [(0, am_rd r103.2 (am_rd r103.2 x0 44) x1), (0, x2)] r103.2).bind fun r105 => if r105.1 = 0 then (am_g (am_ar (am_rd r103.2 x0 39) 20 6) <| am_let (am_wr r105.2 (am_rd r103.2 x0 39) 6 0) fun M108 => am_g (am_ar (am_rd M108 x0 45) 20 x1) <| if am_rd M108 (am_rd M108 x0 45) x1 = x2 then (am_g (am_ar (am_rd M108 x0 39) 20 7) <| am_let (am_wr M108 (am_rd M108 x0 39) 7 1) fun M112 => if r102.1 = (-1) then (some (1, M112)) else ((am_Call d 195 [(2, x0), (0, r102.1)] M112).bind fun r114 => (am_Call d 87 [(1, r114.1), (0, (-9)), (0, 99)] r114.2).bind fun r115 => some (r115.1, r115.2))) else (am_g (am_ar (am_rd M108 x0 39) 20 7) <| am_let (am_wr M108 (am_rd M108 x0 39) 7 0) fun M117 => if r102.1 = (-1) then (some (1, M117)) else ((am_Call d 195 [(2, x0), (0, r102.1)] M117).bind fun r119 => (am_Call d 87 [(1, r119.1), (0, (-9)), (0, 99)] r119.2).bind fun r120 => some (r120.1, r120.2)))) else (am_g (am_ar (am_rd r103.2 x0 39) 20 6) <| am_let (am_wr r105.2 (am_rd r103.2 x0 39) 6 1) fun M122 => am_g (am_ar (am_rd M122 x0 45) 20 x1) <| if am_rd M122 (am_rd M122 x0 45) x1 = x2 then (am_g (am_ar (am_rd M122 x0 39) 20 7) <| am_let (am_wr M122 (am_rd M122 x0 39) 7 1) fun M126 => if r102.1 = (-1) then (some (1, M126)) else ((am_Call d 195 [(2, x0), (0, r102.1)] M126).bind fun r128 => (am_Call d 87 [(1, r128.1), (0, (-9)), (0, 99)] r128.2).bind fun r129 => some (r129.1, r129.2))) else (am_g (am_ar (am_rd M122 x0 39) 20 7) <| am_let (am_wr M122 (am_rd M122 x0 39) 7 0) fun M131 => if r102.1 = (-1) then (some (1, M131)) else ((am_Call d 195 [(2, x0), (0, r102.1)] M131).bind fun r133 => (am_Call d 87 [(1, r133.1), (0, (-9)), (0, 99)] r133.2).bind fun r134 => some (r134.1, r134.2))))) := by
  show am_Ex d 222 0 [(2, x0), (0, x1), (0, x2), am_N] [] M = _
  refine (am_e0 rfl rfl).trans ?_
  refine (am_e0 rfl rfl).trans ?_
  refine (am_cal3 (z := 86) (k := 2) (c := (am_ob x0 11)) rfl rfl rfl rfl rfl rfl rfl rfl).trans (am_g_congr fun h101 => ?_)
  refine am_bind_congr fun r102 => ?_
  show am_Ex d 222 3 [(2, x0), (0, x1), (0, x2), am_N] [(0, r102.1)] r102.2 = _
  refine (am_e0 rfl rfl).trans ?_
  refine (am_e0 rfl rfl).trans ?_
  refine (am_e0 rfl rfl).trans ?_
  refine (am_e0 rfl rfl).trans ?_
  refine (am_cal3 (z := 90) (k := 3) (c := (am_ob x0 11)) rfl rfl rfl rfl rfl rfl rfl rfl).trans ((am_g_t h101).trans ?_)
  refine am_bind_congr fun r103 => ?_
  show am_Ex d 222 8 [(2, x0), (0, x1), (0, x2), (0, r102.1)] [] r103.2 = _
  refine (am_e0 rfl rfl).trans ?_
  refine (am_gf (c := 11) (t := 2) rfl rfl rfl).trans ((am_g_t h101).trans ?_)
  refine (am_e0 rfl rfl).trans ?_
  refine (am_e0 rfl rfl).trans ?_
  refine (am_gf (c := 11) (t := 2) rfl rfl rfl).trans ((am_g_t h101).trans ?_)
  refine (am_e0 rfl rfl).trans ?_
  refine (am_ial rfl).trans (am_g_congr fun h104 => ?_)
  refine (am_e0 rfl rfl).trans ?_
  refine (am_cal3 (z := 65) (k := 2) (c := true) rfl rfl rfl rfl rfl rfl rfl rfl).trans ((am_g_t rfl).trans ?_)
  refine am_bind_congr fun r105 => ?_
  show am_Ex d 222 17 [(2, x0), (0, x1), (0, x2), (0, r102.1)] [(0, r105.1), (0, 6), (2, am_rd r103.2 x0 39)] r105.2 = _
  refine (am_z_eq rfl).trans (am_if_congr (fun c106 => ?_) (fun c106 => ?_))
  · refine (am_e0 rfl rfl).trans ?_
    refine (am_ias rfl).trans (am_g_congr fun h107 => ?_)
    refine am_letm (fun M108 => ?_)
    refine (am_e0 rfl rfl).trans ?_
    refine (am_gf (c := 11) (t := 2) rfl rfl rfl).trans ((am_g_t h101).trans ?_)
    refine (am_e0 rfl rfl).trans ?_
    refine (am_e0 rfl rfl).trans ?_
    refine (am_gf (c := 11) (t := 2) rfl rfl rfl).trans ((am_g_t h101).trans ?_)
    refine (am_e0 rfl rfl).trans ?_
    refine (am_ial rfl).trans (am_g_congr fun h109 => ?_)
    refine (am_e0 rfl rfl).trans ?_
    refine (am_i_ne rfl).trans (am_if_congr (fun c110 => ?_) (fun c110 => ?_))
    · refine (am_e0 rfl rfl).trans ?_
      refine (am_e1 rfl rfl).trans ?_
      refine (am_ias rfl).trans (am_g_congr fun h111 => ?_)
      refine am_letm (fun M112 => ?_)
      refine (am_e0 rfl rfl).trans ?_
      refine (am_e0 rfl rfl).trans ?_
      refine (am_i_ne rfl).trans (am_if_congr (fun c113 => ?_) (fun c113 => ?_))
      · refine (am_e0 rfl rfl).trans ?_
        refine (am_e1 rfl rfl).trans ?_
        exact (am_e4i rfl rfl).trans rfl
      · refine (am_e0 rfl rfl).trans ?_
        refine (am_e0 rfl rfl).trans ?_
        refine (am_cal3 (z := 195) (k := 2) (c := (am_ob x0 11)) rfl rfl rfl rfl rfl rfl rfl rfl).trans ((am_g_t h101).trans ?_)
        refine am_bind_congr fun r114 => ?_
        show am_Ex d 222 43 [(2, x0), (0, x1), (0, x2), (0, r102.1)] [(1, r114.1)] r114.2 = _
        refine (am_e0 rfl rfl).trans ?_
        refine (am_e0 rfl rfl).trans ?_
        refine (am_cal3 (z := 87) (k := 3) (c := true) rfl rfl rfl rfl rfl rfl rfl rfl).trans ((am_g_t rfl).trans ?_)
        refine am_bind_congr fun r115 => ?_
        show am_Ex d 222 46 [(2, x0), (0, x1), (0, x2), (0, r102.1)] [(0, r115.1)] r115.2 = _
        exact (am_e4i rfl rfl).trans rfl
    · refine (am_e0 rfl rfl).trans ?_
      refine (am_ias rfl).trans (am_g_congr fun h116 => ?_)
      refine am_letm (fun M117 => ?_)
      refine (am_e0 rfl rfl).trans ?_
      refine (am_e0 rfl rfl).trans ?_
      refine (am_i_ne rfl).trans (am_if_congr (fun c118 => ?_) (fun c118 => ?_))
      · refine (am_e0 rfl rfl).trans ?_
        refine (am_e1 rfl rfl).trans ?_
        exact (am_e4i rfl rfl).trans rfl
      · refine (am_e0 rfl rfl).trans ?_
        refine (am_e0 rfl rfl).trans ?_
        refine (am_cal3 (z := 195) (k := 2) (c := (am_ob x0 11)) rfl rfl rfl rfl rfl rfl rfl rfl).trans ((am_g_t h101).trans ?_)
        refine am_bind_congr fun r119 => ?_
        show am_Ex d 222 43 [(2, x0), (0, x1), (0, x2), (0, r102.1)] [(1, r119.1)] r119.2 = _
        refine (am_e0 rfl rfl).trans ?_
        refine (am_e0 rfl rfl).trans ?_
        refine (am_cal3 (z := 87) (k := 3) (c := true) rfl rfl rfl rfl rfl rfl rfl rfl).trans ((am_g_t rfl).trans ?_)
        refine am_bind_congr fun r120 => ?_
        show am_Ex d 222 46 [(2, x0), (0, x1), (0, x2), (0, r102.1)] [(0, r120.1)] r120.2 = _
        exact (am_e4i rfl rfl).trans rfl
  · refine (am_e0 rfl rfl).trans ?_
    refine (am_e1 rfl rfl).trans ?_
    refine (am_ias rfl).trans (am_g_congr fun h121 => ?_)
    refine am_letm (fun M122 => ?_)
    refine (am_e0 rfl rfl).trans ?_
    refine (am_gf (c := 11) (t := 2) rfl rfl rfl).trans ((am_g_t h101).trans ?_)
    refine (am_e0 rfl rfl).trans ?_
    refine (am_e0 rfl rfl).trans ?_
    refine (am_gf (c := 11) (t := 2) rfl rfl rfl).trans ((am_g_t h101).trans ?_)
    refine (am_e0 rfl rfl).trans ?_
    refine (am_ial rfl).trans (am_g_congr fun h123 => ?_)
    refine (am_e0 rfl rfl).trans ?_
    refine (am_i_ne rfl).trans (am_if_congr (fun c124 => ?_) (fun c124 => ?_))
    · refine (am_e0 rfl rfl).trans ?_
      refine (am_e1 rfl rfl).trans ?_
      refine (am_ias rfl).trans (am_g_congr fun h125 => ?_)
      refine am_letm (fun M126 => ?_)
      refine (am_e0 rfl rfl).trans ?_
      refine (am_e0 rfl rfl).trans ?_
      refine (am_i_ne rfl).trans (am_if_congr (fun c127 => ?_) (fun c127 => ?_))
      · refine (am_e0 rfl rfl).trans ?_
        refine (am_e1 rfl rfl).trans ?_
        exact (am_e4i rfl rfl).trans rfl
      · refine (am_e0 rfl rfl).trans ?_
        refine (am_e0 rfl rfl).trans ?_
        refine (am_cal3 (z := 195) (k := 2) (c := (am_ob x0 11)) rfl rfl rfl rfl rfl rfl rfl rfl).trans ((am_g_t h101).trans ?_)
        refine am_bind_congr fun r128 => ?_
        show am_Ex d 222 43 [(2, x0), (0, x1), (0, x2), (0, r102.1)] [(1, r128.1)] r128.2 = _
        refine (am_e0 rfl rfl).trans ?_
        refine (am_e0 rfl rfl).trans ?_
        refine (am_cal3 (z := 87) (k := 3) (c := true) rfl rfl rfl rfl rfl rfl rfl rfl).trans ((am_g_t rfl).trans ?_)
        refine am_bind_congr fun r129 => ?_
        show am_Ex d 222 46 [(2, x0), (0, x1), (0, x2), (0, r102.1)] [(0, r129.1)] r129.2 = _
        exact (am_e4i rfl rfl).trans rfl
    · refine (am_e0 rfl rfl).trans ?_
      refine (am_ias rfl).trans (am_g_congr fun h130 => ?_)
      refine am_letm (fun M131 => ?_)
      refine (am_e0 rfl rfl).trans ?_
      refine (am_e0 rfl rfl).trans ?_
      refine (am_i_ne rfl).trans (am_if_congr (fun c132 => ?_) (fun c132 => ?_))
      · refine (am_e0 rfl rfl).trans ?_
        refine (am_e1 rfl rfl).trans ?_
        exact (am_e4i rfl rfl).trans rfl
      · refine (am_e0 rfl rfl).trans ?_
        refine (am_e0 rfl rfl).trans ?_
        refine (am_cal3 (z := 195) (k := 2) (c := (am_ob x0 11)) rfl rfl rfl rfl rfl rfl rfl rfl).trans ((am_g_t h101).trans ?_)
        refine am_bind_congr fun r133 => ?_
        show am_Ex d 222 43 [(2, x0), (0, x1), (0, x2), (0, r102.1)] [(1, r133.1)] r133.2 = _
        refine (am_e0 rfl rfl).trans ?_
        refine (am_e0 rfl rfl).trans ?_
        refine (am_cal3 (z := 87) (k := 3) (c := true) rfl rfl rfl rfl rfl rfl rfl rfl).trans ((am_g_t rfl).trans ?_)
        refine am_bind_congr fun r134 => ?_
        show am_Ex d 222 46 [(2, x0), (0, x1), (0, x2), (0, r102.1)] [(0, r134.1)] r134.2 = _
        exact (am_e4i rfl rfl).trans rfl
-- 223: UnlearnedHandModel.dropsOf(II)I
set_option maxRecDepth 10000 in
theorem aq_223 (d : Nat) (x0 x1 x2 : Int) (M : am_M) : am_Call d 223 [(2, x0), (0, x1), (0, x2)] M = (am_g (am_ob x0 11) <| (am_Call d 86 [(2, x0), (0, 2)] M).bind fun r102 => (am_Call d 90 [(2, x0), (0, x1), (0, x2)] r102.2).bind fun r103 => if r102.1 = (-1) then (some (0, r103.2)) else ((am_Call d 195 [(2, x0), (0, r102.1)] r103.2).bind fun r105 => (am_Call d 87 [(1, r105.1), (0, 0), (0, 99)] r105.2).bind fun r106 => some (r106.1, r106.2))) := by
  show am_Ex d 223 0 [(2, x0), (0, x1), (0, x2), am_N] [] M = _
  refine (am_e0 rfl rfl).trans ?_
  refine (am_e0 rfl rfl).trans ?_
  refine (am_cal3 (z := 86) (k := 2) (c := (am_ob x0 11)) rfl rfl rfl rfl rfl rfl rfl rfl).trans (am_g_congr fun h101 => ?_)
  refine am_bind_congr fun r102 => ?_
  show am_Ex d 223 3 [(2, x0), (0, x1), (0, x2), am_N] [(0, r102.1)] r102.2 = _
  refine (am_e0 rfl rfl).trans ?_
  refine (am_e0 rfl rfl).trans ?_
  refine (am_e0 rfl rfl).trans ?_
  refine (am_e0 rfl rfl).trans ?_
  refine (am_cal3 (z := 90) (k := 3) (c := (am_ob x0 11)) rfl rfl rfl rfl rfl rfl rfl rfl).trans ((am_g_t h101).trans ?_)
  refine am_bind_congr fun r103 => ?_
  show am_Ex d 223 8 [(2, x0), (0, x1), (0, x2), (0, r102.1)] [] r103.2 = _
  refine (am_e0 rfl rfl).trans ?_
  refine (am_e0 rfl rfl).trans ?_
  refine (am_i_ne rfl).trans (am_if_congr (fun c104 => ?_) (fun c104 => ?_))
  · refine (am_e0 rfl rfl).trans ?_
    refine (am_e1 rfl rfl).trans ?_
    exact (am_e4i rfl rfl).trans rfl
  · refine (am_e0 rfl rfl).trans ?_
    refine (am_e0 rfl rfl).trans ?_
    refine (am_cal3 (z := 195) (k := 2) (c := (am_ob x0 11)) rfl rfl rfl rfl rfl rfl rfl rfl).trans ((am_g_t h101).trans ?_)
    refine am_bind_congr fun r105 => ?_
    show am_Ex d 223 16 [(2, x0), (0, x1), (0, x2), (0, r102.1)] [(1, r105.1)] r105.2 = _
    refine (am_e0 rfl rfl).trans ?_
    refine (am_e0 rfl rfl).trans ?_
    refine (am_cal3 (z := 87) (k := 3) (c := true) rfl rfl rfl rfl rfl rfl rfl rfl).trans ((am_g_t rfl).trans ?_)
    refine am_bind_congr fun r106 => ?_
    show am_Ex d 223 19 [(2, x0), (0, x1), (0, x2), (0, r102.1)] [(0, r106.1)] r106.2 = _
    exact (am_e4i rfl rfl).trans rfl
-- 224: UnlearnedHandModel.pushesOf(III)I
set_option maxRecDepth 10000 in
theorem aq_224 (d : Nat) (x0 x1 x2 x3 : Int) (M : am_M) : am_Call d 224 [(2, x0), (0, x1), (0, x2), (0, x3)] M = (am_g (am_ob x0 11) <| (am_Call d 86 [(2, x0), (0, 3)] M).bind fun r102 => (am_Call d 90 [(2, x0), (0, x1), (0, x2)] r102.2).bind fun r103 => am_g (am_ar (am_rd r103.2 x0 39) 20 8) <| am_let (am_wr r103.2 (am_rd r103.2 x0 39) 8 x3) fun M105 => if r102.1 = (-1) then (if (2 : Int) = 0 then none else some (am_div x3 2, M105)) else ((am_Call d 195 [(2, x0), (0, r102.1)] M105).bind fun r108 => (am_Call d 87 [(1, r108.1), (0, 0), (0, 99)] r108.2).bind fun r109 => some (r109.1, r109.2))) := by
  show am_Ex d 224 0 [(2, x0), (0, x1), (0, x2), (0, x3), am_N] [] M = _
  refine (am_e0 rfl rfl).trans ?_
  refine (am_e0 rfl rfl).trans ?_
  refine (am_cal3 (z := 86) (k := 2) (c := (am_ob x0 11)) rfl rfl rfl rfl rfl rfl rfl rfl).trans (am_g_congr fun h101 => ?_)
  refine am_bind_congr fun r102 => ?_
  show am_Ex d 224 3 [(2, x0), (0, x1), (0, x2), (0, x3), am_N] [(0, r102.1)] r102.2 = _
  refine (am_e0 rfl rfl).trans ?_
  refine (am_e0 rfl rfl).trans ?_
  refine (am_e0 rfl rfl).trans ?_
  refine (am_e0 rfl rfl).trans ?_
  refine (am_cal3 (z := 90) (k := 3) (c := (am_ob x0 11)) rfl rfl rfl rfl rfl rfl rfl rfl).trans ((am_g_t h101).trans ?_)
  refine am_bind_congr fun r103 => ?_
  show am_Ex d 224 8 [(2, x0), (0, x1), (0, x2), (0, x3), (0, r102.1)] [] r103.2 = _
  refine (am_e0 rfl rfl).trans ?_
  refine (am_gf (c := 11) (t := 2) rfl rfl rfl).trans ((am_g_t h101).trans ?_)
  refine (am_e0 rfl rfl).trans ?_
  refine (am_e0 rfl rfl).trans ?_
  refine (am_ias rfl).trans (am_g_congr fun h104 => ?_)
  refine am_letm (fun M105 => ?_)
  refine (am_e0 rfl rfl).trans ?_
  refine (am_e0 rfl rfl).trans ?_
  refine (am_i_ne rfl).trans (am_if_congr (fun c106 => ?_) (fun c106 => ?_))
  · refine (am_e0 rfl rfl).trans ?_
    refine (am_e0 rfl rfl).trans ?_
    refine (am_dvi rfl).trans (am_if_congr (fun _ => rfl) (fun c107 => ?_))
    refine (am_e1 rfl rfl).trans ?_
    exact (am_e4i rfl rfl).trans rfl
  · refine (am_e0 rfl rfl).trans ?_
    refine (am_e0 rfl rfl).trans ?_
    refine (am_cal3 (z := 195) (k := 2) (c := (am_ob x0 11)) rfl rfl rfl rfl rfl rfl rfl rfl).trans ((am_g_t h101).trans ?_)
    refine am_bind_congr fun r108 => ?_
    show am_Ex d 224 23 [(2, x0), (0, x1), (0, x2), (0, x3), (0, r102.1)] [(1, r108.1)] r108.2 = _
    refine (am_e0 rfl rfl).trans ?_
    refine (am_e0 rfl rfl).trans ?_
    refine (am_cal3 (z := 87) (k := 3) (c := true) rfl rfl rfl rfl rfl rfl rfl rfl).trans ((am_g_t rfl).trans ?_)
    refine am_bind_congr fun r109 => ?_
    show am_Ex d 224 26 [(2, x0), (0, x1), (0, x2), (0, x3), (0, r102.1)] [(0, r109.1)] r109.2 = _
    exact (am_e4i rfl rfl).trans rfl
-- 225: UnlearnedHandModel.mayTeach(II)Z
set_option maxRecDepth 10000 in
theorem aq_225 (d : Nat) (x0 x1 x2 : Int) (M : am_M) : am_Call d 225 [(2, x0), (0, x1), (0, x2)] M = (am_g (am_ob x0 11) <| (am_Call d 196 [(2, x0), (0, x1)] M).bind fun r102 => if r102.1 = 0 then (some (0, r102.2)) else ((am_Call d 143 [(2, x0), (0, x2)] r102.2).bind fun r104 => if r104.1 = 0 then (some (0, r104.2)) else (am_g (am_ar (am_rd r104.2 x0 0) 20 (am_w32 (210 + x1))) <| if am_rd r104.2 (am_rd r104.2 x0 0) (am_w32 (210 + x1)) = x2 then (some (0, r104.2)) else (some (1, r104.2))))) := by
  show am_Ex d 225 0 [(2, x0), (0, x1), (0, x2)] [] M = _
  refine (am_e0 rfl rfl).trans ?_
  refine (am_e0 rfl rfl).trans ?_
  refine (am_cal3 (z := 196) (k := 2) (c := (am_ob x0 11)) rfl rfl rfl rfl rfl rfl rfl rfl).trans (am_g_congr fun h101 => ?_)
  refine am_bind_congr fun r102 => ?_
  show am_Ex d 225 3 [(2, x0), (0, x1), (0, x2)] [(0, r102.1)] r102.2 = _
  refine (am_z_eq rfl).trans (am_if_congr (fun c103 => ?_) (fun c103 => ?_))
  · refine (am_e5 rfl).trans ?_
    show am_Ex d 225 19 [am_N, am_N, am_N] [] r102.2 = _
    refine (am_e0 rfl rfl).trans ?_
    exact (am_e4i rfl rfl).trans rfl
  · refine (am_e0 rfl rfl).trans ?_
    refine (am_e0 rfl rfl).trans ?_
    refine (am_cal3 (z := 143) (k := 2) (c := (am_ob x0 11)) rfl rfl rfl rfl rfl rfl rfl rfl).trans ((am_g_t h101).trans ?_)
    refine am_bind_congr fun r104 => ?_
    show am_Ex d 225 7 [(2, x0), (0, x1), (0, x2)] [(0, r104.1)] r104.2 = _
    refine (am_z_eq rfl).trans (am_if_congr (fun c105 => ?_) (fun c105 => ?_))
    · refine (am_e5 rfl).trans ?_
      show am_Ex d 225 19 [am_N, am_N, am_N] [] r104.2 = _
      refine (am_e0 rfl rfl).trans ?_
      exact (am_e4i rfl rfl).trans rfl
    · refine (am_e0 rfl rfl).trans ?_
      refine (am_gf (c := 11) (t := 2) rfl rfl rfl).trans ((am_g_t h101).trans ?_)
      refine (am_e0 rfl rfl).trans ?_
      refine (am_e0 rfl rfl).trans ?_
      refine (am_e0 rfl rfl).trans ?_
      refine (am_ial rfl).trans (am_g_congr fun h106 => ?_)
      refine (am_e0 rfl rfl).trans ?_
      refine (am_i_eq rfl).trans (am_if_congr (fun c107 => ?_) (fun c107 => ?_))
      · refine (am_e5 rfl).trans ?_
        show am_Ex d 225 19 [am_N, am_N, am_N] [] r104.2 = _
        refine (am_e0 rfl rfl).trans ?_
        exact (am_e4i rfl rfl).trans rfl
      · refine (am_e0 rfl rfl).trans ?_
        refine (am_e1 rfl rfl).trans ?_
        exact (am_e4i rfl rfl).trans rfl
-- 226: UnlearnedHandModel.drink(I)Z
set_option maxRecDepth 10000 in
theorem aq_226 (d : Nat) (x0 x1 : Int) (M : am_M) : am_Call d 226 [(2, x0), (0, x1)] M = (am_g (am_ob x0 11) <| (am_Call d 196 [(2, x0), (0, x1)] M).bind fun r102 => if r102.1 = 0 then (some (0, r102.2)) else ((am_Call d 68 [(2, x0)] r102.2).bind fun r104 => (am_Call d 158 [(2, x0), (0, x1)] r104.2).bind fun r105 => some (1, r105.2))) := by
  show am_Ex d 226 0 [(2, x0), (0, x1)] [] M = _
  refine (am_e0 rfl rfl).trans ?_
  refine (am_e0 rfl rfl).trans ?_
  refine (am_cal3 (z := 196) (k := 2) (c := (am_ob x0 11)) rfl rfl rfl rfl rfl rfl rfl rfl).trans (am_g_congr fun h101 => ?_)
  refine am_bind_congr fun r102 => ?_
  show am_Ex d 226 3 [(2, x0), (0, x1)] [(0, r102.1)] r102.2 = _
  refine (am_z_ne rfl).trans (am_if_congr (fun c103 => ?_) (fun c103 => ?_))
  · refine (am_e0 rfl rfl).trans ?_
    exact (am_e4i rfl rfl).trans rfl
  · refine (am_e0 rfl rfl).trans ?_
    refine (am_cal3 (z := 68) (k := 1) (c := (am_ob x0 11)) rfl rfl rfl rfl rfl rfl rfl rfl).trans ((am_g_t h101).trans ?_)
    refine am_bind_congr fun r104 => ?_
    show am_Ex d 226 8 [(2, x0), (0, x1)] [] r104.2 = _
    refine (am_e0 rfl rfl).trans ?_
    refine (am_e0 rfl rfl).trans ?_
    refine (am_cal3 (z := 158) (k := 2) (c := (am_ob x0 11)) rfl rfl rfl rfl rfl rfl rfl rfl).trans ((am_g_t h101).trans ?_)
    refine am_bind_congr fun r105 => ?_
    show am_Ex d 226 11 [(2, x0), (0, x1)] [] r105.2 = _
    refine (am_e0 rfl rfl).trans ?_
    exact (am_e4i rfl rfl).trans rfl
-- 227: UnlearnedHandModel.sing(IIZ)Z
set_option maxRecDepth 10000 in
theorem aq_227 (d : Nat) (x0 x1 x2 x3 : Int) (M : am_M) : am_Call d 227 [(2, x0), (0, x1), (0, x2), (0, x3)] M = (am_g (am_ob x0 11) <| (am_Call d 196 [(2, x0), (0, x1)] M).bind fun r102 => if r102.1 = 0 then (some (0, r102.2)) else ((am_Call d 143 [(2, x0), (0, x2)] r102.2).bind fun r104 => if r104.1 = 0 then (some (0, r104.2)) else (am_g (am_ar (am_rd r104.2 x0 0) 20 (am_w32 (204 + x1))) <| (am_Call d 65 [(0, am_rd r104.2 (am_rd r104.2 x0 0) (am_w32 (204 + x1))), (0, x2)] r104.2).bind fun r107 => if r107.1 = x3 then (some (0, r107.2)) else ((am_Call d 68 [(2, x0)] r107.2).bind fun r109 => am_g (am_ar (am_rd r109.2 x0 0) 20 (am_w32 (204 + x1))) <| am_let (am_wr r109.2 (am_rd r109.2 x0 0) (am_w32 (204 + x1)) (am_xor (am_rd r109.2 (am_rd r109.2 x0 0) (am_w32 (204 + x1))) (am_shl 1 x2))) fun M111 => some (1, M111))))) := by
  show am_Ex d 227 0 [(2, x0), (0, x1), (0, x2), (0, x3)] [] M = _
  refine (am_e0 rfl rfl).trans ?_
  refine (am_e0 rfl rfl).trans ?_
  refine (am_cal3 (z := 196) (k := 2) (c := (am_ob x0 11)) rfl rfl rfl rfl rfl rfl rfl rfl).trans (am_g_congr fun h101 => ?_)
  refine am_bind_congr fun r102 => ?_
  show am_Ex d 227 3 [(2, x0), (0, x1), (0, x2), (0, x3)] [(0, r102.1)] r102.2 = _
  refine (am_z_eq rfl).trans (am_if_congr (fun c103 => ?_) (fun c103 => ?_))
  · refine (am_e5 rfl).trans ?_
    show am_Ex d 227 19 [am_N, am_N, am_N, am_N] [] r102.2 = _
    refine (am_e0 rfl rfl).trans ?_
    exact (am_e4i rfl rfl).trans rfl
  · refine (am_e0 rfl rfl).trans ?_
    refine (am_e0 rfl rfl).trans ?_
    refine (am_cal3 (z := 143) (k := 2) (c := (am_ob x0 11)) rfl rfl rfl rfl rfl rfl rfl rfl).trans ((am_g_t h101).trans ?_)
    refine am_bind_congr fun r104 => ?_
    show am_Ex d 227 7 [(2, x0), (0, x1), (0, x2), (0, x3)] [(0, r104.1)] r104.2 = _
    refine (am_z_eq rfl).trans (am_if_congr (fun c105 => ?_) (fun c105 => ?_))
    · refine (am_e5 rfl).trans ?_
      show am_Ex d 227 19 [am_N, am_N, am_N, am_N] [] r104.2 = _
      refine (am_e0 rfl rfl).trans ?_
      exact (am_e4i rfl rfl).trans rfl
    · refine (am_e0 rfl rfl).trans ?_
      refine (am_gf (c := 11) (t := 2) rfl rfl rfl).trans ((am_g_t h101).trans ?_)
      refine (am_e0 rfl rfl).trans ?_
      refine (am_e0 rfl rfl).trans ?_
      refine (am_e0 rfl rfl).trans ?_
      refine (am_ial rfl).trans (am_g_congr fun h106 => ?_)
      refine (am_e0 rfl rfl).trans ?_
      refine (am_cal3 (z := 65) (k := 2) (c := true) rfl rfl rfl rfl rfl rfl rfl rfl).trans ((am_g_t rfl).trans ?_)
      refine am_bind_congr fun r107 => ?_
      show am_Ex d 227 16 [(2, x0), (0, x1), (0, x2), (0, x3)] [(0, r107.1)] r107.2 = _
      refine (am_e0 rfl rfl).trans ?_
      refine (am_i_ne rfl).trans (am_if_congr (fun c108 => ?_) (fun c108 => ?_))
      · refine (am_e5 rfl).trans ?_
        show am_Ex d 227 19 [am_N, am_N, am_N, am_N] [] r107.2 = _
        refine (am_e0 rfl rfl).trans ?_
        exact (am_e4i rfl rfl).trans rfl
      · refine (am_e0 rfl rfl).trans ?_
        refine (am_cal3 (z := 68) (k := 1) (c := (am_ob x0 11)) rfl rfl rfl rfl rfl rfl rfl rfl).trans ((am_g_t h101).trans ?_)
        refine am_bind_congr fun r109 => ?_
        show am_Ex d 227 23 [(2, x0), (0, x1), (0, x2), (0, x3)] [] r109.2 = _
        refine (am_e0 rfl rfl).trans ?_
        refine (am_gf (c := 11) (t := 2) rfl rfl rfl).trans ((am_g_t h101).trans ?_)
        refine (am_e0 rfl rfl).trans ?_
        refine (am_e0 rfl rfl).trans ?_
        refine (am_e0 rfl rfl).trans ?_
        refine (am_e0 rfl rfl).trans ?_
        refine (am_gf (c := 11) (t := 2) rfl rfl rfl).trans ((am_g_t h101).trans ?_)
        refine (am_e0 rfl rfl).trans ?_
        refine (am_e0 rfl rfl).trans ?_
        refine (am_e0 rfl rfl).trans ?_
        refine (am_ial rfl).trans (am_g_congr fun h110 => ?_)
        refine (am_e0 rfl rfl).trans ?_
        refine (am_e0 rfl rfl).trans ?_
        refine (am_e0 rfl rfl).trans ?_
        refine (am_e0 rfl rfl).trans ?_
        refine (am_ias rfl).trans ((am_g_t h110).trans ?_)
        refine am_letm (fun M111 => ?_)
        refine (am_e0 rfl rfl).trans ?_
        exact (am_e4i rfl rfl).trans rfl
-- 228: UnlearnedHandModel.tie(II)Z
set_option maxRecDepth 10000 in
theorem aq_228 (d : Nat) (x0 x1 x2 : Int) (M : am_M) : am_Call d 228 [(2, x0), (0, x1), (0, x2)] M = (am_g (am_ob x0 11) <| (am_Call d 196 [(2, x0), (0, x1)] M).bind fun r102 => if r102.1 = 0 then (some (0, r102.2)) else (if x2 = (-1) then (am_Ex d 228 12 [(2, x0), (0, x1), (0, x2)] [] r102.2) else ((am_Call d 143 [(2, x0), (0, x2)] r102.2).bind fun r105 => if r105.1 = 0 then (some (0, r105.2)) else (am_Ex d 228 12 [(2, x0), (0, x1), (0, x2)] [] r105.2)))) := by
  show am_Ex d 228 0 [(2, x0), (0, x1), (0, x2)] [] M = _
  refine (am_e0 rfl rfl).trans ?_
  refine (am_e0 rfl rfl).trans ?_
  refine (am_cal3 (z := 196) (k := 2) (c := (am_ob x0 11)) rfl rfl rfl rfl rfl rfl rfl rfl).trans (am_g_congr fun h101 => ?_)
  refine am_bind_congr fun r102 => ?_
  show am_Ex d 228 3 [(2, x0), (0, x1), (0, x2)] [(0, r102.1)] r102.2 = _
  refine (am_z_eq rfl).trans (am_if_congr (fun c103 => ?_) (fun c103 => ?_))
  · refine (am_e5 rfl).trans ?_
    show am_Ex d 228 21 [am_N, am_N, am_N] [] r102.2 = _
    refine (am_e0 rfl rfl).trans ?_
    exact (am_e4i rfl rfl).trans rfl
  · refine (am_e0 rfl rfl).trans ?_
    refine (am_e0 rfl rfl).trans ?_
    refine (am_i_eq rfl).trans (am_if_congr (fun c104 => ?_) (fun c104 => ?_))
    · exact (am_e5 rfl).trans rfl
    · refine (am_e0 rfl rfl).trans ?_
      refine (am_e0 rfl rfl).trans ?_
      refine (am_cal3 (z := 143) (k := 2) (c := (am_ob x0 11)) rfl rfl rfl rfl rfl rfl rfl rfl).trans ((am_g_t h101).trans ?_)
      refine am_bind_congr fun r105 => ?_
      show am_Ex d 228 10 [(2, x0), (0, x1), (0, x2)] [(0, r105.1)] r105.2 = _
      refine (am_z_eq rfl).trans (am_if_congr (fun c106 => ?_) (fun c106 => ?_))
      · refine (am_e5 rfl).trans ?_
        show am_Ex d 228 21 [am_N, am_N, am_N] [] r105.2 = _
        refine (am_e0 rfl rfl).trans ?_
        exact (am_e4i rfl rfl).trans rfl
      · exact (am_e5 rfl).trans rfl
set_option maxRecDepth 10000 in
theorem aq_228_12 (d : Nat) (x0 x1 x2 : Int) (M : am_M) : am_Ex d 228 12 [(2, x0), (0, x1), (0, x2)] [] M = (am_g (am_ob x0 11) <| am_g (am_ar (am_rd M x0 0) 20 (am_w32 (210 + x1))) <| if am_rd M (am_rd M x0 0) (am_w32 (210 + x1)) = x2 then (some (0, M)) else ((am_Call d 68 [(2, x0)] M).bind fun r104 => am_g (am_ar (am_rd r104.2 x0 0) 20 (am_w32 (210 + x1))) <| am_let (am_wr r104.2 (am_rd r104.2 x0 0) (am_w32 (210 + x1)) x2) fun M106 => some (1, M106))) := by
  refine (am_e0 rfl rfl).trans ?_
  refine (am_gf (c := 11) (t := 2) rfl rfl rfl).trans (am_g_congr fun h101 => ?_)
  refine (am_e0 rfl rfl).trans ?_
  refine (am_e0 rfl rfl).trans ?_
  refine (am_e0 rfl rfl).trans ?_
  refine (am_ial rfl).trans (am_g_congr fun h102 => ?_)
  refine (am_e0 rfl rfl).trans ?_
  refine (am_i_ne rfl).trans (am_if_congr (fun c103 => ?_) (fun c103 => ?_))
  · refine (am_e5 rfl).trans ?_
    show am_Ex d 228 21 [am_N, am_N, am_N] [] M = _
    refine (am_e0 rfl rfl).trans ?_
    exact (am_e4i rfl rfl).trans rfl
  · refine (am_e0 rfl rfl).trans ?_
    refine (am_cal3 (z := 68) (k := 1) (c := (am_ob x0 11)) rfl rfl rfl rfl rfl rfl rfl rfl).trans ((am_g_t h101).trans ?_)
    refine am_bind_congr fun r104 => ?_
    show am_Ex d 228 25 [(2, x0), (0, x1), (0, x2)] [] r104.2 = _
    refine (am_e0 rfl rfl).trans ?_
    refine (am_gf (c := 11) (t := 2) rfl rfl rfl).trans ((am_g_t h101).trans ?_)
    refine (am_e0 rfl rfl).trans ?_
    refine (am_e0 rfl rfl).trans ?_
    refine (am_e0 rfl rfl).trans ?_
    refine (am_e0 rfl rfl).trans ?_
    refine (am_ias rfl).trans (am_g_congr fun h105 => ?_)
    refine am_letm (fun M106 => ?_)
    refine (am_e0 rfl rfl).trans ?_
    exact (am_e4i rfl rfl).trans rfl
-- 229: UnlearnedHandModel.smelt(II)I
set_option maxRecDepth 10000 in
theorem aq_229 (d : Nat) (x0 x1 x2 : Int) (M : am_M) : am_Call d 229 [(2, x0), (0, x1), (0, x2)] M = (am_g (am_ob x0 11) <| (am_Call d 196 [(2, x0), (0, x1)] M).bind fun r102 => if r102.1 = 0 then (some ((-1), r102.2)) else (am_g (am_ar (am_rd r102.2 x0 0) 20 2) <| (am_Call d 64 [(0, x2), (0, 0), (0, am_w32 ((am_rd r102.2 (am_rd r102.2 x0 0) 2) - 1))] r102.2).bind fun r105 => if r105.1 = 0 then (some ((-1), r105.2)) else ((am_Call d 68 [(2, x0)] r105.2).bind fun r107 => am_g (am_ar (am_rd r107.2 x0 0) 20 (am_w32 (32 + x2))) <| (am_Call d 159 [(2, x0), (0, am_rd r107.2 (am_rd r107.2 x0 0) (am_w32 (32 + x2)))] r107.2).bind fun r109 => am_Ex d 229 31 [(2, x0), (0, x1), am_N, (0, r109.1), (0, 0), am_N] [] r109.2))) := by
  show am_Ex d 229 0 [(2, x0), (0, x1), (0, x2), am_N, am_N, am_N] [] M = _
  refine (am_e0 rfl rfl).trans ?_
  refine (am_e0 rfl rfl).trans ?_
  refine (am_cal3 (z := 196) (k := 2) (c := (am_ob x0 11)) rfl rfl rfl rfl rfl rfl rfl rfl).trans (am_g_congr fun h101 => ?_)
  refine am_bind_congr fun r102 => ?_
  show am_Ex d 229 3 [(2, x0), (0, x1), (0, x2), am_N, am_N, am_N] [(0, r102.1)] r102.2 = _
  refine (am_z_eq rfl).trans (am_if_congr (fun c103 => ?_) (fun c103 => ?_))
  · refine (am_e5 rfl).trans ?_
    show am_Ex d 229 15 [am_N, am_N, am_N, am_N, am_N, am_N] [] r102.2 = _
    refine (am_e0 rfl rfl).trans ?_
    exact (am_e4i rfl rfl).trans rfl
  · refine (am_e0 rfl rfl).trans ?_
    refine (am_e0 rfl rfl).trans ?_
    refine (am_e0 rfl rfl).trans ?_
    refine (am_gf (c := 11) (t := 2) rfl rfl rfl).trans ((am_g_t h101).trans ?_)
    refine (am_e0 rfl rfl).trans ?_
    refine (am_ial rfl).trans (am_g_congr fun h104 => ?_)
    refine (am_e0 rfl rfl).trans ?_
    refine (am_e0 rfl rfl).trans ?_
    refine (am_cal3 (z := 64) (k := 3) (c := true) rfl rfl rfl rfl rfl rfl rfl rfl).trans ((am_g_t rfl).trans ?_)
    refine am_bind_congr fun r105 => ?_
    show am_Ex d 229 13 [(2, x0), (0, x1), (0, x2), am_N, am_N, am_N] [(0, r105.1)] r105.2 = _
    refine (am_z_ne rfl).trans (am_if_congr (fun c106 => ?_) (fun c106 => ?_))
    · refine (am_e5 rfl).trans ?_
      show am_Ex d 229 15 [am_N, am_N, am_N, am_N, am_N, am_N] [] r105.2 = _
      refine (am_e0 rfl rfl).trans ?_
      exact (am_e4i rfl rfl).trans rfl
    · refine (am_e0 rfl rfl).trans ?_
      refine (am_cal3 (z := 68) (k := 1) (c := (am_ob x0 11)) rfl rfl rfl rfl rfl rfl rfl rfl).trans ((am_g_t h101).trans ?_)
      refine am_bind_congr fun r107 => ?_
      show am_Ex d 229 19 [(2, x0), (0, x1), (0, x2), am_N, am_N, am_N] [] r107.2 = _
      refine (am_e0 rfl rfl).trans ?_
      refine (am_e0 rfl rfl).trans ?_
      refine (am_gf (c := 11) (t := 2) rfl rfl rfl).trans ((am_g_t h101).trans ?_)
      refine (am_e0 rfl rfl).trans ?_
      refine (am_e0 rfl rfl).trans ?_
      refine (am_e0 rfl rfl).trans ?_
      refine (am_ial rfl).trans (am_g_congr fun h108 => ?_)
      refine (am_cal3 (z := 159) (k := 2) (c := (am_ob x0 11)) rfl rfl rfl rfl rfl rfl rfl rfl).trans ((am_g_t h101).trans ?_)
      refine am_bind_congr fun r109 => ?_
      show am_Ex d 229 27 [(2, x0), (0, x1), (0, x2), am_N, am_N, am_N] [(0, r109.1)] r109.2 = _
      refine (am_e0 rfl rfl).trans ?_
      refine (am_e0 rfl rfl).trans ?_
      refine (am_e0 rfl rfl).trans ?_
      exact (am_e5 rfl).trans rfl
set_option maxRecDepth 10000 in
theorem aq_229_31 (d : Nat) (x0 x1 x3 x4 : Int) (M : am_M) : am_Ex d 229 31 [(2, x0), (0, x1), am_N, (0, x3), (0, x4), am_N] [] M = (am_g (am_ob x0 11) <| am_g (am_ar (am_rd M x0 0) 20 0) <| if x4 < am_rd M (am_rd M x0 0) 0 then (am_let (am_w32 ((am_w32 (8 * x1)) + x4)) fun v104 => (am_Call d 65 [(0, x3), (0, x4)] M).bind fun r105 => if r105.1 = 0 then (am_g (am_ar (am_rd r105.2 x0 0) 20 (am_w32 (60 + v104))) <| am_g (am_ar (am_rd M x0 0) 20 (am_w32 (60 + v104))) <| am_let (am_wr r105.2 (am_rd M x0 0) (am_w32 (60 + v104)) (am_rd r105.2 (am_rd r105.2 x0 0) (am_w32 (60 + v104)))) fun M109 => am_let (am_w32 (x4 + 1)) fun v110 => am_Ex d 229 31 [(2, x0), (0, x1), am_N, (0, x3), (0, v110), am_N] [] M109) else (am_g (am_ar (am_rd r105.2 x0 0) 20 (am_w32 (156 + v104))) <| am_g (am_ar (am_rd M x0 0) 20 (am_w32 (60 + v104))) <| am_let (am_wr r105.2 (am_rd M x0 0) (am_w32 (60 + v104)) (am_rd r105.2 (am_rd r105.2 x0 0) (am_w32 (156 + v104)))) fun M113 => am_let (am_w32 (x4 + 1)) fun v114 => am_Ex d 229 31 [(2, x0), (0, x1), am_N, (0, x3), (0, v114), am_N] [] M113)) else (some (x3, M))) := by
  refine (am_e0 rfl rfl).trans ?_
  refine (am_e0 rfl rfl).trans ?_
  refine (am_gf (c := 11) (t := 2) rfl rfl rfl).trans (am_g_congr fun h101 => ?_)
  refine (am_e0 rfl rfl).trans ?_
  refine (am_ial rfl).trans (am_g_congr fun h102 => ?_)
  refine (am_i_ge rfl).trans (am_if_congr (fun c103 => ?_) (fun c103 => ?_))
  · refine (am_e0 rfl rfl).trans ?_
    refine (am_e0 rfl rfl).trans ?_
    refine (am_e0 rfl rfl).trans ?_
    refine (am_e0 rfl rfl).trans ?_
    refine (am_e0 rfl rfl).trans ?_
    refine (am_e0 rfl rfl).trans ?_
    refine am_lets (L := fun v104 => [(2, x0), (0, x1), am_N, (0, x3), (0, x4), (0, v104)]) (fun v104 => ?_)
    refine (am_e0 rfl rfl).trans ?_
    refine (am_gf (c := 11) (t := 2) rfl rfl rfl).trans ((am_g_t h101).trans ?_)
    refine (am_e0 rfl rfl).trans ?_
    refine (am_e0 rfl rfl).trans ?_
    refine (am_e0 rfl rfl).trans ?_
    refine (am_e0 rfl rfl).trans ?_
    refine (am_e0 rfl rfl).trans ?_
    refine (am_cal3 (z := 65) (k := 2) (c := true) rfl rfl rfl rfl rfl rfl rfl rfl).trans ((am_g_t rfl).trans ?_)
    refine am_bind_congr fun r105 => ?_
    show am_Ex d 229 51 [(2, x0), (0, x1), am_N, (0, x3), (0, x4), (0, v104)] [(0, r105.1), (0, am_w32 (60 + v104)), (2, am_rd M x0 0)] r105.2 = _
    refine (am_z_eq rfl).trans (am_if_congr (fun c106 => ?_) (fun c106 => ?_))
    · refine (am_e0 rfl rfl).trans ?_
      refine (am_gf (c := 11) (t := 2) rfl rfl rfl).trans ((am_g_t h101).trans ?_)
      refine (am_e0 rfl rfl).trans ?_
      refine (am_e0 rfl rfl).trans ?_
      refine (am_e0 rfl rfl).trans ?_
      refine (am_ial rfl).trans (am_g_congr fun h107 => ?_)
      refine (am_ias rfl).trans (am_g_congr fun h108 => ?_)
      refine am_letm (fun M109 => ?_)
      refine (am_e0 rfl rfl).trans ?_
      refine am_lets (L := fun v110 => [(2, x0), (0, x1), am_N, (0, x3), (0, v110), (0, v104)]) (fun v110 => ?_)
      refine (am_e1 rfl rfl).trans ?_
      exact (am_e5 rfl).trans rfl
    · refine (am_e0 rfl rfl).trans ?_
      refine (am_gf (c := 11) (t := 2) rfl rfl rfl).trans ((am_g_t h101).trans ?_)
      refine (am_e0 rfl rfl).trans ?_
      refine (am_e0 rfl rfl).trans ?_
      refine (am_e0 rfl rfl).trans ?_
      refine (am_ial rfl).trans (am_g_congr fun h111 => ?_)
      refine (am_e1 rfl rfl).trans ?_
      refine (am_ias rfl).trans (am_g_congr fun h112 => ?_)
      refine am_letm (fun M113 => ?_)
      refine (am_e0 rfl rfl).trans ?_
      refine am_lets (L := fun v114 => [(2, x0), (0, x1), am_N, (0, x3), (0, v114), (0, v104)]) (fun v114 => ?_)
      refine (am_e1 rfl rfl).trans ?_
      exact (am_e5 rfl).trans rfl
  · refine (am_e0 rfl rfl).trans ?_
    exact (am_e4i rfl rfl).trans rfl
-- 230: UnlearnedHandModel.sets(ZI)I
set_option maxRecDepth 10000 in
theorem aq_230 (d : Nat) (x0 x1 x2 : Int) (M : am_M) : am_Call d 230 [(2, x0), (0, x1), (0, x2)] M = (if x2 < (-1) then (some ((-1), M)) else (am_Ex d 230 10 [(2, x0), (0, x1), (0, x2), (0, 0), (0, 0)] [] M)) := by
  show am_Ex d 230 0 [(2, x0), (0, x1), (0, x2), am_N, am_N] [] M = _
  refine (am_e0 rfl rfl).trans ?_
  refine (am_e0 rfl rfl).trans ?_
  refine (am_i_ge rfl).trans (am_if_congr (fun c101 => ?_) (fun c101 => ?_))
  · refine (am_e0 rfl rfl).trans ?_
    exact (am_e4i rfl rfl).trans rfl
  · refine (am_e0 rfl rfl).trans ?_
    refine (am_e0 rfl rfl).trans ?_
    refine (am_e0 rfl rfl).trans ?_
    refine (am_e0 rfl rfl).trans ?_
    exact (am_e5 rfl).trans rfl
set_option maxRecDepth 10000 in
theorem aq_230_10 (d : Nat) (x0 x1 x2 x3 x4 : Int) (M : am_M) : am_Ex d 230 10 [(2, x0), (0, x1), (0, x2), (0, x3), (0, x4)] [] M = (am_g (am_ob x0 11) <| am_g (am_ar (am_rd M x0 0) 20 0) <| if x4 < am_shl 1 (am_rd M (am_rd M x0 0) 0) then ((am_Call d 200 [(2, x0), (0, x4), (0, x1)] M).bind fun r104 => if r104.1 = 0 then (am_Ex d 230 30 [(2, x0), (0, x1), (0, x2), (0, x3), (0, x4)] [] r104.2) else (if x3 = x2 then (some (x4, r104.2)) else (am_let (am_w32 (x3 + 1)) fun v107 => am_Ex d 230 30 [(2, x0), (0, x1), (0, x2), (0, v107), (0, x4)] [] r104.2))) else (if x2 = (-1) then (some (x3, M)) else (some ((-1), M)))) := by
  refine (am_e0 rfl rfl).trans ?_
  refine (am_e0 rfl rfl).trans ?_
  refine (am_e0 rfl rfl).trans ?_
  refine (am_gf (c := 11) (t := 2) rfl rfl rfl).trans (am_g_congr fun h101 => ?_)
  refine (am_e0 rfl rfl).trans ?_
  refine (am_ial rfl).trans (am_g_congr fun h102 => ?_)
  refine (am_e0 rfl rfl).trans ?_
  refine (am_i_ge rfl).trans (am_if_congr (fun c103 => ?_) (fun c103 => ?_))
  · refine (am_e0 rfl rfl).trans ?_
    refine (am_e0 rfl rfl).trans ?_
    refine (am_e0 rfl rfl).trans ?_
    refine (am_cal3 (z := 200) (k := 3) (c := (am_ob x0 11)) rfl rfl rfl rfl rfl rfl rfl rfl).trans ((am_g_t h101).trans ?_)
    refine am_bind_congr fun r104 => ?_
    show am_Ex d 230 22 [(2, x0), (0, x1), (0, x2), (0, x3), (0, x4)] [(0, r104.1)] r104.2 = _
    refine (am_z_eq rfl).trans (am_if_congr (fun c105 => ?_) (fun c105 => ?_))
    · exact (am_e5 rfl).trans rfl
    · refine (am_e0 rfl rfl).trans ?_
      refine (am_e0 rfl rfl).trans ?_
      refine (am_i_ne rfl).trans (am_if_congr (fun c106 => ?_) (fun c106 => ?_))
      · refine (am_e0 rfl rfl).trans ?_
        exact (am_e4i rfl rfl).trans rfl
      · refine (am_e0 rfl rfl).trans ?_
        refine am_lets (L := fun v107 => [(2, x0), (0, x1), (0, x2), (0, v107), (0, x4)]) (fun v107 => ?_)
        exact (am_e5 rfl).trans rfl
  · refine (am_e0 rfl rfl).trans ?_
    refine (am_e0 rfl rfl).trans ?_
    refine (am_i_ne rfl).trans (am_if_congr (fun c108 => ?_) (fun c108 => ?_))
    · refine (am_e0 rfl rfl).trans ?_
      refine (am_e1 rfl rfl).trans ?_
      exact (am_e4i rfl rfl).trans rfl
    · refine (am_e0 rfl rfl).trans ?_
      exact (am_e4i rfl rfl).trans rfl
set_option maxRecDepth 10000 in
theorem aq_230_30 (d : Nat) (x0 x1 x2 x3 x4 : Int) (M : am_M) : am_Ex d 230 30 [(2, x0), (0, x1), (0, x2), (0, x3), (0, x4)] [] M = (am_let (am_w32 (x4 + 1)) fun v101 => am_Ex d 230 10 [(2, x0), (0, x1), (0, x2), (0, x3), (0, v101)] [] M) := by
  refine (am_e0 rfl rfl).trans ?_
  refine am_lets (L := fun v101 => [(2, x0), (0, x1), (0, x2), (0, x3), (0, v101)]) (fun v101 => ?_)
  refine (am_e1 rfl rfl).trans ?_
  exact (am_e5 rfl).trans rfl
-- 231: UnlearnedHandModel.back(I)I
set_option maxRecDepth 10000 in
theorem aq_231 (d : Nat) (x0 x1 : Int) (M : am_M) : am_Call d 231 [(2, x0), (0, x1)] M = (am_g (am_ob x0 11) <| am_g (am_ar (am_rd M x0 0) 20 2) <| (am_Call d 64 [(0, x1), (0, 0), (0, am_w32 ((am_shl 1 (am_rd M (am_rd M x0 0) 2)) - 1))] M).bind fun r103 => if r103.1 = 0 then (some ((-1), r103.2)) else ((am_Call d 201 [(2, x0), (0, x1)] r103.2).bind fun r105 => some (r105.1, r105.2))) := by
  show am_Ex d 231 0 [(2, x0), (0, x1)] [] M = _
  refine (am_e0 rfl rfl).trans ?_
  refine (am_e0 rfl rfl).trans ?_
  refine (am_e0 rfl rfl).trans ?_
  refine (am_e0 rfl rfl).trans ?_
  refine (am_gf (c := 11) (t := 2) rfl rfl rfl).trans (am_g_congr fun h101 => ?_)
  refine (am_e0 rfl rfl).trans ?_
  refine (am_ial rfl).trans (am_g_congr fun h102 => ?_)
  refine (am_e0 rfl rfl).trans ?_
  refine (am_e0 rfl rfl).trans ?_
  refine (am_e0 rfl rfl).trans ?_
  refine (am_cal3 (z := 64) (k := 3) (c := true) rfl rfl rfl rfl rfl rfl rfl rfl).trans ((am_g_t rfl).trans ?_)
  refine am_bind_congr fun r103 => ?_
  show am_Ex d 231 11 [(2, x0), (0, x1)] [(0, r103.1)] r103.2 = _
  refine (am_z_eq rfl).trans (am_if_congr (fun c104 => ?_) (fun c104 => ?_))
  · refine (am_e0 rfl rfl).trans ?_
    exact (am_e4i rfl rfl).trans rfl
  · refine (am_e0 rfl rfl).trans ?_
    refine (am_e0 rfl rfl).trans ?_
    refine (am_cal3 (z := 201) (k := 2) (c := (am_ob x0 11)) rfl rfl rfl rfl rfl rfl rfl rfl).trans ((am_g_t h101).trans ?_)
    refine am_bind_congr fun r105 => ?_
    show am_Ex d 231 15 [(2, x0), (0, x1)] [(0, r105.1)] r105.2 = _
    refine (am_e1 rfl rfl).trans ?_
    exact (am_e4i rfl rfl).trans rfl
-- 232: UnlearnedHandModel.fewSmells(I)I
set_option maxRecDepth 10000 in
theorem aq_232 (d : Nat) (x0 x1 : Int) (M : am_M) : am_Call d 232 [(2, x0), (0, x1)] M = (am_g (am_ob x0 11) <| (am_Call d 145 [(2, x0), (0, x1)] M).bind fun r102 => if r102.1 = 0 then (some ((-1), r102.2)) else (am_g (am_ar (am_rd r102.2 x0 0) 20 2) <| am_let (am_w32 ((am_shl 1 (am_rd r102.2 (am_rd r102.2 x0 0) 2)) - 1)) fun v105 => am_Ex d 232 18 [(2, x0), (0, x1), (0, (-1)), (0, v105)] [] r102.2)) := by
  show am_Ex d 232 0 [(2, x0), (0, x1), am_N, am_N] [] M = _
  refine (am_e0 rfl rfl).trans ?_
  refine (am_e0 rfl rfl).trans ?_
  refine (am_cal3 (z := 145) (k := 2) (c := (am_ob x0 11)) rfl rfl rfl rfl rfl rfl rfl rfl).trans (am_g_congr fun h101 => ?_)
  refine am_bind_congr fun r102 => ?_
  show am_Ex d 232 3 [(2, x0), (0, x1), am_N, am_N] [(0, r102.1)] r102.2 = _
  refine (am_z_ne rfl).trans (am_if_congr (fun c103 => ?_) (fun c103 => ?_))
  · refine (am_e0 rfl rfl).trans ?_
    exact (am_e4i rfl rfl).trans rfl
  · refine (am_e0 rfl rfl).trans ?_
    refine (am_e0 rfl rfl).trans ?_
    refine (am_e0 rfl rfl).trans ?_
    refine (am_e0 rfl rfl).trans ?_
    refine (am_gf (c := 11) (t := 2) rfl rfl rfl).trans ((am_g_t h101).trans ?_)
    refine (am_e0 rfl rfl).trans ?_
    refine (am_ial rfl).trans (am_g_congr fun h104 => ?_)
    refine (am_e0 rfl rfl).trans ?_
    refine (am_e0 rfl rfl).trans ?_
    refine (am_e0 rfl rfl).trans ?_
    refine (am_e0 rfl rfl).trans ?_
    refine am_lets (L := fun v105 => [(2, x0), (0, x1), (0, (-1)), (0, v105)]) (fun v105 => ?_)
    exact (am_e5 rfl).trans rfl
set_option maxRecDepth 10000 in
theorem aq_232_18 (d : Nat) (x0 x1 x2 x3 : Int) (M : am_M) : am_Ex d 232 18 [(2, x0), (0, x1), (0, x2), (0, x3)] [] M = (if x3 < 0 then (some (x2, M)) else (am_g (am_ob x0 11) <| (am_Call d 201 [(2, x0), (0, x3)] M).bind fun r103 => if am_and x1 (am_xor r103.1 (-1)) = 0 then (if x2 = (-1) then (am_Ex d 232 37 [(2, x0), (0, x1), am_N, (0, x3)] [] r103.2) else ((am_Call d 66 [(0, x3)] r103.2).bind fun r106 => (am_Call d 66 [(0, x2)] r106.2).bind fun r107 => if r106.1 ≤ r107.1 then (am_Ex d 232 37 [(2, x0), (0, x1), am_N, (0, x3)] [] r107.2) else (am_Ex d 232 40 [(2, x0), (0, x1), (0, x2), (0, x3)] [] r107.2))) else (am_Ex d 232 40 [(2, x0), (0, x1), (0, x2), (0, x3)] [] r103.2))) := by
  refine (am_e0 rfl rfl).trans ?_
  refine (am_z_lt rfl).trans (am_if_congr (fun c101 => ?_) (fun c101 => ?_))
  · refine (am_e0 rfl rfl).trans ?_
    exact (am_e4i rfl rfl).trans rfl
  · refine (am_e0 rfl rfl).trans ?_
    refine (am_e0 rfl rfl).trans ?_
    refine (am_e0 rfl rfl).trans ?_
    refine (am_cal3 (z := 201) (k := 2) (c := (am_ob x0 11)) rfl rfl rfl rfl rfl rfl rfl rfl).trans (am_g_congr fun h102 => ?_)
    refine am_bind_congr fun r103 => ?_
    show am_Ex d 232 24 [(2, x0), (0, x1), (0, x2), (0, x3)] [(0, r103.1), (0, x1)] r103.2 = _
    refine (am_e0 rfl rfl).trans ?_
    refine (am_e0 rfl rfl).trans ?_
    refine (am_e0 rfl rfl).trans ?_
    refine (am_z_ne rfl).trans (am_if_congr (fun c104 => ?_) (fun c104 => ?_))
    · refine (am_e0 rfl rfl).trans ?_
      refine (am_e0 rfl rfl).trans ?_
      refine (am_i_eq rfl).trans (am_if_congr (fun c105 => ?_) (fun c105 => ?_))
      · exact (am_e5 rfl).trans rfl
      · refine (am_e0 rfl rfl).trans ?_
        refine (am_cal3 (z := 66) (k := 1) (c := true) rfl rfl rfl rfl rfl rfl rfl rfl).trans ((am_g_t rfl).trans ?_)
        refine am_bind_congr fun r106 => ?_
        show am_Ex d 232 33 [(2, x0), (0, x1), (0, x2), (0, x3)] [(0, r106.1)] r106.2 = _
        refine (am_e0 rfl rfl).trans ?_
        refine (am_cal3 (z := 66) (k := 1) (c := true) rfl rfl rfl rfl rfl rfl rfl rfl).trans ((am_g_t rfl).trans ?_)
        refine am_bind_congr fun r107 => ?_
        show am_Ex d 232 35 [(2, x0), (0, x1), (0, x2), (0, x3)] [(0, r107.1), (0, r106.1)] r107.2 = _
        refine (am_i_gt rfl).trans (am_if_congr (fun c108 => ?_) (fun c108 => ?_))
        · exact (am_e5 rfl).trans rfl
        · exact (am_e5 rfl).trans rfl
    · exact (am_e5 rfl).trans rfl
set_option maxRecDepth 10000 in
theorem aq_232_37 (d : Nat) (x0 x1 x3 : Int) (M : am_M) : am_Ex d 232 37 [(2, x0), (0, x1), am_N, (0, x3)] [] M = (am_Ex d 232 40 [(2, x0), (0, x1), (0, x3), (0, x3)] [] M) := by
  refine (am_e0 rfl rfl).trans ?_
  refine (am_e0 rfl rfl).trans ?_
  exact (am_e5 rfl).trans rfl
set_option maxRecDepth 10000 in
theorem aq_232_40 (d : Nat) (x0 x1 x2 x3 : Int) (M : am_M) : am_Ex d 232 40 [(2, x0), (0, x1), (0, x2), (0, x3)] [] M = (am_let (am_w32 (x3 + (-1))) fun v101 => am_Ex d 232 18 [(2, x0), (0, x1), (0, x2), (0, v101)] [] M) := by
  refine (am_e0 rfl rfl).trans ?_
  refine am_lets (L := fun v101 => [(2, x0), (0, x1), (0, x2), (0, v101)]) (fun v101 => ?_)
  refine (am_e1 rfl rfl).trans ?_
  exact (am_e5 rfl).trans rfl
-- 233: java/lang/String.charAt(I)C
set_option maxRecDepth 10000 in
theorem aq_233 (d : Nat) (x0 x1 : Int) (M : am_M) : am_Call d 233 [(2, x0), (0, x1)] M = (am_g (decide (x0 = -2) || decide (x0 = -3)) <| (am_Call d 101 [(2, x0)] M).bind fun r102 => if r102.1 = 0 then (none) else ((am_Call d 206 [(2, x0 - 3), (0, x1)] r102.2).bind fun r104 => am_g (decide (0 ≤ r104.1) && decide (r104.1 < 65536)) (some (r104.1, r104.2)))) := by
  show am_Ex d 233 0 [(2, x0), (0, x1)] [] M = _
  refine (am_e0 rfl rfl).trans ?_
  refine (am_cal3 (z := 101) (k := 1) (c := (decide (x0 = -2) || decide (x0 = -3))) rfl rfl rfl rfl rfl rfl rfl rfl).trans (am_g_congr fun h101 => ?_)
  refine am_bind_congr fun r102 => ?_
  show am_Ex d 233 2 [(2, x0), (0, x1)] [(0, r102.1)] r102.2 = _
  refine (am_z_eq rfl).trans (am_if_congr (fun c103 => ?_) (fun c103 => ?_))
  · refine (am_e0 rfl rfl).trans ?_
    refine (am_rgv rfl).trans ((am_g_t h101).trans ?_)
    refine (am_e0 rfl rfl).trans ?_
    exact (am_e99 rfl).trans rfl
  · refine (am_e0 rfl rfl).trans ?_
    refine (am_rgv rfl).trans ((am_g_t h101).trans ?_)
    refine (am_e0 rfl rfl).trans ?_
    refine (am_cal3 (z := 206) (k := 2) (c := true) rfl rfl rfl rfl rfl rfl rfl rfl).trans ((am_g_t rfl).trans ?_)
    refine am_bind_congr fun r104 => ?_
    show am_Ex d 233 7 [(2, x0), (0, x1)] [(0, r104.1)] r104.2 = _
    exact (am_e4z rfl rfl).trans rfl
-- 234: java/lang/String.indexOf(I)I
set_option maxRecDepth 10000 in
theorem aq_234 (d : Nat) (x0 x1 : Int) (M : am_M) : am_Call d 234 [(2, x0), (0, x1)] M = (am_g (decide (x0 = -2) || decide (x0 = -3)) <| (am_Call d 205 [(2, x0), (0, x1), (0, 0)] M).bind fun r102 => some (r102.1, r102.2)) := by
  show am_Ex d 234 0 [(2, x0), (0, x1)] [] M = _
  refine (am_e0 rfl rfl).trans ?_
  refine (am_e0 rfl rfl).trans ?_
  refine (am_e0 rfl rfl).trans ?_
  refine (am_cal3 (z := 205) (k := 3) (c := (decide (x0 = -2) || decide (x0 = -3))) rfl rfl rfl rfl rfl rfl rfl rfl).trans (am_g_congr fun h101 => ?_)
  refine am_bind_congr fun r102 => ?_
  show am_Ex d 234 4 [(2, x0), (0, x1)] [(0, r102.1)] r102.2 = _
  exact (am_e4i rfl rfl).trans rfl
-- 235: UnlearnedHand$Deeds.tryMan(LUnlearnedHand$Hands;I)I
set_option maxRecDepth 10000 in
theorem aq_235 (d : Nat) (x0 x1 x2 : Int) (M : am_M) : am_Call d 235 [(2, x0), (2, x1), (0, x2)] M = (am_g (am_ob x0 0) <| am_g (am_ob (am_rd M x0 1) 4) <| (am_Call d 209 [(2, am_rd M x0 1), (2, x1), (0, x2)] M).bind fun r103 => (am_Call d 99 [(0, r103.1)] r103.2).bind fun r104 => am_g (am_ob (am_rd r104.2 x0 0) 2) <| if r104.1 ≤ am_rd r104.2 (am_rd r104.2 x0 0) 10 then (am_g (am_ob x1 3) <| (am_Call d 27 [(2, x1), (0, x2)] r104.2).bind fun r108 => some (r104.1, r108.2)) else (some (r104.1, r104.2))) := by
  show am_Ex d 235 0 [(2, x0), (2, x1), (0, x2), am_N] [] M = _
  refine (am_e0 rfl rfl).trans ?_
  refine (am_gf (c := 0) (t := 2) rfl rfl rfl).trans (am_g_congr fun h101 => ?_)
  refine (am_e0 rfl rfl).trans ?_
  refine (am_e0 rfl rfl).trans ?_
  refine (am_cal3 (z := 209) (k := 3) (c := (am_ob (am_rd M x0 1) 4)) rfl rfl rfl rfl rfl rfl rfl rfl).trans (am_g_congr fun h102 => ?_)
  refine am_bind_congr fun r103 => ?_
  show am_Ex d 235 5 [(2, x0), (2, x1), (0, x2), am_N] [(0, r103.1)] r103.2 = _
  refine (am_cal3 (z := 99) (k := 1) (c := true) rfl rfl rfl rfl rfl rfl rfl rfl).trans ((am_g_t rfl).trans ?_)
  refine am_bind_congr fun r104 => ?_
  show am_Ex d 235 6 [(2, x0), (2, x1), (0, x2), am_N] [(0, r104.1)] r104.2 = _
  refine (am_e0 rfl rfl).trans ?_
  refine (am_e0 rfl rfl).trans ?_
  refine (am_e0 rfl rfl).trans ?_
  refine (am_gf (c := 0) (t := 2) rfl rfl rfl).trans ((am_g_t h101).trans ?_)
  refine (am_gf (c := 2) (t := 0) rfl rfl rfl).trans (am_g_congr fun h105 => ?_)
  refine (am_i_gt rfl).trans (am_if_congr (fun c106 => ?_) (fun c106 => ?_))
  · refine (am_e0 rfl rfl).trans ?_
    refine (am_e0 rfl rfl).trans ?_
    refine (am_cal3 (z := 27) (k := 2) (c := (am_ob x1 3)) rfl rfl rfl rfl rfl rfl rfl rfl).trans (am_g_congr fun h107 => ?_)
    refine am_bind_congr fun r108 => ?_
    show am_Ex d 235 15 [(2, x0), (2, x1), (0, x2), (0, r104.1)] [] r108.2 = _
    refine (am_e5 rfl).trans ?_
    show am_Ex d 235 16 [am_N, am_N, am_N, (0, r104.1)] [] r108.2 = _
    refine (am_e0 rfl rfl).trans ?_
    exact (am_e4i rfl rfl).trans rfl
  · refine (am_e5 rfl).trans ?_
    show am_Ex d 235 16 [am_N, am_N, am_N, (0, r104.1)] [] r104.2 = _
    refine (am_e0 rfl rfl).trans ?_
    exact (am_e4i rfl rfl).trans rfl
-- 236: UnlearnedHand$Foresight.weighLessons(III)V
set_option maxRecDepth 10000 in
theorem aq_236 (d : Nat) (x0 x1 x2 x3 : Int) (M : am_M) : am_Call d 236 [(2, x0), (0, x1), (0, x2), (0, x3)] M = (am_Ex d 236 3 [(2, x0), (0, x1), (0, x2), (0, x3), (0, 0), am_N, am_N] [] M) := by
  show am_Ex d 236 0 [(2, x0), (0, x1), (0, x2), (0, x3), am_N, am_N, am_N] [] M = _
  refine (am_e0 rfl rfl).trans ?_
  refine (am_e0 rfl rfl).trans ?_
  exact (am_e5 rfl).trans rfl
set_option maxRecDepth 10000 in
theorem aq_236_3 (d : Nat) (x0 x1 x2 x3 x4 : Int) (M : am_M) : am_Ex d 236 3 [(2, x0), (0, x1), (0, x2), (0, x3), (0, x4), am_N, am_N] [] M = (am_g (am_ob x0 1) <| am_g (am_ob (am_rd M x0 0) 2) <| if x4 < am_rd M (am_rd M x0 0) 5 then (if x4 < 8 then (am_Ex d 236 14 [(2, x0), (0, x1), (0, x2), (0, x3), (0, x4), (0, 0), am_N] [] M) else (some (0, M))) else (some (0, M))) := by
  refine (am_e0 rfl rfl).trans ?_
  refine (am_e0 rfl rfl).trans ?_
  refine (am_gf (c := 1) (t := 2) rfl rfl rfl).trans (am_g_congr fun h101 => ?_)
  refine (am_gf (c := 2) (t := 0) rfl rfl rfl).trans (am_g_congr fun h102 => ?_)
  refine (am_i_ge rfl).trans (am_if_congr (fun c103 => ?_) (fun c103 => ?_))
  · refine (am_e0 rfl rfl).trans ?_
    refine (am_e0 rfl rfl).trans ?_
    refine (am_i_ge rfl).trans (am_if_congr (fun c104 => ?_) (fun c104 => ?_))
    · refine (am_e0 rfl rfl).trans ?_
      refine (am_e0 rfl rfl).trans ?_
      exact (am_e5 rfl).trans rfl
    · refine (am_e5 rfl).trans ?_
      show am_Ex d 236 85 [am_N, am_N, am_N, am_N, am_N, am_N, am_N] [] M = _
      exact (am_e4v rfl rfl).trans rfl
  · refine (am_e5 rfl).trans ?_
    show am_Ex d 236 85 [am_N, am_N, am_N, am_N, am_N, am_N, am_N] [] M = _
    exact (am_e4v rfl rfl).trans rfl
set_option maxRecDepth 10000 in
theorem aq_236_14 (d : Nat) (x0 x1 x2 x3 x4 x5 : Int) (M : am_M) : am_Ex d 236 14 [(2, x0), (0, x1), (0, x2), (0, x3), (0, x4), (0, x5), am_N] [] M = (if x5 < am_shl 1 x2 then (if x5 < 16 then (am_g (am_ob x0 1) <| am_g (am_ob (am_rd M x0 4) 3) <| (am_Call d 22 [(2, am_rd M x0 4), (2, am_rd M x0 1)] M).bind fun r105 => am_Ex d 236 30 [(2, x0), (0, x1), (0, x2), (0, x3), (0, x4), (0, x5), (0, 0)] [] r105.2) else (am_Ex d 236 82 [(2, x0), (0, x1), (0, x2), (0, x3), (0, x4), am_N, am_N] [] M)) else (am_Ex d 236 82 [(2, x0), (0, x1), (0, x2), (0, x3), (0, x4), am_N, am_N] [] M)) := by
  refine (am_e0 rfl rfl).trans ?_
  refine (am_e0 rfl rfl).trans ?_
  refine (am_e0 rfl rfl).trans ?_
  refine (am_e0 rfl rfl).trans ?_
  refine (am_i_ge rfl).trans (am_if_congr (fun c101 => ?_) (fun c101 => ?_))
  · refine (am_e0 rfl rfl).trans ?_
    refine (am_e0 rfl rfl).trans ?_
    refine (am_i_ge rfl).trans (am_if_congr (fun c102 => ?_) (fun c102 => ?_))
    · refine (am_e0 rfl rfl).trans ?_
      refine (am_gf (c := 1) (t := 2) rfl rfl rfl).trans (am_g_congr fun h103 => ?_)
      refine (am_e0 rfl rfl).trans ?_
      refine (am_gf (c := 1) (t := 2) rfl rfl rfl).trans ((am_g_t h103).trans ?_)
      refine (am_cal3 (z := 22) (k := 2) (c := (am_ob (am_rd M x0 4) 3)) rfl rfl rfl rfl rfl rfl rfl rfl).trans (am_g_congr fun h104 => ?_)
      refine am_bind_congr fun r105 => ?_
      show am_Ex d 236 27 [(2, x0), (0, x1), (0, x2), (0, x3), (0, x4), (0, x5), am_N] [] r105.2 = _
      refine (am_e0 rfl rfl).trans ?_
      refine (am_e0 rfl rfl).trans ?_
      exact (am_e5 rfl).trans rfl
    · exact (am_e5 rfl).trans rfl
  · exact (am_e5 rfl).trans rfl
set_option maxRecDepth 10000 in
theorem aq_236_30 (d : Nat) (x0 x1 x2 x3 x4 x5 x6 : Int) (M : am_M) : am_Ex d 236 30 [(2, x0), (0, x1), (0, x2), (0, x3), (0, x4), (0, x5), (0, x6)] [] M = (if x6 < x2 then (if am_and (am_shr x5 x6) 1 = 0 then (am_Ex d 236 48 [(2, x0), (0, x1), (0, x2), (0, x3), (0, x4), (0, x5), (0, x6)] [] M) else (am_g (am_ob x0 1) <| am_g (am_ob (am_rd M x0 3) 0) <| (am_Call d 207 [(2, am_rd M x0 3), (2, am_rd M x0 4), (0, x1), (0, x4), (0, x3)] M).bind fun r105 => am_Ex d 236 48 [(2, x0), (0, x1), (0, x2), (0, x3), (0, x4), (0, x5), (0, x6)] [] r105.2)) else (am_g (am_ob x0 1) <| am_g (am_ar (am_rd M x0 5) 24 x4 || (am_ar (am_rd M x0 5) 25 x4 || am_ar (am_rd M x0 5) 26 x4)) <| am_g (am_ob (am_rd M x0 2) 4) <| (am_Call d 174 [(2, am_rd M x0 2), (0, 0), (2, am_rd M x0 4), (0, x1), (0, x4), (0, 0)] M).bind fun r109 => am_g (am_ar (am_rd M (am_rd M x0 5) x4) 20 x5) <| am_let (am_wr r109.2 (am_rd M (am_rd M x0 5) x4) x5 r109.1) fun M111 => am_let (am_w32 (x5 + 1)) fun v112 => am_Ex d 236 14 [(2, x0), (0, x1), (0, x2), (0, x3), (0, x4), (0, v112), am_N] [] M111)) := by
  refine (am_e0 rfl rfl).trans ?_
  refine (am_e0 rfl rfl).trans ?_
  refine (am_i_ge rfl).trans (am_if_congr (fun c101 => ?_) (fun c101 => ?_))
  · refine (am_e0 rfl rfl).trans ?_
    refine (am_e0 rfl rfl).trans ?_
    refine (am_e0 rfl rfl).trans ?_
    refine (am_e0 rfl rfl).trans ?_
    refine (am_e0 rfl rfl).trans ?_
    refine (am_z_eq rfl).trans (am_if_congr (fun c102 => ?_) (fun c102 => ?_))
    · exact (am_e5 rfl).trans rfl
    · refine (am_e0 rfl rfl).trans ?_
      refine (am_gf (c := 1) (t := 2) rfl rfl rfl).trans (am_g_congr fun h103 => ?_)
      refine (am_e0 rfl rfl).trans ?_
      refine (am_gf (c := 1) (t := 2) rfl rfl rfl).trans ((am_g_t h103).trans ?_)
      refine (am_e0 rfl rfl).trans ?_
      refine (am_e0 rfl rfl).trans ?_
      refine (am_e0 rfl rfl).trans ?_
      refine (am_cal3 (z := 207) (k := 5) (c := (am_ob (am_rd M x0 3) 0)) rfl rfl rfl rfl rfl rfl rfl rfl).trans (am_g_congr fun h104 => ?_)
      refine am_bind_congr fun r105 => ?_
      show am_Ex d 236 47 [(2, x0), (0, x1), (0, x2), (0, x3), (0, x4), (0, x5), (0, x6)] [] r105.2 = _
      exact (am_e5 rfl).trans rfl
  · refine (am_e0 rfl rfl).trans ?_
    refine (am_gf (c := 1) (t := 2) rfl rfl rfl).trans (am_g_congr fun h106 => ?_)
    refine (am_e0 rfl rfl).trans ?_
    refine (am_aal rfl).trans (am_g_congr fun h107 => ?_)
    refine (am_e0 rfl rfl).trans ?_
    refine (am_e0 rfl rfl).trans ?_
    refine (am_gf (c := 1) (t := 2) rfl rfl rfl).trans ((am_g_t h106).trans ?_)
    refine (am_e0 rfl rfl).trans ?_
    refine (am_e0 rfl rfl).trans ?_
    refine (am_gf (c := 1) (t := 2) rfl rfl rfl).trans ((am_g_t h106).trans ?_)
    refine (am_e0 rfl rfl).trans ?_
    refine (am_e0 rfl rfl).trans ?_
    refine (am_e0 rfl rfl).trans ?_
    refine (am_cal3 (z := 174) (k := 6) (c := (am_ob (am_rd M x0 2) 4)) rfl rfl rfl rfl rfl rfl rfl rfl).trans (am_g_congr fun h108 => ?_)
    refine am_bind_congr fun r109 => ?_
    show am_Ex d 236 78 [(2, x0), (0, x1), (0, x2), (0, x3), (0, x4), (0, x5), (0, x6)] [(0, r109.1), (0, x5), (2, am_rd M (am_rd M x0 5) x4)] r109.2 = _
    refine (am_ias rfl).trans (am_g_congr fun h110 => ?_)
    refine am_letm (fun M111 => ?_)
    refine (am_e0 rfl rfl).trans ?_
    refine am_lets (L := fun v112 => [(2, x0), (0, x1), (0, x2), (0, x3), (0, x4), (0, v112), (0, x6)]) (fun v112 => ?_)
    refine (am_e1 rfl rfl).trans ?_
    exact (am_e5 rfl).trans rfl
set_option maxRecDepth 10000 in
theorem aq_236_82 (d : Nat) (x0 x1 x2 x3 x4 : Int) (M : am_M) : am_Ex d 236 82 [(2, x0), (0, x1), (0, x2), (0, x3), (0, x4), am_N, am_N] [] M = (am_let (am_w32 (x4 + 1)) fun v101 => am_Ex d 236 3 [(2, x0), (0, x1), (0, x2), (0, x3), (0, v101), am_N, am_N] [] M) := by
  refine (am_e0 rfl rfl).trans ?_
  refine am_lets (L := fun v101 => [(2, x0), (0, x1), (0, x2), (0, x3), (0, v101), am_N, am_N]) (fun v101 => ?_)
  refine (am_e1 rfl rfl).trans ?_
  exact (am_e5 rfl).trans rfl
set_option maxRecDepth 10000 in
theorem aq_236_48 (d : Nat) (x0 x1 x2 x3 x4 x5 x6 : Int) (M : am_M) : am_Ex d 236 48 [(2, x0), (0, x1), (0, x2), (0, x3), (0, x4), (0, x5), (0, x6)] [] M = (am_g (am_ob x0 1) <| am_g (am_ob (am_rd M x0 3) 0) <| (am_Call d 208 [(2, am_rd M x0 3), (2, am_rd M x0 4), (0, x1), (0, x4)] M).bind fun r103 => am_g (am_ob (am_rd r103.2 x0 4) 3) <| am_let (am_wr r103.2 (am_rd r103.2 x0 4) 6 (am_w32 ((am_rd r103.2 (am_rd r103.2 x0 4) 6) + 1))) fun M105 => am_let (am_w32 (x6 + 1)) fun v106 => am_Ex d 236 30 [(2, x0), (0, x1), (0, x2), (0, x3), (0, x4), (0, x5), (0, v106)] [] M105) := by
  refine (am_e0 rfl rfl).trans ?_
  refine (am_gf (c := 1) (t := 2) rfl rfl rfl).trans (am_g_congr fun h101 => ?_)
  refine (am_e0 rfl rfl).trans ?_
  refine (am_gf (c := 1) (t := 2) rfl rfl rfl).trans ((am_g_t h101).trans ?_)
  refine (am_e0 rfl rfl).trans ?_
  refine (am_e0 rfl rfl).trans ?_
  refine (am_cal3 (z := 208) (k := 4) (c := (am_ob (am_rd M x0 3) 0)) rfl rfl rfl rfl rfl rfl rfl rfl).trans (am_g_congr fun h102 => ?_)
  refine am_bind_congr fun r103 => ?_
  show am_Ex d 236 55 [(2, x0), (0, x1), (0, x2), (0, x3), (0, x4), (0, x5), (0, x6)] [] r103.2 = _
  refine (am_e0 rfl rfl).trans ?_
  refine (am_gf (c := 1) (t := 2) rfl rfl rfl).trans ((am_g_t h101).trans ?_)
  refine (am_e0 rfl rfl).trans ?_
  refine (am_gf (c := 3) (t := 0) rfl rfl rfl).trans (am_g_congr fun h104 => ?_)
  refine (am_e0 rfl rfl).trans ?_
  refine (am_e0 rfl rfl).trans ?_
  refine (am_pf (c := 3) rfl rfl rfl).trans ((am_g_t h104).trans ?_)
  refine am_letm (fun M105 => ?_)
  refine (am_e0 rfl rfl).trans ?_
  refine am_lets (L := fun v106 => [(2, x0), (0, x1), (0, x2), (0, x3), (0, x4), (0, x5), (0, v106)]) (fun v106 => ?_)
  refine (am_e1 rfl rfl).trans ?_
  exact (am_e5 rfl).trans rfl
-- 237: UnlearnedHand$Reader.signToken(CC)I
set_option maxRecDepth 10000 in
theorem aq_237 (d : Nat) (x0 x1 : Int) (M : am_M) : am_Call d 237 [(0, x0), (0, x1)] M = (if x1 = 61 then (if x0 = 60 then (some (40, M)) else (am_Ex d 237 9 [(0, x0), (0, x1), am_N] [] M)) else (am_Ex d 237 9 [(0, x0), (0, x1), am_N] [] M)) := by
  show am_Ex d 237 0 [(0, x0), (0, x1), am_N] [] M = _
  refine (am_e0 rfl rfl).trans ?_
  refine (am_e0 rfl rfl).trans ?_
  refine (am_i_ne rfl).trans (am_if_congr (fun c101 => ?_) (fun c101 => ?_))
  · refine (am_e0 rfl rfl).trans ?_
    refine (am_e0 rfl rfl).trans ?_
    refine (am_i_ne rfl).trans (am_if_congr (fun c102 => ?_) (fun c102 => ?_))
    · refine (am_e0 rfl rfl).trans ?_
      exact (am_e4i rfl rfl).trans rfl
    · exact (am_e5 rfl).trans rfl
  · exact (am_e5 rfl).trans rfl
set_option maxRecDepth 10000 in
theorem aq_237_9 (d : Nat) (x0 x1 : Int) (M : am_M) : am_Ex d 237 9 [(0, x0), (0, x1), am_N] [] M = (if x1 = 61 then (if x0 = 62 then (some (41, M)) else (am_Ex d 237 18 [(0, x0), am_N, am_N] [] M)) else (am_Ex d 237 18 [(0, x0), am_N, am_N] [] M)) := by
  refine (am_e0 rfl rfl).trans ?_
  refine (am_e0 rfl rfl).trans ?_
  refine (am_i_ne rfl).trans (am_if_congr (fun c101 => ?_) (fun c101 => ?_))
  · refine (am_e0 rfl rfl).trans ?_
    refine (am_e0 rfl rfl).trans ?_
    refine (am_i_ne rfl).trans (am_if_congr (fun c102 => ?_) (fun c102 => ?_))
    · refine (am_e0 rfl rfl).trans ?_
      exact (am_e4i rfl rfl).trans rfl
    · exact (am_e5 rfl).trans rfl
  · exact (am_e5 rfl).trans rfl
set_option maxRecDepth 10000 in
theorem aq_237_18 (d : Nat) (x0 : Int) (M : am_M) : am_Ex d 237 18 [(0, x0), am_N, am_N] [] M = ((am_Call d 234 [(2, (-2 - 0)), (0, x0)] M).bind fun r101 => if r101.1 < 0 then (some (43, r101.2)) else (some (am_w32 (29 + r101.1), r101.2))) := by
  refine (am_e7 rfl).trans ?_
  refine (am_e0 rfl rfl).trans ?_
  refine (am_cal3 (z := 234) (k := 2) (c := true) rfl rfl rfl rfl rfl rfl rfl rfl).trans ((am_g_t rfl).trans ?_)
  refine am_bind_congr fun r101 => ?_
  show am_Ex d 237 21 [(0, x0), am_N, am_N] [(0, r101.1)] r101.2 = _
  refine (am_e0 rfl rfl).trans ?_
  refine (am_e0 rfl rfl).trans ?_
  refine (am_z_ge rfl).trans (am_if_congr (fun c102 => ?_) (fun c102 => ?_))
  · refine (am_e0 rfl rfl).trans ?_
    refine (am_e1 rfl rfl).trans ?_
    exact (am_e4i rfl rfl).trans rfl
  · refine (am_e0 rfl rfl).trans ?_
    refine (am_e0 rfl rfl).trans ?_
    refine (am_e0 rfl rfl).trans ?_
    exact (am_e4i rfl rfl).trans rfl
-- 238: UnlearnedHand$Reader.isWordAt(I[CII)Z
set_option maxRecDepth 10000 in
theorem aq_238 (d : Nat) (x0 x1 x2 x3 : Int) (M : am_M) : am_Call d 238 [(0, x0), (2, x1), (0, x2), (0, x3)] M = (am_Ex d 238 3 [(0, x0), (2, x1), (0, x2), (0, x3), (0, x2), am_N] [] M) := by
  show am_Ex d 238 0 [(0, x0), (2, x1), (0, x2), (0, x3), am_N, am_N] [] M = _
  refine (am_e0 rfl rfl).trans ?_
  refine (am_e0 rfl rfl).trans ?_
  exact (am_e5 rfl).trans rfl
set_option maxRecDepth 10000 in
theorem aq_238_3 (d : Nat) (x0 x1 x2 x3 x4 : Int) (M : am_M) : am_Ex d 238 3 [(0, x0), (2, x1), (0, x2), (0, x3), (0, x4), am_N] [] M = (if x4 < x3 then (am_let (am_w32 ((am_w32 (x0 + x4)) - x2)) fun v102 => if x4 < 0 then (some (0, M)) else (am_g (am_ia x1) <| if x4 < am_ln x1 then (if v102 < 0 then (some (0, M)) else ((am_Call d 169 [(2, (-2 - 1))] M).bind fun r107 => if v102 < r107.1 then (am_g (am_ar x1 22 x4) <| (am_Call d 233 [(2, (-2 - 1)), (0, v102)] r107.2).bind fun r110 => if am_rd r107.2 x1 x4 = r110.1 then (am_let (am_w32 (x4 + 1)) fun v112 => am_Ex d 238 3 [(0, x0), (2, x1), (0, x2), (0, x3), (0, v112), am_N] [] r110.2) else (some (0, r110.2))) else (some (0, r107.2)))) else (some (0, M)))) else (some (1, M))) := by
  refine (am_e0 rfl rfl).trans ?_
  refine (am_e0 rfl rfl).trans ?_
  refine (am_i_ge rfl).trans (am_if_congr (fun c101 => ?_) (fun c101 => ?_))
  · refine (am_e0 rfl rfl).trans ?_
    refine (am_e0 rfl rfl).trans ?_
    refine (am_e0 rfl rfl).trans ?_
    refine (am_e0 rfl rfl).trans ?_
    refine (am_e0 rfl rfl).trans ?_
    refine (am_e0 rfl rfl).trans ?_
    refine am_lets (L := fun v102 => [(0, x0), (2, x1), (0, x2), (0, x3), (0, x4), (0, v102)]) (fun v102 => ?_)
    refine (am_e0 rfl rfl).trans ?_
    refine (am_z_lt rfl).trans (am_if_congr (fun c103 => ?_) (fun c103 => ?_))
    · refine (am_e5 rfl).trans ?_
      show am_Ex d 238 25 [am_N, am_N, am_N, am_N, am_N, am_N] [] M = _
      refine (am_e0 rfl rfl).trans ?_
      exact (am_e4i rfl rfl).trans rfl
    · refine (am_e0 rfl rfl).trans ?_
      refine (am_e0 rfl rfl).trans ?_
      refine (am_aln rfl).trans (am_g_congr fun h104 => ?_)
      refine (am_i_ge rfl).trans (am_if_congr (fun c105 => ?_) (fun c105 => ?_))
      · refine (am_e0 rfl rfl).trans ?_
        refine (am_z_lt rfl).trans (am_if_congr (fun c106 => ?_) (fun c106 => ?_))
        · refine (am_e5 rfl).trans ?_
          show am_Ex d 238 25 [am_N, am_N, am_N, am_N, am_N, am_N] [] M = _
          refine (am_e0 rfl rfl).trans ?_
          exact (am_e4i rfl rfl).trans rfl
        · refine (am_e0 rfl rfl).trans ?_
          refine (am_e7 rfl).trans ?_
          refine (am_cal3 (z := 169) (k := 1) (c := true) rfl rfl rfl rfl rfl rfl rfl rfl).trans ((am_g_t rfl).trans ?_)
          refine am_bind_congr fun r107 => ?_
          show am_Ex d 238 23 [(0, x0), (2, x1), (0, x2), (0, x3), (0, x4), (0, v102)] [(0, r107.1), (0, v102)] r107.2 = _
          refine (am_i_lt rfl).trans (am_if_congr (fun c108 => ?_) (fun c108 => ?_))
          · refine (am_e0 rfl rfl).trans ?_
            refine (am_e0 rfl rfl).trans ?_
            refine (am_cal rfl).trans (am_g_congr fun h109 => ?_)
            refine (am_e7 rfl).trans ?_
            refine (am_e0 rfl rfl).trans ?_
            refine (am_cal3 (z := 233) (k := 2) (c := true) rfl rfl rfl rfl rfl rfl rfl rfl).trans ((am_g_t rfl).trans ?_)
            refine am_bind_congr fun r110 => ?_
            show am_Ex d 238 33 [(0, x0), (2, x1), (0, x2), (0, x3), (0, x4), (0, v102)] [(0, r110.1), (0, am_rd r107.2 x1 x4)] r110.2 = _
            refine (am_i_eq rfl).trans (am_if_congr (fun c111 => ?_) (fun c111 => ?_))
            · refine (am_e0 rfl rfl).trans ?_
              refine am_lets (L := fun v112 => [(0, x0), (2, x1), (0, x2), (0, x3), (0, v112), (0, v102)]) (fun v112 => ?_)
              refine (am_e1 rfl rfl).trans ?_
              exact (am_e5 rfl).trans rfl
            · refine (am_e0 rfl rfl).trans ?_
              exact (am_e4i rfl rfl).trans rfl
          · refine (am_e5 rfl).trans ?_
            show am_Ex d 238 25 [am_N, am_N, am_N, am_N, am_N, am_N] [] r107.2 = _
            refine (am_e0 rfl rfl).trans ?_
            exact (am_e4i rfl rfl).trans rfl
      · refine (am_e5 rfl).trans ?_
        show am_Ex d 238 25 [am_N, am_N, am_N, am_N, am_N, am_N] [] M = _
        refine (am_e0 rfl rfl).trans ?_
        exact (am_e4i rfl rfl).trans rfl
  · refine (am_e0 rfl rfl).trans ?_
    exact (am_e4i rfl rfl).trans rfl
-- 239: UnlearnedHand$Reader.readEither()V
set_option maxRecDepth 10000 in
theorem aq_239 (d : Nat) (x0 : Int) (M : am_M) : am_Call d 239 [(2, x0)] M = (am_g (am_ob x0 6) <| (am_Call d 211 [(2, x0)] M).bind fun r102 => am_Ex d 239 7 [(2, x0), (0, 0), (0, 0), am_N] [] r102.2) := by
  show am_Ex d 239 0 [(2, x0), am_N, am_N, am_N] [] M = _
  refine (am_e0 rfl rfl).trans ?_
  refine (am_cal3 (z := 211) (k := 1) (c := (am_ob x0 6)) rfl rfl rfl rfl rfl rfl rfl rfl).trans (am_g_congr fun h101 => ?_)
  refine am_bind_congr fun r102 => ?_
  show am_Ex d 239 2 [(2, x0), am_N, am_N, am_N] [] r102.2 = _
  refine (am_e0 rfl rfl).trans ?_
  refine (am_e0 rfl rfl).trans ?_
  refine (am_e0 rfl rfl).trans ?_
  refine (am_e0 rfl rfl).trans ?_
  exact (am_e5 rfl).trans rfl
set_option maxRecDepth 10000 in
theorem aq_239_7 (d : Nat) (x0 x1 x2 : Int) (M : am_M) : am_Ex d 239 7 [(2, x0), (0, x1), (0, x2), am_N] [] M = (am_g (am_ob x0 6) <| if x2 < am_rd M x0 3 then ((am_Call d 43 [(2, x0)] M).bind fun r103 => if r103.1 = 22 then (am_Ex d 239 20 [(2, x0), (0, x1), (0, x2), am_N] [] r103.2) else ((am_Call d 43 [(2, x0)] r103.2).bind fun r105 => if r105.1 = 21 then (am_Ex d 239 20 [(2, x0), (0, x1), (0, x2), am_N] [] r105.2) else (am_Ex d 239 55 [(2, x0), (0, x1), am_N, am_N] [] r105.2))) else (am_Ex d 239 55 [(2, x0), (0, x1), am_N, am_N] [] M)) := by
  refine (am_e0 rfl rfl).trans ?_
  refine (am_e0 rfl rfl).trans ?_
  refine (am_gf (c := 6) (t := 0) rfl rfl rfl).trans (am_g_congr fun h101 => ?_)
  refine (am_i_ge rfl).trans (am_if_congr (fun c102 => ?_) (fun c102 => ?_))
  · refine (am_e0 rfl rfl).trans ?_
    refine (am_cal3 (z := 43) (k := 1) (c := (am_ob x0 6)) rfl rfl rfl rfl rfl rfl rfl rfl).trans ((am_g_t h101).trans ?_)
    refine am_bind_congr fun r103 => ?_
    show am_Ex d 239 13 [(2, x0), (0, x1), (0, x2), am_N] [(0, r103.1)] r103.2 = _
    refine (am_e0 rfl rfl).trans ?_
    refine (am_i_eq rfl).trans (am_if_congr (fun c104 => ?_) (fun c104 => ?_))
    · exact (am_e5 rfl).trans rfl
    · refine (am_e0 rfl rfl).trans ?_
      refine (am_cal3 (z := 43) (k := 1) (c := (am_ob x0 6)) rfl rfl rfl rfl rfl rfl rfl rfl).trans ((am_g_t h101).trans ?_)
      refine am_bind_congr fun r105 => ?_
      show am_Ex d 239 17 [(2, x0), (0, x1), (0, x2), am_N] [(0, r105.1)] r105.2 = _
      refine (am_e0 rfl rfl).trans ?_
      refine (am_i_ne rfl).trans (am_if_congr (fun c106 => ?_) (fun c106 => ?_))
      · exact (am_e5 rfl).trans rfl
      · exact (am_e5 rfl).trans rfl
  · exact (am_e5 rfl).trans rfl
set_option maxRecDepth 10000 in
theorem aq_239_20 (d : Nat) (x0 x1 x2 : Int) (M : am_M) : am_Ex d 239 20 [(2, x0), (0, x1), (0, x2), am_N] [] M = (am_g (am_ob x0 6) <| (am_Call d 43 [(2, x0)] M).bind fun r102 => am_let (am_wr r102.2 x0 4 (am_w32 ((am_rd r102.2 x0 4) + 1))) fun M103 => if r102.1 = 21 then (if x1 = 0 then (am_Ex d 239 39 [(2, x0), (0, x1), (0, x2), (0, r102.1)] [] M103) else (am_g (am_ob (am_rd M103 x0 6) 8) <| (am_Call d 54 [(2, am_rd M103 x0 6), (0, (-21))] M103).bind fun r107 => am_Ex d 239 39 [(2, x0), (0, x1), (0, x2), (0, r102.1)] [] r107.2)) else (am_Ex d 239 39 [(2, x0), (0, x1), (0, x2), (0, r102.1)] [] M103)) := by
  refine (am_e0 rfl rfl).trans ?_
  refine (am_cal3 (z := 43) (k := 1) (c := (am_ob x0 6)) rfl rfl rfl rfl rfl rfl rfl rfl).trans (am_g_congr fun h101 => ?_)
  refine am_bind_congr fun r102 => ?_
  show am_Ex d 239 22 [(2, x0), (0, x1), (0, x2), am_N] [(0, r102.1)] r102.2 = _
  refine (am_e0 rfl rfl).trans ?_
  refine (am_e0 rfl rfl).trans ?_
  refine (am_e0 rfl rfl).trans ?_
  refine (am_gf (c := 6) (t := 0) rfl rfl rfl).trans ((am_g_t h101).trans ?_)
  refine (am_e0 rfl rfl).trans ?_
  refine (am_e0 rfl rfl).trans ?_
  refine (am_pf (c := 6) rfl rfl rfl).trans ((am_g_t h101).trans ?_)
  refine am_letm (fun M103 => ?_)
  refine (am_e0 rfl rfl).trans ?_
  refine (am_e0 rfl rfl).trans ?_
  refine (am_i_ne rfl).trans (am_if_congr (fun c104 => ?_) (fun c104 => ?_))
  · refine (am_e0 rfl rfl).trans ?_
    refine (am_z_eq rfl).trans (am_if_congr (fun c105 => ?_) (fun c105 => ?_))
    · exact (am_e5 rfl).trans rfl
    · refine (am_e0 rfl rfl).trans ?_
      refine (am_gf (c := 6) (t := 2) rfl rfl rfl).trans ((am_g_t h101).trans ?_)
      refine (am_e0 rfl rfl).trans ?_
      refine (am_cal3 (z := 54) (k := 2) (c := (am_ob (am_rd M103 x0 6) 8)) rfl rfl rfl rfl rfl rfl rfl rfl).trans (am_g_congr fun h106 => ?_)
      refine am_bind_congr fun r107 => ?_
      show am_Ex d 239 38 [(2, x0), (0, x1), (0, x2), (0, r102.1)] [] r107.2 = _
      exact (am_e5 rfl).trans rfl
  · exact (am_e5 rfl).trans rfl
set_option maxRecDepth 10000 in
theorem aq_239_55 (d : Nat) (x0 x1 : Int) (M : am_M) : am_Ex d 239 55 [(2, x0), (0, x1), am_N, am_N] [] M = (if x1 = 0 then (some (0, M)) else (am_g (am_ob x0 6) <| am_g (am_ob (am_rd M x0 6) 8) <| (am_Call d 54 [(2, am_rd M x0 6), (0, (-21))] M).bind fun r104 => some (0, r104.2))) := by
  refine (am_e0 rfl rfl).trans ?_
  refine (am_z_eq rfl).trans (am_if_congr (fun c101 => ?_) (fun c101 => ?_))
  · refine (am_e5 rfl).trans ?_
    show am_Ex d 239 62 [am_N, am_N, am_N, am_N] [] M = _
    exact (am_e4v rfl rfl).trans rfl
  · refine (am_e0 rfl rfl).trans ?_
    refine (am_gf (c := 6) (t := 2) rfl rfl rfl).trans (am_g_congr fun h102 => ?_)
    refine (am_e0 rfl rfl).trans ?_
    refine (am_cal3 (z := 54) (k := 2) (c := (am_ob (am_rd M x0 6) 8)) rfl rfl rfl rfl rfl rfl rfl rfl).trans (am_g_congr fun h103 => ?_)
    refine am_bind_congr fun r104 => ?_
    show am_Ex d 239 61 [(2, x0), (0, x1), am_N, am_N] [] r104.2 = _
    refine (am_e5 rfl).trans ?_
    show am_Ex d 239 62 [am_N, am_N, am_N, am_N] [] r104.2 = _
    exact (am_e4v rfl rfl).trans rfl
set_option maxRecDepth 10000 in
theorem aq_239_39 (d : Nat) (x0 x1 x2 x3 : Int) (M : am_M) : am_Ex d 239 39 [(2, x0), (0, x1), (0, x2), (0, x3)] [] M = (am_g (am_ob x0 6) <| (am_Call d 211 [(2, x0)] M).bind fun r102 => if x3 = 22 then (am_g (am_ob (am_rd r102.2 x0 6) 8) <| (am_Call d 54 [(2, am_rd r102.2 x0 6), (0, (-22))] r102.2).bind fun r105 => am_Ex d 239 52 [(2, x0), (0, x1), (0, x2), am_N] [] r105.2) else (am_Ex d 239 52 [(2, x0), (0, 1), (0, x2), am_N] [] r102.2)) := by
  refine (am_e0 rfl rfl).trans ?_
  refine (am_cal3 (z := 211) (k := 1) (c := (am_ob x0 6)) rfl rfl rfl rfl rfl rfl rfl rfl).trans (am_g_congr fun h101 => ?_)
  refine am_bind_congr fun r102 => ?_
  show am_Ex d 239 41 [(2, x0), (0, x1), (0, x2), (0, x3)] [] r102.2 = _
  refine (am_e0 rfl rfl).trans ?_
  refine (am_e0 rfl rfl).trans ?_
  refine (am_i_ne rfl).trans (am_if_congr (fun c103 => ?_) (fun c103 => ?_))
  · refine (am_e0 rfl rfl).trans ?_
    refine (am_gf (c := 6) (t := 2) rfl rfl rfl).trans ((am_g_t h101).trans ?_)
    refine (am_e0 rfl rfl).trans ?_
    refine (am_cal3 (z := 54) (k := 2) (c := (am_ob (am_rd r102.2 x0 6) 8)) rfl rfl rfl rfl rfl rfl rfl rfl).trans (am_g_congr fun h104 => ?_)
    refine am_bind_congr fun r105 => ?_
    show am_Ex d 239 48 [(2, x0), (0, x1), (0, x2), (0, x3)] [] r105.2 = _
    refine (am_e1 rfl rfl).trans ?_
    exact (am_e5 rfl).trans rfl
  · refine (am_e0 rfl rfl).trans ?_
    refine (am_e0 rfl rfl).trans ?_
    exact (am_e5 rfl).trans rfl
set_option maxRecDepth 10000 in
theorem aq_239_52 (d : Nat) (x0 x1 x2 : Int) (M : am_M) : am_Ex d 239 52 [(2, x0), (0, x1), (0, x2), am_N] [] M = (am_let (am_w32 (x2 + 1)) fun v101 => am_Ex d 239 7 [(2, x0), (0, x1), (0, v101), am_N] [] M) := by
  refine (am_e0 rfl rfl).trans ?_
  refine am_lets (L := fun v101 => [(2, x0), (0, x1), (0, v101), am_N]) (fun v101 => ?_)
  refine (am_e1 rfl rfl).trans ?_
  exact (am_e5 rfl).trans rfl
-- 240: UnlearnedHand$Reckoning.shamOdds(IIIZ)J
set_option maxRecDepth 10000 in
theorem aq_240 (d : Nat) (x0 x1 x2 x3 x4 : Int) (M : am_M) : am_Call d 240 [(2, x0), (0, x1), (0, x2), (0, x3), (0, x4)] M = (am_g (am_ob x0 7) <| am_g (am_ob (am_rd M x0 2) 4) <| (am_Call d 209 [(2, am_rd M x0 2), (2, am_rd M x0 1), (0, x1)] M).bind fun r103 => am_let (am_w32 (10 - x2)) fun v104 => am_Ex d 240 18 [(2, x0), am_N, am_N, (0, x3), (0, x4), (0, r103.1), (1, x2), am_N, (1, v104), am_N, (0, 0), am_N, am_N, am_N] [] r103.2) := by
  show am_Ex d 240 0 [(2, x0), (0, x1), (0, x2), (0, x3), (0, x4), am_N, am_N, am_N, am_N, am_N, am_N, am_N, am_N, am_N] [] M = _
  refine (am_e0 rfl rfl).trans ?_
  refine (am_gf (c := 7) (t := 2) rfl rfl rfl).trans (am_g_congr fun h101 => ?_)
  refine (am_e0 rfl rfl).trans ?_
  refine (am_gf (c := 7) (t := 2) rfl rfl rfl).trans ((am_g_t h101).trans ?_)
  refine (am_e0 rfl rfl).trans ?_
  refine (am_cal3 (z := 209) (k := 3) (c := (am_ob (am_rd M x0 2) 4)) rfl rfl rfl rfl rfl rfl rfl rfl).trans (am_g_congr fun h102 => ?_)
  refine am_bind_congr fun r103 => ?_
  show am_Ex d 240 6 [(2, x0), (0, x1), (0, x2), (0, x3), (0, x4), am_N, am_N, am_N, am_N, am_N, am_N, am_N, am_N, am_N] [(0, r103.1)] r103.2 = _
  refine (am_e0 rfl rfl).trans ?_
  refine (am_e0 rfl rfl).trans ?_
  refine (am_e0 rfl rfl).trans ?_
  refine (am_e0 rfl rfl).trans ?_
  refine (am_e0 rfl rfl).trans ?_
  refine (am_e0 rfl rfl).trans ?_
  refine (am_e0 rfl rfl).trans ?_
  refine (am_e0 rfl rfl).trans ?_
  refine (am_e0 rfl rfl).trans ?_
  refine am_lets (L := fun v104 => [(2, x0), (0, x1), (0, x2), (0, x3), (0, x4), (0, r103.1), (1, x2), am_N, (1, v104), am_N, am_N, am_N, am_N, am_N]) (fun v104 => ?_)
  refine (am_e0 rfl rfl).trans ?_
  refine (am_e0 rfl rfl).trans ?_
  exact (am_e5 rfl).trans rfl
set_option maxRecDepth 10000 in
theorem aq_240_18 (d : Nat) (x0 x3 x4 x5 x6 x8 x10 : Int) (M : am_M) : am_Ex d 240 18 [(2, x0), am_N, am_N, (0, x3), (0, x4), (0, x5), (1, x6), am_N, (1, x8), am_N, (0, x10), am_N, am_N, am_N] [] M = (am_g (am_ob x0 7) <| am_g (am_ob (am_rd M x0 0) 2) <| if x10 < am_rd M (am_rd M x0 0) 8 then (if x10 < 8 then (am_g (am_ar (am_rd M (am_rd M x0 0) 4) 20 x10) <| if am_and (am_shr x5 (am_rd M (am_rd M (am_rd M x0 0) 4) x10)) 1 = 0 then (am_Ex d 240 62 [(2, x0), am_N, am_N, (0, x3), (0, x4), (0, x5), (1, x6), am_N, (1, x8), am_N, (0, x10), am_N, am_N, am_N] [] M) else ((am_Call d 17 [(2, am_rd M x0 0), (0, x10)] M).bind fun r107 => if r107.1 = 0 then (am_let (am_w64 (x6 * x3)) fun v109 => if r107.1 = 0 then (am_let (am_w64 (x8 * 1)) fun v111 => am_Ex d 240 62 [(2, x0), am_N, am_N, (0, x3), (0, x4), (0, x5), (1, v109), am_N, (1, v111), am_N, (0, x10), am_N, am_N, am_N] [] r107.2) else (am_let (am_w64 (x8 * 9)) fun v112 => am_Ex d 240 62 [(2, x0), am_N, am_N, (0, x3), (0, x4), (0, x5), (1, v109), am_N, (1, v112), am_N, (0, x10), am_N, am_N, am_N] [] r107.2)) else (am_let (am_w64 (x6 * (am_w32 (10 - x3)))) fun v113 => if r107.1 = 0 then (am_let (am_w64 (x8 * 1)) fun v115 => am_Ex d 240 62 [(2, x0), am_N, am_N, (0, x3), (0, x4), (0, x5), (1, v113), am_N, (1, v115), am_N, (0, x10), am_N, am_N, am_N] [] r107.2) else (am_let (am_w64 (x8 * 9)) fun v116 => am_Ex d 240 62 [(2, x0), am_N, am_N, (0, x3), (0, x4), (0, x5), (1, v113), am_N, (1, v116), am_N, (0, x10), am_N, am_N, am_N] [] r107.2)))) else (am_Ex d 240 65 [am_N, am_N, am_N, am_N, (0, x4), am_N, (1, x6), am_N, (1, x8), am_N, am_N, am_N, am_N, am_N] [] M)) else (am_Ex d 240 65 [am_N, am_N, am_N, am_N, (0, x4), am_N, (1, x6), am_N, (1, x8), am_N, am_N, am_N, am_N, am_N] [] M)) := by
  refine (am_e0 rfl rfl).trans ?_
  refine (am_e0 rfl rfl).trans ?_
  refine (am_gf (c := 7) (t := 2) rfl rfl rfl).trans (am_g_congr fun h101 => ?_)
  refine (am_gf (c := 2) (t := 0) rfl rfl rfl).trans (am_g_congr fun h102 => ?_)
  refine (am_i_ge rfl).trans (am_if_congr (fun c103 => ?_) (fun c103 => ?_))
  · refine (am_e0 rfl rfl).trans ?_
    refine (am_e0 rfl rfl).trans ?_
    refine (am_i_ge rfl).trans (am_if_congr (fun c104 => ?_) (fun c104 => ?_))
    · refine (am_e0 rfl rfl).trans ?_
      refine (am_e0 rfl rfl).trans ?_
      refine (am_gf (c := 7) (t := 2) rfl rfl rfl).trans ((am_g_t h101).trans ?_)
      refine (am_gf (c := 2) (t := 2) rfl rfl rfl).trans ((am_g_t h102).trans ?_)
      refine (am_e0 rfl rfl).trans ?_
      refine (am_ial rfl).trans (am_g_congr fun h105 => ?_)
      refine (am_e0 rfl rfl).trans ?_
      refine (am_e0 rfl rfl).trans ?_
      refine (am_e0 rfl rfl).trans ?_
      refine (am_z_eq rfl).trans (am_if_congr (fun c106 => ?_) (fun c106 => ?_))
      · exact (am_e5 rfl).trans rfl
      · refine (am_e0 rfl rfl).trans ?_
        refine (am_gf (c := 7) (t := 2) rfl rfl rfl).trans ((am_g_t h101).trans ?_)
        refine (am_e0 rfl rfl).trans ?_
        refine (am_cal3 (z := 17) (k := 2) (c := (am_ob (am_rd M x0 0) 2)) rfl rfl rfl rfl rfl rfl rfl rfl).trans ((am_g_t h102).trans ?_)
        refine am_bind_congr fun r107 => ?_
        show am_Ex d 240 40 [(2, x0), am_N, am_N, (0, x3), (0, x4), (0, x5), (1, x6), am_N, (1, x8), am_N, (0, x10), am_N, am_N, am_N] [(0, r107.1)] r107.2 = _
        refine (am_e0 rfl rfl).trans ?_
        refine (am_e0 rfl rfl).trans ?_
        refine (am_e0 rfl rfl).trans ?_
        refine (am_z_eq rfl).trans (am_if_congr (fun c108 => ?_) (fun c108 => ?_))
        · refine (am_e0 rfl rfl).trans ?_
          refine (am_e0 rfl rfl).trans ?_
          refine (am_e0 rfl rfl).trans ?_
          refine (am_e0 rfl rfl).trans ?_
          refine am_lets (L := fun v109 => [(2, x0), am_N, am_N, (0, x3), (0, x4), (0, x5), (1, v109), am_N, (1, x8), am_N, (0, x10), (0, r107.1), am_N, am_N]) (fun v109 => ?_)
          refine (am_e0 rfl rfl).trans ?_
          refine (am_e0 rfl rfl).trans ?_
          refine (am_z_eq rfl).trans (am_if_congr (fun c110 => ?_) (fun c110 => ?_))
          · refine (am_e0 rfl rfl).trans ?_
            refine (am_e0 rfl rfl).trans ?_
            refine (am_e0 rfl rfl).trans ?_
            refine am_lets (L := fun v111 => [(2, x0), am_N, am_N, (0, x3), (0, x4), (0, x5), (1, v109), am_N, (1, v111), am_N, (0, x10), (0, r107.1), am_N, am_N]) (fun v111 => ?_)
            exact (am_e5 rfl).trans rfl
          · refine (am_e0 rfl rfl).trans ?_
            refine (am_e1 rfl rfl).trans ?_
            refine (am_e0 rfl rfl).trans ?_
            refine (am_e0 rfl rfl).trans ?_
            refine am_lets (L := fun v112 => [(2, x0), am_N, am_N, (0, x3), (0, x4), (0, x5), (1, v109), am_N, (1, v112), am_N, (0, x10), (0, r107.1), am_N, am_N]) (fun v112 => ?_)
            exact (am_e5 rfl).trans rfl
        · refine (am_e0 rfl rfl).trans ?_
          refine (am_e0 rfl rfl).trans ?_
          refine (am_e0 rfl rfl).trans ?_
          refine (am_e0 rfl rfl).trans ?_
          refine (am_e1 rfl rfl).trans ?_
          refine (am_e0 rfl rfl).trans ?_
          refine (am_e0 rfl rfl).trans ?_
          refine am_lets (L := fun v113 => [(2, x0), am_N, am_N, (0, x3), (0, x4), (0, x5), (1, v113), am_N, (1, x8), am_N, (0, x10), (0, r107.1), am_N, am_N]) (fun v113 => ?_)
          refine (am_e0 rfl rfl).trans ?_
          refine (am_e0 rfl rfl).trans ?_
          refine (am_z_eq rfl).trans (am_if_congr (fun c114 => ?_) (fun c114 => ?_))
          · refine (am_e0 rfl rfl).trans ?_
            refine (am_e0 rfl rfl).trans ?_
            refine (am_e0 rfl rfl).trans ?_
            refine am_lets (L := fun v115 => [(2, x0), am_N, am_N, (0, x3), (0, x4), (0, x5), (1, v113), am_N, (1, v115), am_N, (0, x10), (0, r107.1), am_N, am_N]) (fun v115 => ?_)
            exact (am_e5 rfl).trans rfl
          · refine (am_e0 rfl rfl).trans ?_
            refine (am_e1 rfl rfl).trans ?_
            refine (am_e0 rfl rfl).trans ?_
            refine (am_e0 rfl rfl).trans ?_
            refine am_lets (L := fun v116 => [(2, x0), am_N, am_N, (0, x3), (0, x4), (0, x5), (1, v113), am_N, (1, v116), am_N, (0, x10), (0, r107.1), am_N, am_N]) (fun v116 => ?_)
            exact (am_e5 rfl).trans rfl
    · exact (am_e5 rfl).trans rfl
  · exact (am_e5 rfl).trans rfl
set_option maxRecDepth 10000 in
theorem aq_240_62 (d : Nat) (x0 x3 x4 x5 x6 x8 x10 : Int) (M : am_M) : am_Ex d 240 62 [(2, x0), am_N, am_N, (0, x3), (0, x4), (0, x5), (1, x6), am_N, (1, x8), am_N, (0, x10), am_N, am_N, am_N] [] M = (am_let (am_w32 (x10 + 1)) fun v101 => am_Ex d 240 18 [(2, x0), am_N, am_N, (0, x3), (0, x4), (0, x5), (1, x6), am_N, (1, x8), am_N, (0, v101), am_N, am_N, am_N] [] M) := by
  refine (am_e0 rfl rfl).trans ?_
  refine am_lets (L := fun v101 => [(2, x0), am_N, am_N, (0, x3), (0, x4), (0, x5), (1, x6), am_N, (1, x8), am_N, (0, v101), am_N, am_N, am_N]) (fun v101 => ?_)
  refine (am_e1 rfl rfl).trans ?_
  exact (am_e5 rfl).trans rfl
set_option maxRecDepth 10000 in
theorem aq_240_65 (d : Nat) (x4 x6 x8 : Int) (M : am_M) : am_Ex d 240 65 [am_N, am_N, am_N, am_N, (0, x4), am_N, (1, x6), am_N, (1, x8), am_N, am_N, am_N, am_N, am_N] [] M = (am_let (am_w64 (x6 + x8)) fun v101 => (am_Call d 35 [(1, x6), (1, v101)] M).bind fun r102 => if am_cmp v101 0 = 0 then (am_Ex d 240 82 [am_N, am_N, am_N, am_N, (0, x4), am_N, am_N, am_N, am_N, am_N, am_N, am_N, am_N, am_N] [] r102.2) else (if am_cmp r102.1 0 = 0 then (am_Ex d 240 82 [am_N, am_N, am_N, am_N, (0, x4), am_N, am_N, am_N, am_N, am_N, am_N, am_N, am_N, am_N] [] r102.2) else (if x4 = 0 then (if (r102.1 : Int) = 0 then none else some (am_ldiv x6 r102.1, r102.2)) else (if (r102.1 : Int) = 0 then none else some (am_ldiv v101 r102.1, r102.2))))) := by
  refine (am_e0 rfl rfl).trans ?_
  refine (am_e0 rfl rfl).trans ?_
  refine (am_e0 rfl rfl).trans ?_
  refine (am_e0 rfl rfl).trans ?_
  refine am_lets (L := fun v101 => [am_N, am_N, am_N, am_N, (0, x4), am_N, (1, x6), am_N, (1, x8), am_N, (1, v101), am_N, am_N, am_N]) (fun v101 => ?_)
  refine (am_e0 rfl rfl).trans ?_
  refine (am_e0 rfl rfl).trans ?_
  refine (am_cal3 (z := 35) (k := 2) (c := true) rfl rfl rfl rfl rfl rfl rfl rfl).trans ((am_g_t rfl).trans ?_)
  refine am_bind_congr fun r102 => ?_
  show am_Ex d 240 72 [am_N, am_N, am_N, am_N, (0, x4), am_N, (1, x6), am_N, (1, x8), am_N, (1, v101), am_N, am_N, am_N] [(1, r102.1)] r102.2 = _
  refine (am_e0 rfl rfl).trans ?_
  refine (am_e0 rfl rfl).trans ?_
  refine (am_e0 rfl rfl).trans ?_
  refine (am_e0 rfl rfl).trans ?_
  refine (am_z_eq rfl).trans (am_if_congr (fun c103 => ?_) (fun c103 => ?_))
  · exact (am_e5 rfl).trans rfl
  · refine (am_e0 rfl rfl).trans ?_
    refine (am_e0 rfl rfl).trans ?_
    refine (am_e0 rfl rfl).trans ?_
    refine (am_z_ne rfl).trans (am_if_congr (fun c104 => ?_) (fun c104 => ?_))
    · exact (am_e5 rfl).trans rfl
    · refine (am_e0 rfl rfl).trans ?_
      refine (am_z_eq rfl).trans (am_if_congr (fun c105 => ?_) (fun c105 => ?_))
      · refine (am_e0 rfl rfl).trans ?_
        refine (am_e0 rfl rfl).trans ?_
        refine (am_dvl rfl).trans (am_if_congr (fun _ => rfl) (fun c106 => ?_))
        exact (am_e4l rfl rfl).trans rfl
      · refine (am_e0 rfl rfl).trans ?_
        refine (am_e0 rfl rfl).trans ?_
        refine (am_dvl rfl).trans (am_if_congr (fun _ => rfl) (fun c107 => ?_))
        refine (am_e1 rfl rfl).trans ?_
        exact (am_e4l rfl rfl).trans rfl
set_option maxRecDepth 10000 in
theorem aq_240_82 (d : Nat) (x4 : Int) (M : am_M) : am_Ex d 240 82 [am_N, am_N, am_N, am_N, (0, x4), am_N, am_N, am_N, am_N, am_N, am_N, am_N, am_N, am_N] [] M = (if x4 = 0 then (some (0, M)) else (some (1, M))) := by
  refine (am_e0 rfl rfl).trans ?_
  refine (am_z_eq rfl).trans (am_if_congr (fun c101 => ?_) (fun c101 => ?_))
  · refine (am_e0 rfl rfl).trans ?_
    exact (am_e4l rfl rfl).trans rfl
  · refine (am_e0 rfl rfl).trans ?_
    refine (am_e1 rfl rfl).trans ?_
    exact (am_e4l rfl rfl).trans rfl
-- 241: UnlearnedHand$Reckoning.findTurnsHad()V
set_option maxRecDepth 10000 in
theorem aq_241 (d : Nat) (x0 : Int) (M : am_M) : am_Call d 241 [(2, x0)] M = (am_Ex d 241 3 [(2, x0), (0, 0)] [] M) := by
  show am_Ex d 241 0 [(2, x0), am_N] [] M = _
  refine (am_e0 rfl rfl).trans ?_
  refine (am_e0 rfl rfl).trans ?_
  exact (am_e5 rfl).trans rfl
set_option maxRecDepth 10000 in
theorem aq_241_3 (d : Nat) (x0 x1 : Int) (M : am_M) : am_Ex d 241 3 [(2, x0), (0, x1)] [] M = (am_g (am_ob x0 7) <| am_g (am_ob (am_rd M x0 0) 2) <| if x1 < am_rd M (am_rd M x0 0) 6 then (if x1 < 6 then (am_g (am_ob (am_rd M x0 2) 4) <| (am_Call d 209 [(2, am_rd M x0 2), (2, am_rd M x0 1), (0, x1)] M).bind fun r106 => am_g (am_ar (am_rd M x0 3) 20 x1) <| am_let (am_wr r106.2 (am_rd M x0 3) x1 r106.1) fun M108 => am_let (am_w32 (x1 + 1)) fun v109 => am_Ex d 241 3 [(2, x0), (0, v109)] [] M108) else (some (0, M))) else (some (0, M))) := by
  refine (am_e0 rfl rfl).trans ?_
  refine (am_e0 rfl rfl).trans ?_
  refine (am_gf (c := 7) (t := 2) rfl rfl rfl).trans (am_g_congr fun h101 => ?_)
  refine (am_gf (c := 2) (t := 0) rfl rfl rfl).trans (am_g_congr fun h102 => ?_)
  refine (am_i_ge rfl).trans (am_if_congr (fun c103 => ?_) (fun c103 => ?_))
  · refine (am_e0 rfl rfl).trans ?_
    refine (am_e0 rfl rfl).trans ?_
    refine (am_i_ge rfl).trans (am_if_congr (fun c104 => ?_) (fun c104 => ?_))
    · refine (am_e0 rfl rfl).trans ?_
      refine (am_gf (c := 7) (t := 2) rfl rfl rfl).trans ((am_g_t h101).trans ?_)
      refine (am_e0 rfl rfl).trans ?_
      refine (am_e0 rfl rfl).trans ?_
      refine (am_gf (c := 7) (t := 2) rfl rfl rfl).trans ((am_g_t h101).trans ?_)
      refine (am_e0 rfl rfl).trans ?_
      refine (am_gf (c := 7) (t := 2) rfl rfl rfl).trans ((am_g_t h101).trans ?_)
      refine (am_e0 rfl rfl).trans ?_
      refine (am_cal3 (z := 209) (k := 3) (c := (am_ob (am_rd M x0 2) 4)) rfl rfl rfl rfl rfl rfl rfl rfl).trans (am_g_congr fun h105 => ?_)
      refine am_bind_congr fun r106 => ?_
      show am_Ex d 241 20 [(2, x0), (0, x1)] [(0, r106.1), (0, x1), (2, am_rd M x0 3)] r106.2 = _
      refine (am_ias rfl).trans (am_g_congr fun h107 => ?_)
      refine am_letm (fun M108 => ?_)
      refine (am_e0 rfl rfl).trans ?_
      refine am_lets (L := fun v109 => [(2, x0), (0, v109)]) (fun v109 => ?_)
      refine (am_e1 rfl rfl).trans ?_
      exact (am_e5 rfl).trans rfl
    · refine (am_e5 rfl).trans ?_
      show am_Ex d 241 24 [am_N, am_N] [] M = _
      exact (am_e4v rfl rfl).trans rfl
  · refine (am_e5 rfl).trans ?_
    show am_Ex d 241 24 [am_N, am_N] [] M = _
    exact (am_e4v rfl rfl).trans rfl
-- 242: UnlearnedHand.mislead(III)I
set_option maxRecDepth 10000 in
theorem aq_242 (d : Nat) (x0 x1 x2 x3 : Int) (M : am_M) : am_Call d 242 [(2, x0), (0, x1), (0, x2), (0, x3)] M = (am_g (am_ob x0 10) <| am_g (am_ob (am_rd M x0 0) 2) <| (am_Call d 107 [(2, am_rd M x0 0), (0, x1), (0, x2)] M).bind fun r103 => if r103.1 = 0 then (some ((-1), r103.2)) else (if x3 < 1 then (some ((-1), r103.2)) else (if x3 ≤ 99 then (am_g (am_ob (am_rd r103.2 x0 2) 3) <| (am_Call d 25 [(2, am_rd r103.2 x0 2), (0, x1)] r103.2).bind fun r108 => if r108.1 = 0 then (am_g (am_ob (am_rd r108.2 x0 4) 9) <| (am_Call d 134 [(2, am_rd r108.2 x0 4), (2, am_rd r108.2 x0 2)] r108.2).bind fun r111 => am_g (am_ob (am_rd r111.2 x0 11) 0) <| (am_Call d 207 [(2, am_rd r111.2 x0 11), (2, am_rd r111.2 x0 2), (0, x1), (0, x2), (0, x3)] r111.2).bind fun r113 => am_g (am_ob (am_rd r113.2 x0 2) 3) <| (am_Call d 114 [(2, am_rd r113.2 x0 2), (0, x1), (0, x2)] r113.2).bind fun r115 => some (r115.1, r115.2)) else (some ((-1), r108.2))) else (some ((-1), r103.2))))) := by
  show am_Ex d 242 0 [(2, x0), (0, x1), (0, x2), (0, x3)] [] M = _
  refine (am_e0 rfl rfl).trans ?_
  refine (am_gf (c := 10) (t := 2) rfl rfl rfl).trans (am_g_congr fun h101 => ?_)
  refine (am_e0 rfl rfl).trans ?_
  refine (am_e0 rfl rfl).trans ?_
  refine (am_cal3 (z := 107) (k := 3) (c := (am_ob (am_rd M x0 0) 2)) rfl rfl rfl rfl rfl rfl rfl rfl).trans (am_g_congr fun h102 => ?_)
  refine am_bind_congr fun r103 => ?_
  show am_Ex d 242 5 [(2, x0), (0, x1), (0, x2), (0, x3)] [(0, r103.1)] r103.2 = _
  refine (am_z_eq rfl).trans (am_if_congr (fun c104 => ?_) (fun c104 => ?_))
  · refine (am_e5 rfl).trans ?_
    show am_Ex d 242 18 [am_N, am_N, am_N, am_N] [] r103.2 = _
    refine (am_e0 rfl rfl).trans ?_
    exact (am_e4i rfl rfl).trans rfl
  · refine (am_e0 rfl rfl).trans ?_
    refine (am_e0 rfl rfl).trans ?_
    refine (am_i_lt rfl).trans (am_if_congr (fun c105 => ?_) (fun c105 => ?_))
    · refine (am_e5 rfl).trans ?_
      show am_Ex d 242 18 [am_N, am_N, am_N, am_N] [] r103.2 = _
      refine (am_e0 rfl rfl).trans ?_
      exact (am_e4i rfl rfl).trans rfl
    · refine (am_e0 rfl rfl).trans ?_
      refine (am_e0 rfl rfl).trans ?_
      refine (am_i_gt rfl).trans (am_if_congr (fun c106 => ?_) (fun c106 => ?_))
      · refine (am_e0 rfl rfl).trans ?_
        refine (am_gf (c := 10) (t := 2) rfl rfl rfl).trans ((am_g_t h101).trans ?_)
        refine (am_e0 rfl rfl).trans ?_
        refine (am_cal3 (z := 25) (k := 2) (c := (am_ob (am_rd r103.2 x0 2) 3)) rfl rfl rfl rfl rfl rfl rfl rfl).trans (am_g_congr fun h107 => ?_)
        refine am_bind_congr fun r108 => ?_
        show am_Ex d 242 16 [(2, x0), (0, x1), (0, x2), (0, x3)] [(0, r108.1)] r108.2 = _
        refine (am_z_eq rfl).trans (am_if_congr (fun c109 => ?_) (fun c109 => ?_))
        · refine (am_e0 rfl rfl).trans ?_
          refine (am_gf (c := 10) (t := 2) rfl rfl rfl).trans ((am_g_t h101).trans ?_)
          refine (am_e0 rfl rfl).trans ?_
          refine (am_gf (c := 10) (t := 2) rfl rfl rfl).trans ((am_g_t h101).trans ?_)
          refine (am_cal3 (z := 134) (k := 2) (c := (am_ob (am_rd r108.2 x0 4) 9)) rfl rfl rfl rfl rfl rfl rfl rfl).trans (am_g_congr fun h110 => ?_)
          refine am_bind_congr fun r111 => ?_
          show am_Ex d 242 25 [(2, x0), (0, x1), (0, x2), (0, x3)] [] r111.2 = _
          refine (am_e0 rfl rfl).trans ?_
          refine (am_gf (c := 10) (t := 2) rfl rfl rfl).trans ((am_g_t h101).trans ?_)
          refine (am_e0 rfl rfl).trans ?_
          refine (am_gf (c := 10) (t := 2) rfl rfl rfl).trans ((am_g_t h101).trans ?_)
          refine (am_e0 rfl rfl).trans ?_
          refine (am_e0 rfl rfl).trans ?_
          refine (am_e0 rfl rfl).trans ?_
          refine (am_cal3 (z := 207) (k := 5) (c := (am_ob (am_rd r111.2 x0 11) 0)) rfl rfl rfl rfl rfl rfl rfl rfl).trans (am_g_congr fun h112 => ?_)
          refine am_bind_congr fun r113 => ?_
          show am_Ex d 242 33 [(2, x0), (0, x1), (0, x2), (0, x3)] [] r113.2 = _
          refine (am_e0 rfl rfl).trans ?_
          refine (am_gf (c := 10) (t := 2) rfl rfl rfl).trans ((am_g_t h101).trans ?_)
          refine (am_e0 rfl rfl).trans ?_
          refine (am_e0 rfl rfl).trans ?_
          refine (am_cal3 (z := 114) (k := 3) (c := (am_ob (am_rd r113.2 x0 2) 3)) rfl rfl rfl rfl rfl rfl rfl rfl).trans (am_g_congr fun h114 => ?_)
          refine am_bind_congr fun r115 => ?_
          show am_Ex d 242 38 [(2, x0), (0, x1), (0, x2), (0, x3)] [(0, r115.1)] r115.2 = _
          exact (am_e4i rfl rfl).trans rfl
        · refine (am_e5 rfl).trans ?_
          show am_Ex d 242 18 [am_N, am_N, am_N, am_N] [] r108.2 = _
          refine (am_e0 rfl rfl).trans ?_
          exact (am_e4i rfl rfl).trans rfl
      · refine (am_e5 rfl).trans ?_
        show am_Ex d 242 18 [am_N, am_N, am_N, am_N] [] r103.2 = _
        refine (am_e0 rfl rfl).trans ?_
        exact (am_e4i rfl rfl).trans rfl
-- 243: UnlearnedHand.of(II)I
set_option maxRecDepth 10000 in
theorem aq_243 (d : Nat) (x0 x1 x2 : Int) (M : am_M) : am_Call d 243 [(2, x0), (0, x1), (0, x2)] M = (am_g (am_ob x0 10) <| am_g (am_ob (am_rd M x0 0) 2) <| (am_Call d 8 [(2, am_rd M x0 0), (0, x1)] M).bind fun r103 => if r103.1 = 0 then (some ((-2), r103.2)) else (if x2 = 0 then (am_g (am_ob (am_rd r103.2 x0 0) 2) <| (am_Call d 112 [(2, am_rd r103.2 x0 0), (0, x1)] r103.2).bind fun r107 => some (r107.1, r107.2)) else if x2 = 1 then (am_g (am_ob (am_rd r103.2 x0 10) 4) <| (am_Call d 209 [(2, am_rd r103.2 x0 10), (2, am_rd r103.2 x0 2), (0, x1)] r103.2).bind fun r110 => some (r110.1, r110.2)) else if x2 = 2 then (am_g (am_ob (am_rd r103.2 x0 2) 3) <| (am_Call d 28 [(2, am_rd r103.2 x0 2), (0, x1)] r103.2).bind fun r113 => some (r113.1, r113.2)) else if x2 = 3 then (am_g (am_ob (am_rd r103.2 x0 2) 3) <| (am_Call d 24 [(2, am_rd r103.2 x0 2), (0, x1)] r103.2).bind fun r116 => some (r116.1, r116.2)) else if x2 = 4 then (am_g (am_ob (am_rd r103.2 x0 2) 3) <| (am_Call d 25 [(2, am_rd r103.2 x0 2), (0, x1)] r103.2).bind fun r119 => if r119.1 = 0 then (some (0, r119.2)) else (some (1, r119.2))) else (some ((-2), r103.2)))) := by
  show am_Ex d 243 0 [(2, x0), (0, x1), (0, x2)] [] M = _
  refine (am_e0 rfl rfl).trans ?_
  refine (am_gf (c := 10) (t := 2) rfl rfl rfl).trans (am_g_congr fun h101 => ?_)
  refine (am_e0 rfl rfl).trans ?_
  refine (am_cal3 (z := 8) (k := 2) (c := (am_ob (am_rd M x0 0) 2)) rfl rfl rfl rfl rfl rfl rfl rfl).trans (am_g_congr fun h102 => ?_)
  refine am_bind_congr fun r103 => ?_
  show am_Ex d 243 4 [(2, x0), (0, x1), (0, x2)] [(0, r103.1)] r103.2 = _
  refine (am_z_ne rfl).trans (am_if_congr (fun c104 => ?_) (fun c104 => ?_))
  · refine (am_e0 rfl rfl).trans ?_
    exact (am_e4i rfl rfl).trans rfl
  · refine (am_e0 rfl rfl).trans ?_
    refine (am_tsw rfl).trans ?_
    refine (am_sw_c).trans (am_if_congr (fun c105 => ?_) (fun c105 => ?_))
    · refine (am_e0 rfl rfl).trans ?_
      refine (am_gf (c := 10) (t := 2) rfl rfl rfl).trans ((am_g_t h101).trans ?_)
      refine (am_e0 rfl rfl).trans ?_
      refine (am_cal3 (z := 112) (k := 2) (c := (am_ob (am_rd r103.2 x0 0) 2)) rfl rfl rfl rfl rfl rfl rfl rfl).trans (am_g_congr fun h106 => ?_)
      refine am_bind_congr fun r107 => ?_
      show am_Ex d 243 13 [(2, x0), (0, x1), (0, x2)] [(0, r107.1)] r107.2 = _
      exact (am_e4i rfl rfl).trans rfl
    refine (am_sw_c).trans (am_if_congr (fun c108 => ?_) (fun c108 => ?_))
    · refine (am_e0 rfl rfl).trans ?_
      refine (am_gf (c := 10) (t := 2) rfl rfl rfl).trans ((am_g_t h101).trans ?_)
      refine (am_e0 rfl rfl).trans ?_
      refine (am_gf (c := 10) (t := 2) rfl rfl rfl).trans ((am_g_t h101).trans ?_)
      refine (am_e0 rfl rfl).trans ?_
      refine (am_cal3 (z := 209) (k := 3) (c := (am_ob (am_rd r103.2 x0 10) 4)) rfl rfl rfl rfl rfl rfl rfl rfl).trans (am_g_congr fun h109 => ?_)
      refine am_bind_congr fun r110 => ?_
      show am_Ex d 243 20 [(2, x0), (0, x1), (0, x2)] [(0, r110.1)] r110.2 = _
      exact (am_e4i rfl rfl).trans rfl
    refine (am_sw_c).trans (am_if_congr (fun c111 => ?_) (fun c111 => ?_))
    · refine (am_e0 rfl rfl).trans ?_
      refine (am_gf (c := 10) (t := 2) rfl rfl rfl).trans ((am_g_t h101).trans ?_)
      refine (am_e0 rfl rfl).trans ?_
      refine (am_cal3 (z := 28) (k := 2) (c := (am_ob (am_rd r103.2 x0 2) 3)) rfl rfl rfl rfl rfl rfl rfl rfl).trans (am_g_congr fun h112 => ?_)
      refine am_bind_congr fun r113 => ?_
      show am_Ex d 243 25 [(2, x0), (0, x1), (0, x2)] [(0, r113.1)] r113.2 = _
      exact (am_e4i rfl rfl).trans rfl
    refine (am_sw_c).trans (am_if_congr (fun c114 => ?_) (fun c114 => ?_))
    · refine (am_e0 rfl rfl).trans ?_
      refine (am_gf (c := 10) (t := 2) rfl rfl rfl).trans ((am_g_t h101).trans ?_)
      refine (am_e0 rfl rfl).trans ?_
      refine (am_cal3 (z := 24) (k := 2) (c := (am_ob (am_rd r103.2 x0 2) 3)) rfl rfl rfl rfl rfl rfl rfl rfl).trans (am_g_congr fun h115 => ?_)
      refine am_bind_congr fun r116 => ?_
      show am_Ex d 243 30 [(2, x0), (0, x1), (0, x2)] [(0, r116.1)] r116.2 = _
      exact (am_e4i rfl rfl).trans rfl
    refine (am_sw_c).trans (am_if_congr (fun c117 => ?_) (fun c117 => ?_))
    · refine (am_e0 rfl rfl).trans ?_
      refine (am_gf (c := 10) (t := 2) rfl rfl rfl).trans ((am_g_t h101).trans ?_)
      refine (am_e0 rfl rfl).trans ?_
      refine (am_cal3 (z := 25) (k := 2) (c := (am_ob (am_rd r103.2 x0 2) 3)) rfl rfl rfl rfl rfl rfl rfl rfl).trans (am_g_congr fun h118 => ?_)
      refine am_bind_congr fun r119 => ?_
      show am_Ex d 243 35 [(2, x0), (0, x1), (0, x2)] [(0, r119.1)] r119.2 = _
      refine (am_z_eq rfl).trans (am_if_congr (fun c120 => ?_) (fun c120 => ?_))
      · refine (am_e0 rfl rfl).trans ?_
        exact (am_e4i rfl rfl).trans rfl
      · refine (am_e0 rfl rfl).trans ?_
        refine (am_e1 rfl rfl).trans ?_
        exact (am_e4i rfl rfl).trans rfl
    refine (am_sw_n).trans ?_
    refine (am_e0 rfl rfl).trans ?_
    exact (am_e4i rfl rfl).trans rfl
