/-! equations of the methods 291 .. 305 -/
-- 291: UnlearnedHand.played(I)I
set_option maxRecDepth 10000 in
theorem aq_291 (d : Nat) (x0 x1 : Int) (M : am_M) : am_Call d 291 [(2, x0), (0, x1)] M = (am_g (am_ob x0 10) <| am_g (am_ob (am_rd M x0 0) 2) <| (am_Call d 10 [(2, am_rd M x0 0), (0, x1)] M).bind fun r103 => if r103.1 = 0 then (some ((-2), r103.2)) else (am_g (am_ia (am_rd r103.2 x0 6)) <| if x1 < am_ln (am_rd r103.2 x0 6) then (am_g (am_ar (am_rd r103.2 x0 6) 24 x1 || (am_ar (am_rd r103.2 x0 6) 25 x1 || am_ar (am_rd r103.2 x0 6) 26 x1)) <| if am_rd r103.2 (am_rd r103.2 x0 6) x1 = 0 then (some ((-2), r103.2)) else (am_let (am_rd r103.2 (am_rd r103.2 x0 6) x1) fun v109 => am_Ex d 291 26 [(2, x0), am_N, (2, v109), (0, 0), am_N] [] r103.2)) else (some ((-2), r103.2)))) := by
  show am_Ex d 291 0 [(2, x0), (0, x1), am_N, am_N, am_N] [] M = _
  refine (am_e0 rfl rfl).trans ?_
  refine (am_gf (c := 10) (t := 2) rfl rfl rfl).trans (am_g_congr fun h101 => ?_)
  refine (am_e0 rfl rfl).trans ?_
  refine (am_cal3 (z := 10) (k := 2) (c := (am_ob (am_rd M x0 0) 2)) rfl rfl rfl rfl rfl rfl rfl rfl).trans (am_g_congr fun h102 => ?_)
  refine am_bind_congr fun r103 => ?_
  show am_Ex d 291 4 [(2, x0), (0, x1), am_N, am_N, am_N] [(0, r103.1)] r103.2 = _
  refine (am_z_eq rfl).trans (am_if_congr (fun c104 => ?_) (fun c104 => ?_))
  · refine (am_e5 rfl).trans ?_
    show am_Ex d 291 16 [am_N, am_N, am_N, am_N, am_N] [] r103.2 = _
    refine (am_e0 rfl rfl).trans ?_
    exact (am_e4i rfl rfl).trans rfl
  · refine (am_e0 rfl rfl).trans ?_
    refine (am_e0 rfl rfl).trans ?_
    refine (am_gf (c := 10) (t := 2) rfl rfl rfl).trans ((am_g_t h101).trans ?_)
    refine (am_aln rfl).trans (am_g_congr fun h105 => ?_)
    refine (am_i_ge rfl).trans (am_if_congr (fun c106 => ?_) (fun c106 => ?_))
    · refine (am_e0 rfl rfl).trans ?_
      refine (am_gf (c := 10) (t := 2) rfl rfl rfl).trans ((am_g_t h101).trans ?_)
      refine (am_e0 rfl rfl).trans ?_
      refine (am_aal rfl).trans (am_g_congr fun h107 => ?_)
      refine (am_nnul rfl).trans (am_if_congr (fun c108 => ?_) (fun c108 => ?_))
      · refine (am_e5 rfl).trans ?_
        show am_Ex d 291 16 [am_N, am_N, am_N, am_N, am_N] [] r103.2 = _
        refine (am_e0 rfl rfl).trans ?_
        exact (am_e4i rfl rfl).trans rfl
      · refine (am_e0 rfl rfl).trans ?_
        refine (am_gf (c := 10) (t := 2) rfl rfl rfl).trans ((am_g_t h101).trans ?_)
        refine (am_e0 rfl rfl).trans ?_
        refine (am_aal rfl).trans ((am_g_t h107).trans ?_)
        refine (am_e0 rfl rfl).trans ?_
        refine am_lets (L := fun v109 => [(2, x0), (0, x1), (2, v109), am_N, am_N]) (fun v109 => ?_)
        refine (am_e0 rfl rfl).trans ?_
        refine (am_e0 rfl rfl).trans ?_
        exact (am_e5 rfl).trans rfl
    · refine (am_e5 rfl).trans ?_
      show am_Ex d 291 16 [am_N, am_N, am_N, am_N, am_N] [] r103.2 = _
      refine (am_e0 rfl rfl).trans ?_
      exact (am_e4i rfl rfl).trans rfl
set_option maxRecDepth 10000 in
theorem aq_291_26 (d : Nat) (x0 x2 x3 : Int) (M : am_M) : am_Ex d 291 26 [(2, x0), am_N, (2, x2), (0, x3), am_N] [] M = (am_g (am_ob x2 8) <| if x3 < am_rd M x2 6 then ((am_Call d 57 [(2, x2), (0, x3)] M).bind fun r103 => if r103.1 = 11 then (if (1 : Int) = 0 then (am_g (am_ob x0 10) <| (am_Call d 278 [(2, x0), (2, x2), (0, x3)] r103.2).bind fun r107 => if r107.1 = 0 then (some (x3, r107.2)) else (am_Ex d 291 58 [(2, x0), am_N, (2, x2), (0, x3), am_N] [] r107.2)) else ((am_Call d 58 [(2, x2), (0, x3), (0, 0)] r103.2).bind fun r109 => am_g (am_ob x0 10) <| (am_Call d 277 [(2, x0), (0, r109.1)] r109.2).bind fun r111 => if r111.1 = 0 then (some (x3, r111.2)) else (am_Ex d 291 58 [(2, x0), am_N, (2, x2), (0, x3), am_N] [] r111.2))) else (if (0 : Int) = 0 then (am_g (am_ob x0 10) <| (am_Call d 278 [(2, x0), (2, x2), (0, x3)] r103.2).bind fun r115 => if r115.1 = 0 then (some (x3, r115.2)) else (am_Ex d 291 58 [(2, x0), am_N, (2, x2), (0, x3), am_N] [] r115.2)) else ((am_Call d 58 [(2, x2), (0, x3), (0, 0)] r103.2).bind fun r117 => am_g (am_ob x0 10) <| (am_Call d 277 [(2, x0), (0, r117.1)] r117.2).bind fun r119 => if r119.1 = 0 then (some (x3, r119.2)) else (am_Ex d 291 58 [(2, x0), am_N, (2, x2), (0, x3), am_N] [] r119.2)))) else (some ((-1), M))) := by
  refine (am_e0 rfl rfl).trans ?_
  refine (am_e0 rfl rfl).trans ?_
  refine (am_gf (c := 8) (t := 0) rfl rfl rfl).trans (am_g_congr fun h101 => ?_)
  refine (am_i_ge rfl).trans (am_if_congr (fun c102 => ?_) (fun c102 => ?_))
  · refine (am_e0 rfl rfl).trans ?_
    refine (am_e0 rfl rfl).trans ?_
    refine (am_cal3 (z := 57) (k := 2) (c := (am_ob x2 8)) rfl rfl rfl rfl rfl rfl rfl rfl).trans ((am_g_t h101).trans ?_)
    refine am_bind_congr fun r103 => ?_
    show am_Ex d 291 33 [(2, x0), am_N, (2, x2), (0, x3), am_N] [(0, r103.1)] r103.2 = _
    refine (am_e0 rfl rfl).trans ?_
    refine (am_i_ne rfl).trans (am_if_congr (fun c104 => ?_) (fun c104 => ?_))
    · refine (am_e0 rfl rfl).trans ?_
      refine (am_e1 rfl rfl).trans ?_
      refine (am_e0 rfl rfl).trans ?_
      refine (am_e0 rfl rfl).trans ?_
      refine (am_z_eq rfl).trans (am_if_congr (fun c105 => ?_) (fun c105 => ?_))
      · refine (am_e0 rfl rfl).trans ?_
        refine (am_e0 rfl rfl).trans ?_
        refine (am_e0 rfl rfl).trans ?_
        refine (am_cal3 (z := 278) (k := 3) (c := (am_ob x0 10)) rfl rfl rfl rfl rfl rfl rfl rfl).trans (am_g_congr fun h106 => ?_)
        refine am_bind_congr fun r107 => ?_
        show am_Ex d 291 53 [(2, x0), am_N, (2, x2), (0, x3), (0, 1)] [(0, r107.1)] r107.2 = _
        refine (am_z_ne rfl).trans (am_if_congr (fun c108 => ?_) (fun c108 => ?_))
        · refine (am_e5 rfl).trans ?_
          show am_Ex d 291 55 [am_N, am_N, am_N, (0, x3), am_N] [] r107.2 = _
          refine (am_e0 rfl rfl).trans ?_
          exact (am_e4i rfl rfl).trans rfl
        · exact (am_e5 rfl).trans rfl
      · refine (am_e0 rfl rfl).trans ?_
        refine (am_e0 rfl rfl).trans ?_
        refine (am_e0 rfl rfl).trans ?_
        refine (am_e0 rfl rfl).trans ?_
        refine (am_cal3 (z := 58) (k := 3) (c := (am_ob x2 8)) rfl rfl rfl rfl rfl rfl rfl rfl).trans ((am_g_t h101).trans ?_)
        refine am_bind_congr fun r109 => ?_
        show am_Ex d 291 46 [(2, x0), am_N, (2, x2), (0, x3), (0, 1)] [(0, r109.1), (2, x0)] r109.2 = _
        refine (am_cal3 (z := 277) (k := 2) (c := (am_ob x0 10)) rfl rfl rfl rfl rfl rfl rfl rfl).trans (am_g_congr fun h110 => ?_)
        refine am_bind_congr fun r111 => ?_
        show am_Ex d 291 47 [(2, x0), am_N, (2, x2), (0, x3), (0, 1)] [(0, r111.1)] r111.2 = _
        refine (am_z_ne rfl).trans (am_if_congr (fun c112 => ?_) (fun c112 => ?_))
        · refine (am_e1 rfl rfl).trans ?_
          refine (am_e5 rfl).trans ?_
          show am_Ex d 291 55 [am_N, am_N, am_N, (0, x3), am_N] [] r111.2 = _
          refine (am_e0 rfl rfl).trans ?_
          exact (am_e4i rfl rfl).trans rfl
        · exact (am_e5 rfl).trans rfl
    · refine (am_e0 rfl rfl).trans ?_
      refine (am_e0 rfl rfl).trans ?_
      refine (am_e0 rfl rfl).trans ?_
      refine (am_z_eq rfl).trans (am_if_congr (fun c113 => ?_) (fun c113 => ?_))
      · refine (am_e0 rfl rfl).trans ?_
        refine (am_e0 rfl rfl).trans ?_
        refine (am_e0 rfl rfl).trans ?_
        refine (am_cal3 (z := 278) (k := 3) (c := (am_ob x0 10)) rfl rfl rfl rfl rfl rfl rfl rfl).trans (am_g_congr fun h114 => ?_)
        refine am_bind_congr fun r115 => ?_
        show am_Ex d 291 53 [(2, x0), am_N, (2, x2), (0, x3), (0, 0)] [(0, r115.1)] r115.2 = _
        refine (am_z_ne rfl).trans (am_if_congr (fun c116 => ?_) (fun c116 => ?_))
        · refine (am_e5 rfl).trans ?_
          show am_Ex d 291 55 [am_N, am_N, am_N, (0, x3), am_N] [] r115.2 = _
          refine (am_e0 rfl rfl).trans ?_
          exact (am_e4i rfl rfl).trans rfl
        · exact (am_e5 rfl).trans rfl
      · refine (am_e0 rfl rfl).trans ?_
        refine (am_e0 rfl rfl).trans ?_
        refine (am_e0 rfl rfl).trans ?_
        refine (am_e0 rfl rfl).trans ?_
        refine (am_cal3 (z := 58) (k := 3) (c := (am_ob x2 8)) rfl rfl rfl rfl rfl rfl rfl rfl).trans ((am_g_t h101).trans ?_)
        refine am_bind_congr fun r117 => ?_
        show am_Ex d 291 46 [(2, x0), am_N, (2, x2), (0, x3), (0, 0)] [(0, r117.1), (2, x0)] r117.2 = _
        refine (am_cal3 (z := 277) (k := 2) (c := (am_ob x0 10)) rfl rfl rfl rfl rfl rfl rfl rfl).trans (am_g_congr fun h118 => ?_)
        refine am_bind_congr fun r119 => ?_
        show am_Ex d 291 47 [(2, x0), am_N, (2, x2), (0, x3), (0, 0)] [(0, r119.1)] r119.2 = _
        refine (am_z_ne rfl).trans (am_if_congr (fun c120 => ?_) (fun c120 => ?_))
        · refine (am_e1 rfl rfl).trans ?_
          refine (am_e5 rfl).trans ?_
          show am_Ex d 291 55 [am_N, am_N, am_N, (0, x3), am_N] [] r119.2 = _
          refine (am_e0 rfl rfl).trans ?_
          exact (am_e4i rfl rfl).trans rfl
        · exact (am_e5 rfl).trans rfl
  · refine (am_e0 rfl rfl).trans ?_
    exact (am_e4i rfl rfl).trans rfl
set_option maxRecDepth 10000 in
theorem aq_291_58 (d : Nat) (x0 x2 x3 : Int) (M : am_M) : am_Ex d 291 58 [(2, x0), am_N, (2, x2), (0, x3), am_N] [] M = (am_let (am_w32 (x3 + 1)) fun v101 => am_Ex d 291 26 [(2, x0), am_N, (2, x2), (0, v101), am_N] [] M) := by
  refine (am_e0 rfl rfl).trans ?_
  refine am_lets (L := fun v101 => [(2, x0), am_N, (2, x2), (0, v101), am_N]) (fun v101 => ?_)
  refine (am_e1 rfl rfl).trans ?_
  exact (am_e5 rfl).trans rfl
-- 292: UnlearnedHand.foretold(II)I
set_option maxRecDepth 10000 in
theorem aq_292 (d : Nat) (x0 x1 x2 : Int) (M : am_M) : am_Call d 292 [(2, x0), (0, x1), (0, x2)] M = (if x1 < 1 then (some ((-1), M)) else (if x1 ≤ 60 then (am_g (am_ob x0 10) <| am_g (am_ob (am_rd M x0 0) 2) <| (am_Call d 8 [(2, am_rd M x0 0), (0, x2)] M).bind fun r105 => if r105.1 = 0 then (some ((-1), r105.2)) else (am_g (am_ob (am_rd r105.2 x0 12) 1) <| (am_Call d 273 [(2, am_rd r105.2 x0 12), (0, x1), (0, x2)] r105.2).bind fun r108 => some (r108.1, r108.2))) else (some ((-1), M)))) := by
  show am_Ex d 292 0 [(2, x0), (0, x1), (0, x2)] [] M = _
  refine (am_e0 rfl rfl).trans ?_
  refine (am_e0 rfl rfl).trans ?_
  refine (am_i_lt rfl).trans (am_if_congr (fun c101 => ?_) (fun c101 => ?_))
  · refine (am_e5 rfl).trans ?_
    show am_Ex d 292 12 [am_N, am_N, am_N] [] M = _
    refine (am_e0 rfl rfl).trans ?_
    exact (am_e4i rfl rfl).trans rfl
  · refine (am_e0 rfl rfl).trans ?_
    refine (am_e0 rfl rfl).trans ?_
    refine (am_i_gt rfl).trans (am_if_congr (fun c102 => ?_) (fun c102 => ?_))
    · refine (am_e0 rfl rfl).trans ?_
      refine (am_gf (c := 10) (t := 2) rfl rfl rfl).trans (am_g_congr fun h103 => ?_)
      refine (am_e0 rfl rfl).trans ?_
      refine (am_cal3 (z := 8) (k := 2) (c := (am_ob (am_rd M x0 0) 2)) rfl rfl rfl rfl rfl rfl rfl rfl).trans (am_g_congr fun h104 => ?_)
      refine am_bind_congr fun r105 => ?_
      show am_Ex d 292 10 [(2, x0), (0, x1), (0, x2)] [(0, r105.1)] r105.2 = _
      refine (am_z_ne rfl).trans (am_if_congr (fun c106 => ?_) (fun c106 => ?_))
      · refine (am_e5 rfl).trans ?_
        show am_Ex d 292 12 [am_N, am_N, am_N] [] r105.2 = _
        refine (am_e0 rfl rfl).trans ?_
        exact (am_e4i rfl rfl).trans rfl
      · refine (am_e0 rfl rfl).trans ?_
        refine (am_gf (c := 10) (t := 2) rfl rfl rfl).trans ((am_g_t h103).trans ?_)
        refine (am_e0 rfl rfl).trans ?_
        refine (am_e0 rfl rfl).trans ?_
        refine (am_cal3 (z := 273) (k := 3) (c := (am_ob (am_rd r105.2 x0 12) 1)) rfl rfl rfl rfl rfl rfl rfl rfl).trans (am_g_congr fun h107 => ?_)
        refine am_bind_congr fun r108 => ?_
        show am_Ex d 292 19 [(2, x0), (0, x1), (0, x2)] [(0, r108.1)] r108.2 = _
        exact (am_e4i rfl rfl).trans rfl
    · refine (am_e5 rfl).trans ?_
      show am_Ex d 292 12 [am_N, am_N, am_N] [] M = _
      refine (am_e0 rfl rfl).trans ?_
      exact (am_e4i rfl rfl).trans rfl
-- 293: UnlearnedHand.free(II)I
set_option maxRecDepth 10000 in
theorem aq_293 (d : Nat) (x0 x1 x2 : Int) (M : am_M) : am_Call d 293 [(2, x0), (0, x1), (0, x2)] M = (if x1 < 1 then (some ((-1), M)) else (if x1 ≤ 60 then (am_g (am_ob x0 10) <| am_g (am_ob (am_rd M x0 0) 2) <| (am_Call d 8 [(2, am_rd M x0 0), (0, x2)] M).bind fun r105 => if r105.1 = 0 then (some ((-1), r105.2)) else (am_g (am_ob (am_rd r105.2 x0 12) 1) <| (am_Call d 274 [(2, am_rd r105.2 x0 12), (0, x1), (0, x2)] r105.2).bind fun r108 => some (r108.1, r108.2))) else (some ((-1), M)))) := by
  show am_Ex d 293 0 [(2, x0), (0, x1), (0, x2)] [] M = _
  refine (am_e0 rfl rfl).trans ?_
  refine (am_e0 rfl rfl).trans ?_
  refine (am_i_lt rfl).trans (am_if_congr (fun c101 => ?_) (fun c101 => ?_))
  · refine (am_e5 rfl).trans ?_
    show am_Ex d 293 12 [am_N, am_N, am_N] [] M = _
    refine (am_e0 rfl rfl).trans ?_
    exact (am_e4i rfl rfl).trans rfl
  · refine (am_e0 rfl rfl).trans ?_
    refine (am_e0 rfl rfl).trans ?_
    refine (am_i_gt rfl).trans (am_if_congr (fun c102 => ?_) (fun c102 => ?_))
    · refine (am_e0 rfl rfl).trans ?_
      refine (am_gf (c := 10) (t := 2) rfl rfl rfl).trans (am_g_congr fun h103 => ?_)
      refine (am_e0 rfl rfl).trans ?_
      refine (am_cal3 (z := 8) (k := 2) (c := (am_ob (am_rd M x0 0) 2)) rfl rfl rfl rfl rfl rfl rfl rfl).trans (am_g_congr fun h104 => ?_)
      refine am_bind_congr fun r105 => ?_
      show am_Ex d 293 10 [(2, x0), (0, x1), (0, x2)] [(0, r105.1)] r105.2 = _
      refine (am_z_ne rfl).trans (am_if_congr (fun c106 => ?_) (fun c106 => ?_))
      · refine (am_e5 rfl).trans ?_
        show am_Ex d 293 12 [am_N, am_N, am_N] [] r105.2 = _
        refine (am_e0 rfl rfl).trans ?_
        exact (am_e4i rfl rfl).trans rfl
      · refine (am_e0 rfl rfl).trans ?_
        refine (am_gf (c := 10) (t := 2) rfl rfl rfl).trans ((am_g_t h103).trans ?_)
        refine (am_e0 rfl rfl).trans ?_
        refine (am_e0 rfl rfl).trans ?_
        refine (am_cal3 (z := 274) (k := 3) (c := (am_ob (am_rd r105.2 x0 12) 1)) rfl rfl rfl rfl rfl rfl rfl rfl).trans (am_g_congr fun h107 => ?_)
        refine am_bind_congr fun r108 => ?_
        show am_Ex d 293 19 [(2, x0), (0, x1), (0, x2)] [(0, r108.1)] r108.2 = _
        exact (am_e4i rfl rfl).trans rfl
    · refine (am_e5 rfl).trans ?_
      show am_Ex d 293 12 [am_N, am_N, am_N] [] M = _
      refine (am_e0 rfl rfl).trans ?_
      exact (am_e4i rfl rfl).trans rfl
-- 294: UnlearnedHand.lasts(II)I
set_option maxRecDepth 10000 in
theorem aq_294 (d : Nat) (x0 x1 x2 : Int) (M : am_M) : am_Call d 294 [(2, x0), (0, x1), (0, x2)] M = (am_g (am_ob x0 10) <| am_g (am_ob (am_rd M x0 0) 2) <| (am_Call d 107 [(2, am_rd M x0 0), (0, x1), (0, x2)] M).bind fun r103 => if r103.1 = 0 then (some ((-1), r103.2)) else (am_g (am_ob (am_rd r103.2 x0 12) 1) <| (am_Call d 275 [(2, am_rd r103.2 x0 12), (0, x1), (0, x2)] r103.2).bind fun r106 => some (r106.1, r106.2))) := by
  show am_Ex d 294 0 [(2, x0), (0, x1), (0, x2)] [] M = _
  refine (am_e0 rfl rfl).trans ?_
  refine (am_gf (c := 10) (t := 2) rfl rfl rfl).trans (am_g_congr fun h101 => ?_)
  refine (am_e0 rfl rfl).trans ?_
  refine (am_e0 rfl rfl).trans ?_
  refine (am_cal3 (z := 107) (k := 3) (c := (am_ob (am_rd M x0 0) 2)) rfl rfl rfl rfl rfl rfl rfl rfl).trans (am_g_congr fun h102 => ?_)
  refine am_bind_congr fun r103 => ?_
  show am_Ex d 294 5 [(2, x0), (0, x1), (0, x2)] [(0, r103.1)] r103.2 = _
  refine (am_z_eq rfl).trans (am_if_congr (fun c104 => ?_) (fun c104 => ?_))
  · refine (am_e0 rfl rfl).trans ?_
    exact (am_e4i rfl rfl).trans rfl
  · refine (am_e0 rfl rfl).trans ?_
    refine (am_gf (c := 10) (t := 2) rfl rfl rfl).trans ((am_g_t h101).trans ?_)
    refine (am_e0 rfl rfl).trans ?_
    refine (am_e0 rfl rfl).trans ?_
    refine (am_cal3 (z := 275) (k := 3) (c := (am_ob (am_rd r103.2 x0 12) 1)) rfl rfl rfl rfl rfl rfl rfl rfl).trans (am_g_congr fun h105 => ?_)
    refine am_bind_congr fun r106 => ?_
    show am_Ex d 294 11 [(2, x0), (0, x1), (0, x2)] [(0, r106.1)] r106.2 = _
    refine (am_e1 rfl rfl).trans ?_
    exact (am_e4i rfl rfl).trans rfl
-- 295: UnlearnedHandModel.text()I
set_option maxRecDepth 10000 in
theorem aq_295 (d : Nat) (x0 : Int) (M : am_M) : am_Call d 295 [(2, x0)] M = (am_g (am_ob x0 11) <| am_g (am_ar (am_rd M x0 0) 20 3) <| if am_rd M (am_rd M x0 0) 3 = 4 then (some ((-1), M)) else (am_let (am_wr M x0 14 (am_rd M x0 3)) fun M104 => am_let (am_wr M104 x0 3 0) fun M105 => am_let (am_wr M105 x0 15 0) fun M106 => am_let (am_wr M106 x0 19 0) fun M107 => am_let (am_wr M107 x0 20 (-1)) fun M108 => am_let (am_wr M108 x0 21 0) fun M109 => am_let (am_wr M109 x0 22 0) fun M110 => am_let (am_wr M110 x0 25 0) fun M111 => am_let (am_wr M111 x0 28 4) fun M112 => am_let (am_wr M112 x0 29 0) fun M113 => am_let (am_wr M113 x0 36 0) fun M114 => (am_Call d 194 [(2, x0)] M114).bind fun r115 => am_Ex d 295 45 [(2, x0), am_N, am_N] [] r115.2)) := by
  show am_Ex d 295 0 [(2, x0), am_N, am_N] [] M = _
  refine (am_e0 rfl rfl).trans ?_
  refine (am_gf (c := 11) (t := 2) rfl rfl rfl).trans (am_g_congr fun h101 => ?_)
  refine (am_e0 rfl rfl).trans ?_
  refine (am_ial rfl).trans (am_g_congr fun h102 => ?_)
  refine (am_e0 rfl rfl).trans ?_
  refine (am_i_ne rfl).trans (am_if_congr (fun c103 => ?_) (fun c103 => ?_))
  · refine (am_e0 rfl rfl).trans ?_
    exact (am_e4i rfl rfl).trans rfl
  · refine (am_e0 rfl rfl).trans ?_
    refine (am_e0 rfl rfl).trans ?_
    refine (am_gf (c := 11) (t := 0) rfl rfl rfl).trans ((am_g_t h101).trans ?_)
    refine (am_pf (c := 11) rfl rfl rfl).trans ((am_g_t h101).trans ?_)
    refine am_letm (fun M104 => ?_)
    refine (am_e0 rfl rfl).trans ?_
    refine (am_e0 rfl rfl).trans ?_
    refine (am_pf (c := 11) rfl rfl rfl).trans ((am_g_t h101).trans ?_)
    refine am_letm (fun M105 => ?_)
    refine (am_e0 rfl rfl).trans ?_
    refine (am_e0 rfl rfl).trans ?_
    refine (am_pf (c := 11) rfl rfl rfl).trans ((am_g_t h101).trans ?_)
    refine am_letm (fun M106 => ?_)
    refine (am_e0 rfl rfl).trans ?_
    refine (am_e0 rfl rfl).trans ?_
    refine (am_pf (c := 11) rfl rfl rfl).trans ((am_g_t h101).trans ?_)
    refine am_letm (fun M107 => ?_)
    refine (am_e0 rfl rfl).trans ?_
    refine (am_e0 rfl rfl).trans ?_
    refine (am_pf (c := 11) rfl rfl rfl).trans ((am_g_t h101).trans ?_)
    refine am_letm (fun M108 => ?_)
    refine (am_e0 rfl rfl).trans ?_
    refine (am_e0 rfl rfl).trans ?_
    refine (am_pf (c := 11) rfl rfl rfl).trans ((am_g_t h101).trans ?_)
    refine am_letm (fun M109 => ?_)
    refine (am_e0 rfl rfl).trans ?_
    refine (am_e0 rfl rfl).trans ?_
    refine (am_pf (c := 11) rfl rfl rfl).trans ((am_g_t h101).trans ?_)
    refine am_letm (fun M110 => ?_)
    refine (am_e0 rfl rfl).trans ?_
    refine (am_e0 rfl rfl).trans ?_
    refine (am_pf (c := 11) rfl rfl rfl).trans ((am_g_t h101).trans ?_)
    refine am_letm (fun M111 => ?_)
    refine (am_e0 rfl rfl).trans ?_
    refine (am_e0 rfl rfl).trans ?_
    refine (am_pf (c := 11) rfl rfl rfl).trans ((am_g_t h101).trans ?_)
    refine am_letm (fun M112 => ?_)
    refine (am_e0 rfl rfl).trans ?_
    refine (am_e0 rfl rfl).trans ?_
    refine (am_pf (c := 11) rfl rfl rfl).trans ((am_g_t h101).trans ?_)
    refine am_letm (fun M113 => ?_)
    refine (am_e0 rfl rfl).trans ?_
    refine (am_e0 rfl rfl).trans ?_
    refine (am_pf (c := 11) rfl rfl rfl).trans ((am_g_t h101).trans ?_)
    refine am_letm (fun M114 => ?_)
    refine (am_e0 rfl rfl).trans ?_
    refine (am_cal3 (z := 194) (k := 1) (c := (am_ob x0 11)) rfl rfl rfl rfl rfl rfl rfl rfl).trans ((am_g_t h101).trans ?_)
    refine am_bind_congr fun r115 => ?_
    show am_Ex d 295 44 [(2, x0), am_N, am_N] [] r115.2 = _
    exact (am_e5 rfl).trans rfl
set_option maxRecDepth 10000 in
theorem aq_295_45 (d : Nat) (x0 : Int) (M : am_M) : am_Ex d 295 45 [(2, x0), am_N, am_N] [] M = (am_g (am_ob x0 11) <| if am_rd M x0 19 = 0 then (if am_rd M x0 28 = 4 then (if am_rd M x0 17 = 0 then (am_Ex d 295 75 [(2, x0), am_N, am_N] [] M) else (am_Ex d 295 56 [(2, x0), am_N, am_N] [] M)) else (am_Ex d 295 56 [(2, x0), am_N, am_N] [] M)) else (am_Ex d 295 75 [(2, x0), am_N, am_N] [] M)) := by
  refine (am_e0 rfl rfl).trans ?_
  refine (am_gf (c := 11) (t := 0) rfl rfl rfl).trans (am_g_congr fun h101 => ?_)
  refine (am_z_ne rfl).trans (am_if_congr (fun c102 => ?_) (fun c102 => ?_))
  · refine (am_e0 rfl rfl).trans ?_
    refine (am_gf (c := 11) (t := 0) rfl rfl rfl).trans ((am_g_t h101).trans ?_)
    refine (am_e0 rfl rfl).trans ?_
    refine (am_i_ne rfl).trans (am_if_congr (fun c103 => ?_) (fun c103 => ?_))
    · refine (am_e0 rfl rfl).trans ?_
      refine (am_gf (c := 11) (t := 0) rfl rfl rfl).trans ((am_g_t h101).trans ?_)
      refine (am_z_eq rfl).trans (am_if_congr (fun c104 => ?_) (fun c104 => ?_))
      · exact (am_e5 rfl).trans rfl
      · exact (am_e5 rfl).trans rfl
    · exact (am_e5 rfl).trans rfl
  · exact (am_e5 rfl).trans rfl
set_option maxRecDepth 10000 in
theorem aq_295_75 (d : Nat) (x0 : Int) (M : am_M) : am_Ex d 295 75 [(2, x0), am_N, am_N] [] M = (am_g (am_ob x0 11) <| am_let (am_wr M x0 4 (am_rd M x0 19)) fun M102 => am_let (am_wr M102 x0 5 (am_rd M102 x0 20)) fun M103 => if am_rd M103 x0 19 ≤ 0 then (am_g (am_ar (am_rd M103 x0 0) 20 3) <| am_let (am_rd M103 (am_rd M103 x0 0) 3) fun v106 => am_g (am_ar (am_rd M103 x0 6) 20 v106) <| am_let (am_wr M103 (am_rd M103 x0 6) v106 (am_rd M103 x0 29)) fun M108 => am_Ex d 295 102 [(2, x0), (0, v106), (0, 0)] [] M108) else (some ((-1), M103))) := by
  refine (am_e0 rfl rfl).trans ?_
  refine (am_e0 rfl rfl).trans ?_
  refine (am_gf (c := 11) (t := 0) rfl rfl rfl).trans (am_g_congr fun h101 => ?_)
  refine (am_pf (c := 11) rfl rfl rfl).trans ((am_g_t h101).trans ?_)
  refine am_letm (fun M102 => ?_)
  refine (am_e0 rfl rfl).trans ?_
  refine (am_e0 rfl rfl).trans ?_
  refine (am_gf (c := 11) (t := 0) rfl rfl rfl).trans ((am_g_t h101).trans ?_)
  refine (am_pf (c := 11) rfl rfl rfl).trans ((am_g_t h101).trans ?_)
  refine am_letm (fun M103 => ?_)
  refine (am_e0 rfl rfl).trans ?_
  refine (am_gf (c := 11) (t := 0) rfl rfl rfl).trans ((am_g_t h101).trans ?_)
  refine (am_z_le rfl).trans (am_if_congr (fun c104 => ?_) (fun c104 => ?_))
  · refine (am_e0 rfl rfl).trans ?_
    refine (am_gf (c := 11) (t := 2) rfl rfl rfl).trans ((am_g_t h101).trans ?_)
    refine (am_e0 rfl rfl).trans ?_
    refine (am_ial rfl).trans (am_g_congr fun h105 => ?_)
    refine (am_e0 rfl rfl).trans ?_
    refine am_lets (L := fun v106 => [(2, x0), (0, v106), am_N]) (fun v106 => ?_)
    refine (am_e0 rfl rfl).trans ?_
    refine (am_gf (c := 11) (t := 2) rfl rfl rfl).trans ((am_g_t h101).trans ?_)
    refine (am_e0 rfl rfl).trans ?_
    refine (am_e0 rfl rfl).trans ?_
    refine (am_gf (c := 11) (t := 0) rfl rfl rfl).trans ((am_g_t h101).trans ?_)
    refine (am_ias rfl).trans (am_g_congr fun h107 => ?_)
    refine am_letm (fun M108 => ?_)
    refine (am_e0 rfl rfl).trans ?_
    refine (am_e0 rfl rfl).trans ?_
    exact (am_e5 rfl).trans rfl
  · refine (am_e0 rfl rfl).trans ?_
    exact (am_e4i rfl rfl).trans rfl
set_option maxRecDepth 10000 in
theorem aq_295_56 (d : Nat) (x0 : Int) (M : am_M) : am_Ex d 295 56 [(2, x0), am_N, am_N] [] M = (am_g (am_ob x0 11) <| if am_rd M x0 28 = 0 then ((am_Call d 246 [(2, x0)] M).bind fun r103 => am_Ex d 295 45 [(2, x0), am_N, am_N] [] r103.2) else if am_rd M x0 28 = 1 then ((am_Call d 247 [(2, x0)] M).bind fun r105 => am_Ex d 295 45 [(2, x0), am_N, am_N] [] r105.2) else if am_rd M x0 28 = 2 then ((am_Call d 248 [(2, x0)] M).bind fun r107 => am_Ex d 295 45 [(2, x0), am_N, am_N] [] r107.2) else if am_rd M x0 28 = 3 then ((am_Call d 249 [(2, x0)] M).bind fun r109 => am_Ex d 295 45 [(2, x0), am_N, am_N] [] r109.2) else ((am_Call d 281 [(2, x0)] M).bind fun r110 => am_Ex d 295 45 [(2, x0), am_N, am_N] [] r110.2)) := by
  refine (am_e0 rfl rfl).trans ?_
  refine (am_gf (c := 11) (t := 0) rfl rfl rfl).trans (am_g_congr fun h101 => ?_)
  refine (am_tsw rfl).trans ?_
  refine (am_sw_c).trans (am_if_congr (fun c102 => ?_) (fun c102 => ?_))
  · refine (am_e0 rfl rfl).trans ?_
    refine (am_cal3 (z := 246) (k := 1) (c := (am_ob x0 11)) rfl rfl rfl rfl rfl rfl rfl rfl).trans ((am_g_t h101).trans ?_)
    refine am_bind_congr fun r103 => ?_
    show am_Ex d 295 61 [(2, x0), am_N, am_N] [] r103.2 = _
    refine (am_e1 rfl rfl).trans ?_
    exact (am_e5 rfl).trans rfl
  refine (am_sw_c).trans (am_if_congr (fun c104 => ?_) (fun c104 => ?_))
  · refine (am_e0 rfl rfl).trans ?_
    refine (am_cal3 (z := 247) (k := 1) (c := (am_ob x0 11)) rfl rfl rfl rfl rfl rfl rfl rfl).trans ((am_g_t h101).trans ?_)
    refine am_bind_congr fun r105 => ?_
    show am_Ex d 295 64 [(2, x0), am_N, am_N] [] r105.2 = _
    refine (am_e1 rfl rfl).trans ?_
    exact (am_e5 rfl).trans rfl
  refine (am_sw_c).trans (am_if_congr (fun c106 => ?_) (fun c106 => ?_))
  · refine (am_e0 rfl rfl).trans ?_
    refine (am_cal3 (z := 248) (k := 1) (c := (am_ob x0 11)) rfl rfl rfl rfl rfl rfl rfl rfl).trans ((am_g_t h101).trans ?_)
    refine am_bind_congr fun r107 => ?_
    show am_Ex d 295 67 [(2, x0), am_N, am_N] [] r107.2 = _
    refine (am_e1 rfl rfl).trans ?_
    exact (am_e5 rfl).trans rfl
  refine (am_sw_c).trans (am_if_congr (fun c108 => ?_) (fun c108 => ?_))
  · refine (am_e0 rfl rfl).trans ?_
    refine (am_cal3 (z := 249) (k := 1) (c := (am_ob x0 11)) rfl rfl rfl rfl rfl rfl rfl rfl).trans ((am_g_t h101).trans ?_)
    refine am_bind_congr fun r109 => ?_
    show am_Ex d 295 70 [(2, x0), am_N, am_N] [] r109.2 = _
    refine (am_e1 rfl rfl).trans ?_
    exact (am_e5 rfl).trans rfl
  refine (am_sw_n).trans ?_
  refine (am_e0 rfl rfl).trans ?_
  refine (am_cal3 (z := 281) (k := 1) (c := (am_ob x0 11)) rfl rfl rfl rfl rfl rfl rfl rfl).trans ((am_g_t h101).trans ?_)
  refine am_bind_congr fun r110 => ?_
  show am_Ex d 295 73 [(2, x0), am_N, am_N] [] r110.2 = _
  refine (am_e1 rfl rfl).trans ?_
  exact (am_e5 rfl).trans rfl
set_option maxRecDepth 10000 in
theorem aq_295_102 (d : Nat) (x0 x1 x2 : Int) (M : am_M) : am_Ex d 295 102 [(2, x0), (0, x1), (0, x2)] [] M = (am_g (am_ob x0 11) <| if x2 < am_rd M x0 29 then (am_g (am_ar (am_rd M x0 31) 20 x2) <| am_g (am_ar (am_rd M x0 7) 20 (am_w32 ((am_w32 (24 * x1)) + x2))) <| am_let (am_wr M (am_rd M x0 7) (am_w32 ((am_w32 (24 * x1)) + x2)) (am_rd M (am_rd M x0 31) x2)) fun M105 => am_g (am_ar (am_rd M105 x0 32) 20 x2) <| am_g (am_ar (am_rd M105 x0 8) 20 (am_w32 ((am_w32 (24 * x1)) + x2))) <| am_let (am_wr M105 (am_rd M105 x0 8) (am_w32 ((am_w32 (24 * x1)) + x2)) (am_w32 ((am_w32 (400 * x1)) + (am_rd M105 (am_rd M105 x0 32) x2)))) fun M108 => am_g (am_ar (am_rd M108 x0 33) 20 x2) <| am_g (am_ar (am_rd M108 x0 9) 20 (am_w32 ((am_w32 (24 * x1)) + x2))) <| am_let (am_wr M108 (am_rd M108 x0 9) (am_w32 ((am_w32 (24 * x1)) + x2)) (am_rd M108 (am_rd M108 x0 33) x2)) fun M111 => am_g (am_ar (am_rd M111 x0 34) 20 x2) <| am_g (am_ar (am_rd M111 x0 10) 20 (am_w32 ((am_w32 (24 * x1)) + x2))) <| am_let (am_wr M111 (am_rd M111 x0 10) (am_w32 ((am_w32 (24 * x1)) + x2)) (am_rd M111 (am_rd M111 x0 34) x2)) fun M114 => am_g (am_ar (am_rd M114 x0 35) 20 x2) <| am_g (am_ar (am_rd M114 x0 11) 20 (am_w32 ((am_w32 (24 * x1)) + x2))) <| am_let (am_wr M114 (am_rd M114 x0 11) (am_w32 ((am_w32 (24 * x1)) + x2)) (am_rd M114 (am_rd M114 x0 35) x2)) fun M117 => am_let (am_w32 (x2 + 1)) fun v118 => am_Ex d 295 102 [(2, x0), (0, x1), (0, v118)] [] M117) else (am_Ex d 295 175 [(2, x0), (0, x1), (0, 0)] [] M)) := by
  refine (am_e0 rfl rfl).trans ?_
  refine (am_e0 rfl rfl).trans ?_
  refine (am_gf (c := 11) (t := 0) rfl rfl rfl).trans (am_g_congr fun h101 => ?_)
  refine (am_i_ge rfl).trans (am_if_congr (fun c102 => ?_) (fun c102 => ?_))
  · refine (am_e0 rfl rfl).trans ?_
    refine (am_gf (c := 11) (t := 2) rfl rfl rfl).trans ((am_g_t h101).trans ?_)
    refine (am_e0 rfl rfl).trans ?_
    refine (am_e0 rfl rfl).trans ?_
    refine (am_e0 rfl rfl).trans ?_
    refine (am_e0 rfl rfl).trans ?_
    refine (am_e0 rfl rfl).trans ?_
    refine (am_e0 rfl rfl).trans ?_
    refine (am_gf (c := 11) (t := 2) rfl rfl rfl).trans ((am_g_t h101).trans ?_)
    refine (am_e0 rfl rfl).trans ?_
    refine (am_ial rfl).trans (am_g_congr fun h103 => ?_)
    refine (am_ias rfl).trans (am_g_congr fun h104 => ?_)
    refine am_letm (fun M105 => ?_)
    refine (am_e0 rfl rfl).trans ?_
    refine (am_gf (c := 11) (t := 2) rfl rfl rfl).trans ((am_g_t h101).trans ?_)
    refine (am_e0 rfl rfl).trans ?_
    refine (am_e0 rfl rfl).trans ?_
    refine (am_e0 rfl rfl).trans ?_
    refine (am_e0 rfl rfl).trans ?_
    refine (am_e0 rfl rfl).trans ?_
    refine (am_e0 rfl rfl).trans ?_
    refine (am_e0 rfl rfl).trans ?_
    refine (am_e0 rfl rfl).trans ?_
    refine (am_e0 rfl rfl).trans ?_
    refine (am_gf (c := 11) (t := 2) rfl rfl rfl).trans ((am_g_t h101).trans ?_)
    refine (am_e0 rfl rfl).trans ?_
    refine (am_ial rfl).trans (am_g_congr fun h106 => ?_)
    refine (am_e0 rfl rfl).trans ?_
    refine (am_ias rfl).trans (am_g_congr fun h107 => ?_)
    refine am_letm (fun M108 => ?_)
    refine (am_e0 rfl rfl).trans ?_
    refine (am_gf (c := 11) (t := 2) rfl rfl rfl).trans ((am_g_t h101).trans ?_)
    refine (am_e0 rfl rfl).trans ?_
    refine (am_e0 rfl rfl).trans ?_
    refine (am_e0 rfl rfl).trans ?_
    refine (am_e0 rfl rfl).trans ?_
    refine (am_e0 rfl rfl).trans ?_
    refine (am_e0 rfl rfl).trans ?_
    refine (am_gf (c := 11) (t := 2) rfl rfl rfl).trans ((am_g_t h101).trans ?_)
    refine (am_e0 rfl rfl).trans ?_
    refine (am_ial rfl).trans (am_g_congr fun h109 => ?_)
    refine (am_ias rfl).trans (am_g_congr fun h110 => ?_)
    refine am_letm (fun M111 => ?_)
    refine (am_e0 rfl rfl).trans ?_
    refine (am_gf (c := 11) (t := 2) rfl rfl rfl).trans ((am_g_t h101).trans ?_)
    refine (am_e0 rfl rfl).trans ?_
    refine (am_e0 rfl rfl).trans ?_
    refine (am_e0 rfl rfl).trans ?_
    refine (am_e0 rfl rfl).trans ?_
    refine (am_e0 rfl rfl).trans ?_
    refine (am_e0 rfl rfl).trans ?_
    refine (am_gf (c := 11) (t := 2) rfl rfl rfl).trans ((am_g_t h101).trans ?_)
    refine (am_e0 rfl rfl).trans ?_
    refine (am_ial rfl).trans (am_g_congr fun h112 => ?_)
    refine (am_ias rfl).trans (am_g_congr fun h113 => ?_)
    refine am_letm (fun M114 => ?_)
    refine (am_e0 rfl rfl).trans ?_
    refine (am_gf (c := 11) (t := 2) rfl rfl rfl).trans ((am_g_t h101).trans ?_)
    refine (am_e0 rfl rfl).trans ?_
    refine (am_e0 rfl rfl).trans ?_
    refine (am_e0 rfl rfl).trans ?_
    refine (am_e0 rfl rfl).trans ?_
    refine (am_e0 rfl rfl).trans ?_
    refine (am_e0 rfl rfl).trans ?_
    refine (am_gf (c := 11) (t := 2) rfl rfl rfl).trans ((am_g_t h101).trans ?_)
    refine (am_e0 rfl rfl).trans ?_
    refine (am_ial rfl).trans (am_g_congr fun h115 => ?_)
    refine (am_ias rfl).trans (am_g_congr fun h116 => ?_)
    refine am_letm (fun M117 => ?_)
    refine (am_e0 rfl rfl).trans ?_
    refine am_lets (L := fun v118 => [(2, x0), (0, x1), (0, v118)]) (fun v118 => ?_)
    refine (am_e1 rfl rfl).trans ?_
    exact (am_e5 rfl).trans rfl
  · refine (am_e0 rfl rfl).trans ?_
    refine (am_e0 rfl rfl).trans ?_
    exact (am_e5 rfl).trans rfl
set_option maxRecDepth 10000 in
theorem aq_295_175 (d : Nat) (x0 x1 x2 : Int) (M : am_M) : am_Ex d 295 175 [(2, x0), (0, x1), (0, x2)] [] M = (am_g (am_ob x0 11) <| if x2 < am_rd M x0 36 then (am_g (am_ar (am_rd M x0 37) 20 x2) <| am_g (am_ar (am_rd M x0 12) 20 (am_w32 ((am_w32 (400 * x1)) + x2))) <| am_let (am_wr M (am_rd M x0 12) (am_w32 ((am_w32 (400 * x1)) + x2)) (am_rd M (am_rd M x0 37) x2)) fun M105 => am_g (am_ar (am_rd M105 x0 38) 20 x2) <| am_g (am_ar (am_rd M105 x0 13) 20 (am_w32 ((am_w32 (400 * x1)) + x2))) <| am_let (am_wr M105 (am_rd M105 x0 13) (am_w32 ((am_w32 (400 * x1)) + x2)) (am_rd M105 (am_rd M105 x0 38) x2)) fun M108 => am_let (am_w32 (x2 + 1)) fun v109 => am_Ex d 295 175 [(2, x0), (0, x1), (0, v109)] [] M108) else (am_g (am_ar (am_rd M x0 0) 20 3) <| am_let (am_wr M (am_rd M x0 0) 3 (am_w32 ((am_rd M (am_rd M x0 0) 3) + 1))) fun M111 => some (x1, M111))) := by
  refine (am_e0 rfl rfl).trans ?_
  refine (am_e0 rfl rfl).trans ?_
  refine (am_gf (c := 11) (t := 0) rfl rfl rfl).trans (am_g_congr fun h101 => ?_)
  refine (am_i_ge rfl).trans (am_if_congr (fun c102 => ?_) (fun c102 => ?_))
  · refine (am_e0 rfl rfl).trans ?_
    refine (am_gf (c := 11) (t := 2) rfl rfl rfl).trans ((am_g_t h101).trans ?_)
    refine (am_e0 rfl rfl).trans ?_
    refine (am_e0 rfl rfl).trans ?_
    refine (am_e0 rfl rfl).trans ?_
    refine (am_e0 rfl rfl).trans ?_
    refine (am_e0 rfl rfl).trans ?_
    refine (am_e0 rfl rfl).trans ?_
    refine (am_gf (c := 11) (t := 2) rfl rfl rfl).trans ((am_g_t h101).trans ?_)
    refine (am_e0 rfl rfl).trans ?_
    refine (am_ial rfl).trans (am_g_congr fun h103 => ?_)
    refine (am_ias rfl).trans (am_g_congr fun h104 => ?_)
    refine am_letm (fun M105 => ?_)
    refine (am_e0 rfl rfl).trans ?_
    refine (am_gf (c := 11) (t := 2) rfl rfl rfl).trans ((am_g_t h101).trans ?_)
    refine (am_e0 rfl rfl).trans ?_
    refine (am_e0 rfl rfl).trans ?_
    refine (am_e0 rfl rfl).trans ?_
    refine (am_e0 rfl rfl).trans ?_
    refine (am_e0 rfl rfl).trans ?_
    refine (am_e0 rfl rfl).trans ?_
    refine (am_gf (c := 11) (t := 2) rfl rfl rfl).trans ((am_g_t h101).trans ?_)
    refine (am_e0 rfl rfl).trans ?_
    refine (am_ial rfl).trans (am_g_congr fun h106 => ?_)
    refine (am_ias rfl).trans (am_g_congr fun h107 => ?_)
    refine am_letm (fun M108 => ?_)
    refine (am_e0 rfl rfl).trans ?_
    refine am_lets (L := fun v109 => [(2, x0), (0, x1), (0, v109)]) (fun v109 => ?_)
    refine (am_e1 rfl rfl).trans ?_
    exact (am_e5 rfl).trans rfl
  · refine (am_e0 rfl rfl).trans ?_
    refine (am_gf (c := 11) (t := 2) rfl rfl rfl).trans ((am_g_t h101).trans ?_)
    refine (am_e0 rfl rfl).trans ?_
    refine (am_e0 rfl rfl).trans ?_
    refine (am_ial rfl).trans (am_g_congr fun h110 => ?_)
    refine (am_e0 rfl rfl).trans ?_
    refine (am_e0 rfl rfl).trans ?_
    refine (am_ias rfl).trans ((am_g_t h110).trans ?_)
    refine am_letm (fun M111 => ?_)
    refine (am_e0 rfl rfl).trans ?_
    exact (am_e4i rfl rfl).trans rfl
-- 296: UnlearnedHandModel.nightDone()V
set_option maxRecDepth 10000 in
theorem aq_296 (d : Nat) (x0 : Int) (M : am_M) : am_Call d 296 [(2, x0)] M = (am_g (am_ob x0 11) <| (am_Call d 88 [(2, x0)] M).bind fun r102 => (am_Call d 282 [(2, x0), (0, 1)] r102.2).bind fun r103 => (am_Call d 89 [(2, x0)] r103.2).bind fun r104 => some (0, r104.2)) := by
  show am_Ex d 296 0 [(2, x0)] [] M = _
  refine (am_e0 rfl rfl).trans ?_
  refine (am_cal3 (z := 88) (k := 1) (c := (am_ob x0 11)) rfl rfl rfl rfl rfl rfl rfl rfl).trans (am_g_congr fun h101 => ?_)
  refine am_bind_congr fun r102 => ?_
  show am_Ex d 296 2 [(2, x0)] [] r102.2 = _
  refine (am_e0 rfl rfl).trans ?_
  refine (am_e0 rfl rfl).trans ?_
  refine (am_cal3 (z := 282) (k := 2) (c := (am_ob x0 11)) rfl rfl rfl rfl rfl rfl rfl rfl).trans ((am_g_t h101).trans ?_)
  refine am_bind_congr fun r103 => ?_
  show am_Ex d 296 5 [(2, x0)] [] r103.2 = _
  refine (am_e0 rfl rfl).trans ?_
  refine (am_cal3 (z := 89) (k := 1) (c := (am_ob x0 11)) rfl rfl rfl rfl rfl rfl rfl rfl).trans ((am_g_t h101).trans ?_)
  refine am_bind_congr fun r104 => ?_
  show am_Ex d 296 7 [(2, x0)] [] r104.2 = _
  exact (am_e4v rfl rfl).trans rfl
-- 297: UnlearnedHandModel.foretold(II)I
set_option maxRecDepth 10000 in
theorem aq_297 (d : Nat) (x0 x1 x2 : Int) (M : am_M) : am_Call d 297 [(2, x0), (0, x1), (0, x2)] M = ((am_Call d 64 [(0, x1), (0, 1), (0, 60)] M).bind fun r101 => if r101.1 = 0 then (some ((-1), r101.2)) else (am_g (am_ob x0 11) <| (am_Call d 144 [(2, x0), (0, x2)] r101.2).bind fun r104 => if r104.1 = 0 then (some ((-1), r104.2)) else ((am_Call d 88 [(2, x0)] r104.2).bind fun r106 => am_Ex d 297 17 [(2, x0), (0, x1), (0, x2), (0, 0)] [] r106.2))) := by
  show am_Ex d 297 0 [(2, x0), (0, x1), (0, x2), am_N] [] M = _
  refine (am_e0 rfl rfl).trans ?_
  refine (am_e0 rfl rfl).trans ?_
  refine (am_e0 rfl rfl).trans ?_
  refine (am_cal3 (z := 64) (k := 3) (c := true) rfl rfl rfl rfl rfl rfl rfl rfl).trans ((am_g_t rfl).trans ?_)
  refine am_bind_congr fun r101 => ?_
  show am_Ex d 297 4 [(2, x0), (0, x1), (0, x2), am_N] [(0, r101.1)] r101.2 = _
  refine (am_z_eq rfl).trans (am_if_congr (fun c102 => ?_) (fun c102 => ?_))
  · refine (am_e5 rfl).trans ?_
    show am_Ex d 297 10 [am_N, am_N, am_N, am_N] [] r101.2 = _
    refine (am_e0 rfl rfl).trans ?_
    exact (am_e4i rfl rfl).trans rfl
  · refine (am_e0 rfl rfl).trans ?_
    refine (am_e0 rfl rfl).trans ?_
    refine (am_cal3 (z := 144) (k := 2) (c := (am_ob x0 11)) rfl rfl rfl rfl rfl rfl rfl rfl).trans (am_g_congr fun h103 => ?_)
    refine am_bind_congr fun r104 => ?_
    show am_Ex d 297 8 [(2, x0), (0, x1), (0, x2), am_N] [(0, r104.1)] r104.2 = _
    refine (am_z_ne rfl).trans (am_if_congr (fun c105 => ?_) (fun c105 => ?_))
    · refine (am_e5 rfl).trans ?_
      show am_Ex d 297 10 [am_N, am_N, am_N, am_N] [] r104.2 = _
      refine (am_e0 rfl rfl).trans ?_
      exact (am_e4i rfl rfl).trans rfl
    · refine (am_e0 rfl rfl).trans ?_
      refine (am_cal3 (z := 88) (k := 1) (c := (am_ob x0 11)) rfl rfl rfl rfl rfl rfl rfl rfl).trans ((am_g_t h103).trans ?_)
      refine am_bind_congr fun r106 => ?_
      show am_Ex d 297 14 [(2, x0), (0, x1), (0, x2), am_N] [] r106.2 = _
      refine (am_e0 rfl rfl).trans ?_
      refine (am_e0 rfl rfl).trans ?_
      exact (am_e5 rfl).trans rfl
set_option maxRecDepth 10000 in
theorem aq_297_17 (d : Nat) (x0 x1 x2 x3 : Int) (M : am_M) : am_Ex d 297 17 [(2, x0), (0, x1), (0, x2), (0, x3)] [] M = (if x3 < x1 then (am_g (am_ob x0 11) <| (am_Call d 282 [(2, x0), (0, 1)] M).bind fun r103 => am_let (am_w32 (x3 + 1)) fun v104 => am_Ex d 297 17 [(2, x0), (0, x1), (0, x2), (0, v104)] [] r103.2) else (am_g (am_ob x0 11) <| (am_Call d 251 [(2, x0), (0, x2)] M).bind fun r106 => some (r106.1, r106.2))) := by
  refine (am_e0 rfl rfl).trans ?_
  refine (am_e0 rfl rfl).trans ?_
  refine (am_i_ge rfl).trans (am_if_congr (fun c101 => ?_) (fun c101 => ?_))
  · refine (am_e0 rfl rfl).trans ?_
    refine (am_e0 rfl rfl).trans ?_
    refine (am_cal3 (z := 282) (k := 2) (c := (am_ob x0 11)) rfl rfl rfl rfl rfl rfl rfl rfl).trans (am_g_congr fun h102 => ?_)
    refine am_bind_congr fun r103 => ?_
    show am_Ex d 297 23 [(2, x0), (0, x1), (0, x2), (0, x3)] [] r103.2 = _
    refine (am_e0 rfl rfl).trans ?_
    refine am_lets (L := fun v104 => [(2, x0), (0, x1), (0, x2), (0, v104)]) (fun v104 => ?_)
    refine (am_e1 rfl rfl).trans ?_
    exact (am_e5 rfl).trans rfl
  · refine (am_e0 rfl rfl).trans ?_
    refine (am_e0 rfl rfl).trans ?_
    refine (am_cal3 (z := 251) (k := 2) (c := (am_ob x0 11)) rfl rfl rfl rfl rfl rfl rfl rfl).trans (am_g_congr fun h105 => ?_)
    refine am_bind_congr fun r106 => ?_
    show am_Ex d 297 28 [(2, x0), (0, x1), (0, x2), (0, x3)] [(0, r106.1)] r106.2 = _
    exact (am_e4i rfl rfl).trans rfl
-- 298: UnlearnedHandModel.free(II)I
set_option maxRecDepth 10000 in
theorem aq_298 (d : Nat) (x0 x1 x2 : Int) (M : am_M) : am_Call d 298 [(2, x0), (0, x1), (0, x2)] M = ((am_Call d 64 [(0, x1), (0, 1), (0, 60)] M).bind fun r101 => if r101.1 = 0 then (some ((-1), r101.2)) else (am_g (am_ob x0 11) <| (am_Call d 144 [(2, x0), (0, x2)] r101.2).bind fun r104 => if r104.1 = 0 then (some ((-1), r104.2)) else ((am_Call d 88 [(2, x0)] r104.2).bind fun r106 => am_Ex d 298 17 [(2, x0), (0, x1), (0, x2), (0, 0)] [] r106.2))) := by
  show am_Ex d 298 0 [(2, x0), (0, x1), (0, x2), am_N] [] M = _
  refine (am_e0 rfl rfl).trans ?_
  refine (am_e0 rfl rfl).trans ?_
  refine (am_e0 rfl rfl).trans ?_
  refine (am_cal3 (z := 64) (k := 3) (c := true) rfl rfl rfl rfl rfl rfl rfl rfl).trans ((am_g_t rfl).trans ?_)
  refine am_bind_congr fun r101 => ?_
  show am_Ex d 298 4 [(2, x0), (0, x1), (0, x2), am_N] [(0, r101.1)] r101.2 = _
  refine (am_z_eq rfl).trans (am_if_congr (fun c102 => ?_) (fun c102 => ?_))
  · refine (am_e5 rfl).trans ?_
    show am_Ex d 298 10 [am_N, am_N, am_N, am_N] [] r101.2 = _
    refine (am_e0 rfl rfl).trans ?_
    exact (am_e4i rfl rfl).trans rfl
  · refine (am_e0 rfl rfl).trans ?_
    refine (am_e0 rfl rfl).trans ?_
    refine (am_cal3 (z := 144) (k := 2) (c := (am_ob x0 11)) rfl rfl rfl rfl rfl rfl rfl rfl).trans (am_g_congr fun h103 => ?_)
    refine am_bind_congr fun r104 => ?_
    show am_Ex d 298 8 [(2, x0), (0, x1), (0, x2), am_N] [(0, r104.1)] r104.2 = _
    refine (am_z_ne rfl).trans (am_if_congr (fun c105 => ?_) (fun c105 => ?_))
    · refine (am_e5 rfl).trans ?_
      show am_Ex d 298 10 [am_N, am_N, am_N, am_N] [] r104.2 = _
      refine (am_e0 rfl rfl).trans ?_
      exact (am_e4i rfl rfl).trans rfl
    · refine (am_e0 rfl rfl).trans ?_
      refine (am_cal3 (z := 88) (k := 1) (c := (am_ob x0 11)) rfl rfl rfl rfl rfl rfl rfl rfl).trans ((am_g_t h103).trans ?_)
      refine am_bind_congr fun r106 => ?_
      show am_Ex d 298 14 [(2, x0), (0, x1), (0, x2), am_N] [] r106.2 = _
      refine (am_e0 rfl rfl).trans ?_
      refine (am_e0 rfl rfl).trans ?_
      exact (am_e5 rfl).trans rfl
set_option maxRecDepth 10000 in
theorem aq_298_17 (d : Nat) (x0 x1 x2 x3 : Int) (M : am_M) : am_Ex d 298 17 [(2, x0), (0, x1), (0, x2), (0, x3)] [] M = (if x3 ≤ x1 then (am_g (am_ob x0 11) <| am_g (am_ar (am_rd M x0 46) 20 x2) <| if am_rd M (am_rd M x0 46) x2 = 1 then (some (x3, M)) else ((am_Call d 282 [(2, x0), (0, 1)] M).bind fun r105 => am_let (am_w32 (x3 + 1)) fun v106 => am_Ex d 298 17 [(2, x0), (0, x1), (0, x2), (0, v106)] [] r105.2)) else (some ((-1), M))) := by
  refine (am_e0 rfl rfl).trans ?_
  refine (am_e0 rfl rfl).trans ?_
  refine (am_i_gt rfl).trans (am_if_congr (fun c101 => ?_) (fun c101 => ?_))
  · refine (am_e0 rfl rfl).trans ?_
    refine (am_gf (c := 11) (t := 2) rfl rfl rfl).trans (am_g_congr fun h102 => ?_)
    refine (am_e0 rfl rfl).trans ?_
    refine (am_ial rfl).trans (am_g_congr fun h103 => ?_)
    refine (am_e0 rfl rfl).trans ?_
    refine (am_i_ne rfl).trans (am_if_congr (fun c104 => ?_) (fun c104 => ?_))
    · refine (am_e0 rfl rfl).trans ?_
      exact (am_e4i rfl rfl).trans rfl
    · refine (am_e0 rfl rfl).trans ?_
      refine (am_e0 rfl rfl).trans ?_
      refine (am_cal3 (z := 282) (k := 2) (c := (am_ob x0 11)) rfl rfl rfl rfl rfl rfl rfl rfl).trans ((am_g_t h102).trans ?_)
      refine am_bind_congr fun r105 => ?_
      show am_Ex d 298 31 [(2, x0), (0, x1), (0, x2), (0, x3)] [] r105.2 = _
      refine (am_e0 rfl rfl).trans ?_
      refine am_lets (L := fun v106 => [(2, x0), (0, x1), (0, x2), (0, v106)]) (fun v106 => ?_)
      refine (am_e1 rfl rfl).trans ?_
      exact (am_e5 rfl).trans rfl
  · refine (am_e0 rfl rfl).trans ?_
    exact (am_e4i rfl rfl).trans rfl
-- 299: UnlearnedHandModel.lasts(II)I
set_option maxRecDepth 10000 in
theorem aq_299 (d : Nat) (x0 x1 x2 : Int) (M : am_M) : am_Call d 299 [(2, x0), (0, x1), (0, x2)] M = (am_g (am_ob x0 11) <| (am_Call d 144 [(2, x0), (0, x1)] M).bind fun r102 => if r102.1 = 0 then (some ((-1), r102.2)) else ((am_Call d 143 [(2, x0), (0, x2)] r102.2).bind fun r104 => if r104.1 = 0 then (some ((-1), r104.2)) else ((am_Call d 88 [(2, x0)] r104.2).bind fun r106 => (am_Call d 221 [(2, x0), (0, x1), (0, x2)] r106.2).bind fun r107 => if r107.1 = 0 then (some ((-1), r107.2)) else (am_Ex d 299 23 [(2, x0), (0, x1), (0, x2), (0, 1)] [] r107.2)))) := by
  show am_Ex d 299 0 [(2, x0), (0, x1), (0, x2), am_N] [] M = _
  refine (am_e0 rfl rfl).trans ?_
  refine (am_e0 rfl rfl).trans ?_
  refine (am_cal3 (z := 144) (k := 2) (c := (am_ob x0 11)) rfl rfl rfl rfl rfl rfl rfl rfl).trans (am_g_congr fun h101 => ?_)
  refine am_bind_congr fun r102 => ?_
  show am_Ex d 299 3 [(2, x0), (0, x1), (0, x2), am_N] [(0, r102.1)] r102.2 = _
  refine (am_z_eq rfl).trans (am_if_congr (fun c103 => ?_) (fun c103 => ?_))
  · refine (am_e5 rfl).trans ?_
    show am_Ex d 299 9 [am_N, am_N, am_N, am_N] [] r102.2 = _
    refine (am_e0 rfl rfl).trans ?_
    exact (am_e4i rfl rfl).trans rfl
  · refine (am_e0 rfl rfl).trans ?_
    refine (am_e0 rfl rfl).trans ?_
    refine (am_cal3 (z := 143) (k := 2) (c := (am_ob x0 11)) rfl rfl rfl rfl rfl rfl rfl rfl).trans ((am_g_t h101).trans ?_)
    refine am_bind_congr fun r104 => ?_
    show am_Ex d 299 7 [(2, x0), (0, x1), (0, x2), am_N] [(0, r104.1)] r104.2 = _
    refine (am_z_ne rfl).trans (am_if_congr (fun c105 => ?_) (fun c105 => ?_))
    · refine (am_e5 rfl).trans ?_
      show am_Ex d 299 9 [am_N, am_N, am_N, am_N] [] r104.2 = _
      refine (am_e0 rfl rfl).trans ?_
      exact (am_e4i rfl rfl).trans rfl
    · refine (am_e0 rfl rfl).trans ?_
      refine (am_cal3 (z := 88) (k := 1) (c := (am_ob x0 11)) rfl rfl rfl rfl rfl rfl rfl rfl).trans ((am_g_t h101).trans ?_)
      refine am_bind_congr fun r106 => ?_
      show am_Ex d 299 13 [(2, x0), (0, x1), (0, x2), am_N] [] r106.2 = _
      refine (am_e0 rfl rfl).trans ?_
      refine (am_e0 rfl rfl).trans ?_
      refine (am_e0 rfl rfl).trans ?_
      refine (am_cal3 (z := 221) (k := 3) (c := (am_ob x0 11)) rfl rfl rfl rfl rfl rfl rfl rfl).trans ((am_g_t h101).trans ?_)
      refine am_bind_congr fun r107 => ?_
      show am_Ex d 299 17 [(2, x0), (0, x1), (0, x2), am_N] [(0, r107.1)] r107.2 = _
      refine (am_z_ne rfl).trans (am_if_congr (fun c108 => ?_) (fun c108 => ?_))
      · refine (am_e0 rfl rfl).trans ?_
        exact (am_e4i rfl rfl).trans rfl
      · refine (am_e0 rfl rfl).trans ?_
        refine (am_e0 rfl rfl).trans ?_
        exact (am_e5 rfl).trans rfl
set_option maxRecDepth 10000 in
theorem aq_299_23 (d : Nat) (x0 x1 x2 x3 : Int) (M : am_M) : am_Ex d 299 23 [(2, x0), (0, x1), (0, x2), (0, x3)] [] M = (if x3 < 201 then (am_g (am_ob x0 11) <| am_g (am_ar (am_rd M x0 46) 20 x1) <| if am_rd M (am_rd M x0 46) x1 = 0 then ((am_Call d 282 [(2, x0), (0, 1)] M).bind fun r105 => (am_Call d 221 [(2, x0), (0, x1), (0, x2)] r105.2).bind fun r106 => if r106.1 = 0 then (some (x3, r106.2)) else (am_let (am_w32 (x3 + 1)) fun v108 => am_Ex d 299 23 [(2, x0), (0, x1), (0, x2), (0, v108)] [] r106.2)) else (some ((-1), M))) else (some ((-1), M))) := by
  refine (am_e0 rfl rfl).trans ?_
  refine (am_e0 rfl rfl).trans ?_
  refine (am_i_ge rfl).trans (am_if_congr (fun c101 => ?_) (fun c101 => ?_))
  · refine (am_e0 rfl rfl).trans ?_
    refine (am_gf (c := 11) (t := 2) rfl rfl rfl).trans (am_g_congr fun h102 => ?_)
    refine (am_e0 rfl rfl).trans ?_
    refine (am_ial rfl).trans (am_g_congr fun h103 => ?_)
    refine (am_z_ne rfl).trans (am_if_congr (fun c104 => ?_) (fun c104 => ?_))
    · refine (am_e0 rfl rfl).trans ?_
      refine (am_e0 rfl rfl).trans ?_
      refine (am_cal3 (z := 282) (k := 2) (c := (am_ob x0 11)) rfl rfl rfl rfl rfl rfl rfl rfl).trans ((am_g_t h102).trans ?_)
      refine am_bind_congr fun r105 => ?_
      show am_Ex d 299 34 [(2, x0), (0, x1), (0, x2), (0, x3)] [] r105.2 = _
      refine (am_e0 rfl rfl).trans ?_
      refine (am_e0 rfl rfl).trans ?_
      refine (am_e0 rfl rfl).trans ?_
      refine (am_cal3 (z := 221) (k := 3) (c := (am_ob x0 11)) rfl rfl rfl rfl rfl rfl rfl rfl).trans ((am_g_t h102).trans ?_)
      refine am_bind_congr fun r106 => ?_
      show am_Ex d 299 38 [(2, x0), (0, x1), (0, x2), (0, x3)] [(0, r106.1)] r106.2 = _
      refine (am_z_ne rfl).trans (am_if_congr (fun c107 => ?_) (fun c107 => ?_))
      · refine (am_e0 rfl rfl).trans ?_
        exact (am_e4i rfl rfl).trans rfl
      · refine (am_e0 rfl rfl).trans ?_
        refine am_lets (L := fun v108 => [(2, x0), (0, x1), (0, x2), (0, v108)]) (fun v108 => ?_)
        refine (am_e1 rfl rfl).trans ?_
        exact (am_e5 rfl).trans rfl
    · refine (am_e5 rfl).trans ?_
      show am_Ex d 299 44 [am_N, am_N, am_N, am_N] [] M = _
      refine (am_e0 rfl rfl).trans ?_
      exact (am_e4i rfl rfl).trans rfl
  · refine (am_e5 rfl).trans ?_
    show am_Ex d 299 44 [am_N, am_N, am_N, am_N] [] M = _
    refine (am_e0 rfl rfl).trans ?_
    exact (am_e4i rfl rfl).trans rfl
-- 300: UnlearnedHand.text()I
set_option maxRecDepth 10000 in
theorem aq_300 (d : Nat) (x0 : Int) (M : am_M) : am_Call d 300 [(2, x0)] M = (am_g (am_ob x0 10) <| am_g (am_ob (am_rd M x0 0) 2) <| am_let (am_rd M (am_rd M x0 0) 11) fun v103 => if v103 < 0 then (some ((-1), M)) else (am_g (am_ia (am_rd M x0 6)) <| if v103 < am_ln (am_rd M x0 6) then (am_g (am_ar (am_rd M x0 6) 24 v103 || (am_ar (am_rd M x0 6) 25 v103 || am_ar (am_rd M x0 6) 26 v103)) <| am_g (am_ob (am_rd M x0 9) 6) <| (am_Call d 288 [(2, am_rd M x0 9), (2, am_rd M x0 7), (0, am_rd M x0 8), (2, am_rd M (am_rd M x0 6) v103)] M).bind fun r109 => am_let (am_wr r109.2 x0 8 0) fun M110 => if r109.1 = 0 then (some ((-1), M110)) else (am_g (am_ob (am_rd M110 x0 0) 2) <| am_let (am_wr M110 (am_rd M110 x0 0) 11 (am_w32 (v103 + 1))) fun M113 => some (v103, M113))) else (some ((-1), M)))) := by
  show am_Ex d 300 0 [(2, x0), am_N, am_N] [] M = _
  refine (am_e0 rfl rfl).trans ?_
  refine (am_gf (c := 10) (t := 2) rfl rfl rfl).trans (am_g_congr fun h101 => ?_)
  refine (am_gf (c := 2) (t := 0) rfl rfl rfl).trans (am_g_congr fun h102 => ?_)
  refine (am_e0 rfl rfl).trans ?_
  refine am_lets (L := fun v103 => [(2, x0), (0, v103), am_N]) (fun v103 => ?_)
  refine (am_e0 rfl rfl).trans ?_
  refine (am_z_lt rfl).trans (am_if_congr (fun c104 => ?_) (fun c104 => ?_))
  · refine (am_e5 rfl).trans ?_
    show am_Ex d 300 12 [am_N, am_N, am_N] [] M = _
    refine (am_e0 rfl rfl).trans ?_
    exact (am_e4i rfl rfl).trans rfl
  · refine (am_e0 rfl rfl).trans ?_
    refine (am_e0 rfl rfl).trans ?_
    refine (am_gf (c := 10) (t := 2) rfl rfl rfl).trans ((am_g_t h101).trans ?_)
    refine (am_aln rfl).trans (am_g_congr fun h105 => ?_)
    refine (am_i_lt rfl).trans (am_if_congr (fun c106 => ?_) (fun c106 => ?_))
    · refine (am_e0 rfl rfl).trans ?_
      refine (am_gf (c := 10) (t := 2) rfl rfl rfl).trans ((am_g_t h101).trans ?_)
      refine (am_e0 rfl rfl).trans ?_
      refine (am_gf (c := 10) (t := 2) rfl rfl rfl).trans ((am_g_t h101).trans ?_)
      refine (am_e0 rfl rfl).trans ?_
      refine (am_gf (c := 10) (t := 0) rfl rfl rfl).trans ((am_g_t h101).trans ?_)
      refine (am_e0 rfl rfl).trans ?_
      refine (am_gf (c := 10) (t := 2) rfl rfl rfl).trans ((am_g_t h101).trans ?_)
      refine (am_e0 rfl rfl).trans ?_
      refine (am_aal rfl).trans (am_g_congr fun h107 => ?_)
      refine (am_cal3 (z := 288) (k := 4) (c := (am_ob (am_rd M x0 9) 6)) rfl rfl rfl rfl rfl rfl rfl rfl).trans (am_g_congr fun h108 => ?_)
      refine am_bind_congr fun r109 => ?_
      show am_Ex d 300 25 [(2, x0), (0, v103), am_N] [(0, r109.1)] r109.2 = _
      refine (am_e0 rfl rfl).trans ?_
      refine (am_e0 rfl rfl).trans ?_
      refine (am_e0 rfl rfl).trans ?_
      refine (am_pf (c := 10) rfl rfl rfl).trans ((am_g_t h101).trans ?_)
      refine am_letm (fun M110 => ?_)
      refine (am_e0 rfl rfl).trans ?_
      refine (am_z_ne rfl).trans (am_if_congr (fun c111 => ?_) (fun c111 => ?_))
      · refine (am_e0 rfl rfl).trans ?_
        exact (am_e4i rfl rfl).trans rfl
      · refine (am_e0 rfl rfl).trans ?_
        refine (am_gf (c := 10) (t := 2) rfl rfl rfl).trans ((am_g_t h101).trans ?_)
        refine (am_e0 rfl rfl).trans ?_
        refine (am_e0 rfl rfl).trans ?_
        refine (am_e0 rfl rfl).trans ?_
        refine (am_pf (c := 2) rfl rfl rfl).trans (am_g_congr fun h112 => ?_)
        refine am_letm (fun M113 => ?_)
        refine (am_e0 rfl rfl).trans ?_
        exact (am_e4i rfl rfl).trans rfl
    · refine (am_e5 rfl).trans ?_
      show am_Ex d 300 12 [am_N, am_N, am_N] [] M = _
      refine (am_e0 rfl rfl).trans ?_
      exact (am_e4i rfl rfl).trans rfl
-- 301: UnlearnedHandModel.night(I)I
set_option maxRecDepth 10000 in
theorem aq_301 (d : Nat) (x0 x1 : Int) (M : am_M) : am_Call d 301 [(2, x0), (0, x1)] M = ((am_Call d 64 [(0, x1), (0, 1), (0, 60)] M).bind fun r101 => if r101.1 = 0 then (some ((-1), r101.2)) else (am_g (am_ob x0 11) <| am_g (am_ar (am_rd r101.2 x0 0) 20 222) <| if am_w32 ((am_rd r101.2 (am_rd r101.2 x0 0) 222) + x1) ≤ 999 then (am_Ex d 301 19 [(2, x0), (0, x1), (0, 0)] [] r101.2) else (some ((-1), r101.2)))) := by
  show am_Ex d 301 0 [(2, x0), (0, x1), am_N] [] M = _
  refine (am_e0 rfl rfl).trans ?_
  refine (am_e0 rfl rfl).trans ?_
  refine (am_e0 rfl rfl).trans ?_
  refine (am_cal3 (z := 64) (k := 3) (c := true) rfl rfl rfl rfl rfl rfl rfl rfl).trans ((am_g_t rfl).trans ?_)
  refine am_bind_congr fun r101 => ?_
  show am_Ex d 301 4 [(2, x0), (0, x1), am_N] [(0, r101.1)] r101.2 = _
  refine (am_z_eq rfl).trans (am_if_congr (fun c102 => ?_) (fun c102 => ?_))
  · refine (am_e5 rfl).trans ?_
    show am_Ex d 301 14 [am_N, am_N, am_N] [] r101.2 = _
    refine (am_e0 rfl rfl).trans ?_
    exact (am_e4i rfl rfl).trans rfl
  · refine (am_e0 rfl rfl).trans ?_
    refine (am_gf (c := 11) (t := 2) rfl rfl rfl).trans (am_g_congr fun h103 => ?_)
    refine (am_e0 rfl rfl).trans ?_
    refine (am_ial rfl).trans (am_g_congr fun h104 => ?_)
    refine (am_e0 rfl rfl).trans ?_
    refine (am_e0 rfl rfl).trans ?_
    refine (am_e0 rfl rfl).trans ?_
    refine (am_i_le rfl).trans (am_if_congr (fun c105 => ?_) (fun c105 => ?_))
    · refine (am_e0 rfl rfl).trans ?_
      refine (am_e0 rfl rfl).trans ?_
      exact (am_e5 rfl).trans rfl
    · refine (am_e5 rfl).trans ?_
      show am_Ex d 301 14 [am_N, am_N, am_N] [] r101.2 = _
      refine (am_e0 rfl rfl).trans ?_
      exact (am_e4i rfl rfl).trans rfl
set_option maxRecDepth 10000 in
theorem aq_301_19 (d : Nat) (x0 x1 x2 : Int) (M : am_M) : am_Ex d 301 19 [(2, x0), (0, x1), (0, x2)] [] M = (if x2 < x1 then (am_g (am_ob x0 11) <| (am_Call d 68 [(2, x0)] M).bind fun r103 => (am_Call d 296 [(2, x0)] r103.2).bind fun r104 => am_let (am_w32 (x2 + 1)) fun v105 => am_Ex d 301 19 [(2, x0), (0, x1), (0, v105)] [] r104.2) else (am_g (am_ob x0 11) <| (am_Call d 91 [(2, x0)] M).bind fun r107 => some (r107.1, r107.2))) := by
  refine (am_e0 rfl rfl).trans ?_
  refine (am_e0 rfl rfl).trans ?_
  refine (am_i_ge rfl).trans (am_if_congr (fun c101 => ?_) (fun c101 => ?_))
  · refine (am_e0 rfl rfl).trans ?_
    refine (am_cal3 (z := 68) (k := 1) (c := (am_ob x0 11)) rfl rfl rfl rfl rfl rfl rfl rfl).trans (am_g_congr fun h102 => ?_)
    refine am_bind_congr fun r103 => ?_
    show am_Ex d 301 24 [(2, x0), (0, x1), (0, x2)] [] r103.2 = _
    refine (am_e0 rfl rfl).trans ?_
    refine (am_cal3 (z := 296) (k := 1) (c := (am_ob x0 11)) rfl rfl rfl rfl rfl rfl rfl rfl).trans ((am_g_t h102).trans ?_)
    refine am_bind_congr fun r104 => ?_
    show am_Ex d 301 26 [(2, x0), (0, x1), (0, x2)] [] r104.2 = _
    refine (am_e0 rfl rfl).trans ?_
    refine am_lets (L := fun v105 => [(2, x0), (0, x1), (0, v105)]) (fun v105 => ?_)
    refine (am_e1 rfl rfl).trans ?_
    exact (am_e5 rfl).trans rfl
  · refine (am_e0 rfl rfl).trans ?_
    refine (am_cal3 (z := 91) (k := 1) (c := (am_ob x0 11)) rfl rfl rfl rfl rfl rfl rfl rfl).trans (am_g_congr fun h106 => ?_)
    refine am_bind_congr fun r107 => ?_
    show am_Ex d 301 30 [(2, x0), (0, x1), (0, x2)] [(0, r107.1)] r107.2 = _
    exact (am_e4i rfl rfl).trans rfl
-- 302: UnlearnedHandModel.happens()V
set_option maxRecDepth 10000 in
theorem aq_302 (d : Nat) (x0 : Int) (M : am_M) : am_Call d 302 [(2, x0)] M = (am_g (am_ob x0 11) <| (am_Call d 92 [(2, x0), (0, 6)] M).bind fun r102 => if r102.1 ≤ 3 then (am_g (am_ar (am_rd r102.2 x0 0) 20 1) <| (am_Call d 92 [(2, x0), (0, am_rd r102.2 (am_rd r102.2 x0 0) 1)] r102.2).bind fun r105 => if r102.1 = 3 then ((am_Call d 196 [(2, x0), (0, r105.1)] r105.2).bind fun r107 => if r107.1 = 0 then (some (0, r107.2)) else ((am_Call d 158 [(2, x0), (0, r105.1)] r107.2).bind fun r109 => some (0, r109.2))) else (am_g (am_ar (am_rd r105.2 x0 0) 20 0) <| (am_Call d 92 [(2, x0), (0, am_rd r105.2 (am_rd r105.2 x0 0) 0)] r105.2).bind fun r111 => if r102.1 < 2 then ((am_Call d 92 [(2, x0), (0, 40)] r111.2).bind fun r113 => am_let (am_w32 (1 + r113.1)) fun v114 => if r102.1 = 0 then ((am_Call d 225 [(2, x0), (0, r105.1), (0, r111.1)] r113.2).bind fun r116 => if r116.1 = 0 then (am_Ex d 302 67 [(2, x0), (0, r102.1), (0, r105.1), (0, r111.1), (0, v114)] [] r116.2) else ((am_Call d 197 [(2, x0), (0, r105.1), (0, r111.1), (0, v114)] r116.2).bind fun r118 => am_Ex d 302 67 [(2, x0), (0, r102.1), (0, r105.1), (0, r111.1), (0, v114)] [] r118.2)) else (am_Ex d 302 67 [(2, x0), (0, r102.1), (0, r105.1), (0, r111.1), (0, v114)] [] r113.2)) else (if r102.1 = 0 then ((am_Call d 225 [(2, x0), (0, r105.1), (0, r111.1)] r111.2).bind fun r120 => if r120.1 = 0 then (am_Ex d 302 67 [(2, x0), (0, r102.1), (0, r105.1), (0, r111.1), (0, 0)] [] r120.2) else ((am_Call d 197 [(2, x0), (0, r105.1), (0, r111.1), (0, 0)] r120.2).bind fun r122 => am_Ex d 302 67 [(2, x0), (0, r102.1), (0, r105.1), (0, r111.1), (0, 0)] [] r122.2)) else (am_Ex d 302 67 [(2, x0), (0, r102.1), (0, r105.1), (0, r111.1), (0, 0)] [] r111.2)))) else (am_g (am_ar (am_rd r102.2 x0 0) 20 222) <| if am_rd r102.2 (am_rd r102.2 x0 0) 222 < 999 then ((am_Call d 296 [(2, x0)] r102.2).bind fun r125 => some (0, r125.2)) else (some (0, r102.2)))) := by
  show am_Ex d 302 0 [(2, x0), am_N, am_N, am_N, am_N] [] M = _
  refine (am_e0 rfl rfl).trans ?_
  refine (am_e0 rfl rfl).trans ?_
  refine (am_cal3 (z := 92) (k := 2) (c := (am_ob x0 11)) rfl rfl rfl rfl rfl rfl rfl rfl).trans (am_g_congr fun h101 => ?_)
  refine am_bind_congr fun r102 => ?_
  show am_Ex d 302 3 [(2, x0), am_N, am_N, am_N, am_N] [(0, r102.1)] r102.2 = _
  refine (am_e0 rfl rfl).trans ?_
  refine (am_e0 rfl rfl).trans ?_
  refine (am_e0 rfl rfl).trans ?_
  refine (am_i_le rfl).trans (am_if_congr (fun c103 => ?_) (fun c103 => ?_))
  · refine (am_e0 rfl rfl).trans ?_
    refine (am_e0 rfl rfl).trans ?_
    refine (am_gf (c := 11) (t := 2) rfl rfl rfl).trans ((am_g_t h101).trans ?_)
    refine (am_e0 rfl rfl).trans ?_
    refine (am_ial rfl).trans (am_g_congr fun h104 => ?_)
    refine (am_cal3 (z := 92) (k := 2) (c := (am_ob x0 11)) rfl rfl rfl rfl rfl rfl rfl rfl).trans ((am_g_t h101).trans ?_)
    refine am_bind_congr fun r105 => ?_
    show am_Ex d 302 23 [(2, x0), (0, r102.1), am_N, am_N, am_N] [(0, r105.1)] r105.2 = _
    refine (am_e0 rfl rfl).trans ?_
    refine (am_e0 rfl rfl).trans ?_
    refine (am_e0 rfl rfl).trans ?_
    refine (am_i_ne rfl).trans (am_if_congr (fun c106 => ?_) (fun c106 => ?_))
    · refine (am_e0 rfl rfl).trans ?_
      refine (am_e0 rfl rfl).trans ?_
      refine (am_cal3 (z := 196) (k := 2) (c := (am_ob x0 11)) rfl rfl rfl rfl rfl rfl rfl rfl).trans ((am_g_t h101).trans ?_)
      refine am_bind_congr fun r107 => ?_
      show am_Ex d 302 30 [(2, x0), (0, r102.1), (0, r105.1), am_N, am_N] [(0, r107.1)] r107.2 = _
      refine (am_z_eq rfl).trans (am_if_congr (fun c108 => ?_) (fun c108 => ?_))
      · refine (am_e5 rfl).trans ?_
        show am_Ex d 302 35 [am_N, am_N, am_N, am_N, am_N] [] r107.2 = _
        exact (am_e4v rfl rfl).trans rfl
      · refine (am_e0 rfl rfl).trans ?_
        refine (am_e0 rfl rfl).trans ?_
        refine (am_cal3 (z := 158) (k := 2) (c := (am_ob x0 11)) rfl rfl rfl rfl rfl rfl rfl rfl).trans ((am_g_t h101).trans ?_)
        refine am_bind_congr fun r109 => ?_
        show am_Ex d 302 34 [(2, x0), (0, r102.1), (0, r105.1), am_N, am_N] [] r109.2 = _
        refine (am_e5 rfl).trans ?_
        show am_Ex d 302 35 [am_N, am_N, am_N, am_N, am_N] [] r109.2 = _
        exact (am_e4v rfl rfl).trans rfl
    · refine (am_e0 rfl rfl).trans ?_
      refine (am_e0 rfl rfl).trans ?_
      refine (am_gf (c := 11) (t := 2) rfl rfl rfl).trans ((am_g_t h101).trans ?_)
      refine (am_e0 rfl rfl).trans ?_
      refine (am_ial rfl).trans (am_g_congr fun h110 => ?_)
      refine (am_cal3 (z := 92) (k := 2) (c := (am_ob x0 11)) rfl rfl rfl rfl rfl rfl rfl rfl).trans ((am_g_t h101).trans ?_)
      refine am_bind_congr fun r111 => ?_
      show am_Ex d 302 42 [(2, x0), (0, r102.1), (0, r105.1), am_N, am_N] [(0, r111.1)] r111.2 = _
      refine (am_e0 rfl rfl).trans ?_
      refine (am_e0 rfl rfl).trans ?_
      refine (am_e0 rfl rfl).trans ?_
      refine (am_i_ge rfl).trans (am_if_congr (fun c112 => ?_) (fun c112 => ?_))
      · refine (am_e0 rfl rfl).trans ?_
        refine (am_e0 rfl rfl).trans ?_
        refine (am_e0 rfl rfl).trans ?_
        refine (am_cal3 (z := 92) (k := 2) (c := (am_ob x0 11)) rfl rfl rfl rfl rfl rfl rfl rfl).trans ((am_g_t h101).trans ?_)
        refine am_bind_congr fun r113 => ?_
        show am_Ex d 302 50 [(2, x0), (0, r102.1), (0, r105.1), (0, r111.1), am_N] [(0, r113.1), (0, 1)] r113.2 = _
        refine (am_e0 rfl rfl).trans ?_
        refine (am_e1 rfl rfl).trans ?_
        refine (am_e0 rfl rfl).trans ?_
        refine am_lets (L := fun v114 => [(2, x0), (0, r102.1), (0, r105.1), (0, r111.1), (0, v114)]) (fun v114 => ?_)
        refine (am_e0 rfl rfl).trans ?_
        refine (am_z_ne rfl).trans (am_if_congr (fun c115 => ?_) (fun c115 => ?_))
        · refine (am_e0 rfl rfl).trans ?_
          refine (am_e0 rfl rfl).trans ?_
          refine (am_e0 rfl rfl).trans ?_
          refine (am_cal3 (z := 225) (k := 3) (c := (am_ob x0 11)) rfl rfl rfl rfl rfl rfl rfl rfl).trans ((am_g_t h101).trans ?_)
          refine am_bind_congr fun r116 => ?_
          show am_Ex d 302 60 [(2, x0), (0, r102.1), (0, r105.1), (0, r111.1), (0, v114)] [(0, r116.1)] r116.2 = _
          refine (am_z_eq rfl).trans (am_if_congr (fun c117 => ?_) (fun c117 => ?_))
          · exact (am_e5 rfl).trans rfl
          · refine (am_e0 rfl rfl).trans ?_
            refine (am_e0 rfl rfl).trans ?_
            refine (am_e0 rfl rfl).trans ?_
            refine (am_e0 rfl rfl).trans ?_
            refine (am_cal3 (z := 197) (k := 4) (c := (am_ob x0 11)) rfl rfl rfl rfl rfl rfl rfl rfl).trans ((am_g_t h101).trans ?_)
            refine am_bind_congr fun r118 => ?_
            show am_Ex d 302 66 [(2, x0), (0, r102.1), (0, r105.1), (0, r111.1), (0, v114)] [] r118.2 = _
            exact (am_e5 rfl).trans rfl
        · exact (am_e5 rfl).trans rfl
      · refine (am_e0 rfl rfl).trans ?_
        refine (am_e0 rfl rfl).trans ?_
        refine (am_e0 rfl rfl).trans ?_
        refine (am_z_ne rfl).trans (am_if_congr (fun c119 => ?_) (fun c119 => ?_))
        · refine (am_e0 rfl rfl).trans ?_
          refine (am_e0 rfl rfl).trans ?_
          refine (am_e0 rfl rfl).trans ?_
          refine (am_cal3 (z := 225) (k := 3) (c := (am_ob x0 11)) rfl rfl rfl rfl rfl rfl rfl rfl).trans ((am_g_t h101).trans ?_)
          refine am_bind_congr fun r120 => ?_
          show am_Ex d 302 60 [(2, x0), (0, r102.1), (0, r105.1), (0, r111.1), (0, 0)] [(0, r120.1)] r120.2 = _
          refine (am_z_eq rfl).trans (am_if_congr (fun c121 => ?_) (fun c121 => ?_))
          · exact (am_e5 rfl).trans rfl
          · refine (am_e0 rfl rfl).trans ?_
            refine (am_e0 rfl rfl).trans ?_
            refine (am_e0 rfl rfl).trans ?_
            refine (am_e0 rfl rfl).trans ?_
            refine (am_cal3 (z := 197) (k := 4) (c := (am_ob x0 11)) rfl rfl rfl rfl rfl rfl rfl rfl).trans ((am_g_t h101).trans ?_)
            refine am_bind_congr fun r122 => ?_
            show am_Ex d 302 66 [(2, x0), (0, r102.1), (0, r105.1), (0, r111.1), (0, 0)] [] r122.2 = _
            exact (am_e5 rfl).trans rfl
        · exact (am_e5 rfl).trans rfl
  · refine (am_e0 rfl rfl).trans ?_
    refine (am_gf (c := 11) (t := 2) rfl rfl rfl).trans ((am_g_t h101).trans ?_)
    refine (am_e0 rfl rfl).trans ?_
    refine (am_ial rfl).trans (am_g_congr fun h123 => ?_)
    refine (am_e0 rfl rfl).trans ?_
    refine (am_i_ge rfl).trans (am_if_congr (fun c124 => ?_) (fun c124 => ?_))
    · refine (am_e0 rfl rfl).trans ?_
      refine (am_cal3 (z := 296) (k := 1) (c := (am_ob x0 11)) rfl rfl rfl rfl rfl rfl rfl rfl).trans ((am_g_t h101).trans ?_)
      refine am_bind_congr fun r125 => ?_
      show am_Ex d 302 15 [(2, x0), (0, r102.1), am_N, am_N, am_N] [] r125.2 = _
      refine (am_e5 rfl).trans ?_
      show am_Ex d 302 16 [am_N, am_N, am_N, am_N, am_N] [] r125.2 = _
      exact (am_e4v rfl rfl).trans rfl
    · refine (am_e5 rfl).trans ?_
      show am_Ex d 302 16 [am_N, am_N, am_N, am_N, am_N] [] r102.2 = _
      exact (am_e4v rfl rfl).trans rfl
set_option maxRecDepth 10000 in
theorem aq_302_67 (d : Nat) (x0 x1 x2 x3 x4 : Int) (M : am_M) : am_Ex d 302 67 [(2, x0), (0, x1), (0, x2), (0, x3), (0, x4)] [] M = (if x1 = 1 then (am_g (am_ob x0 11) <| (am_Call d 196 [(2, x0), (0, x2)] M).bind fun r103 => if r103.1 = 0 then (am_Ex d 302 80 [(2, x0), (0, x1), (0, x2), (0, x3), am_N] [] r103.2) else ((am_Call d 266 [(2, x0), (0, x2), (0, x3), (0, x4)] r103.2).bind fun r105 => am_Ex d 302 80 [(2, x0), (0, x1), (0, x2), (0, x3), am_N] [] r105.2)) else (am_Ex d 302 80 [(2, x0), (0, x1), (0, x2), (0, x3), am_N] [] M)) := by
  refine (am_e0 rfl rfl).trans ?_
  refine (am_e0 rfl rfl).trans ?_
  refine (am_i_ne rfl).trans (am_if_congr (fun c101 => ?_) (fun c101 => ?_))
  · refine (am_e0 rfl rfl).trans ?_
    refine (am_e0 rfl rfl).trans ?_
    refine (am_cal3 (z := 196) (k := 2) (c := (am_ob x0 11)) rfl rfl rfl rfl rfl rfl rfl rfl).trans (am_g_congr fun h102 => ?_)
    refine am_bind_congr fun r103 => ?_
    show am_Ex d 302 73 [(2, x0), (0, x1), (0, x2), (0, x3), (0, x4)] [(0, r103.1)] r103.2 = _
    refine (am_z_eq rfl).trans (am_if_congr (fun c104 => ?_) (fun c104 => ?_))
    · exact (am_e5 rfl).trans rfl
    · refine (am_e0 rfl rfl).trans ?_
      refine (am_e0 rfl rfl).trans ?_
      refine (am_e0 rfl rfl).trans ?_
      refine (am_e0 rfl rfl).trans ?_
      refine (am_cal3 (z := 266) (k := 4) (c := (am_ob x0 11)) rfl rfl rfl rfl rfl rfl rfl rfl).trans ((am_g_t h102).trans ?_)
      refine am_bind_congr fun r105 => ?_
      show am_Ex d 302 79 [(2, x0), (0, x1), (0, x2), (0, x3), (0, x4)] [] r105.2 = _
      exact (am_e5 rfl).trans rfl
  · exact (am_e5 rfl).trans rfl
set_option maxRecDepth 10000 in
theorem aq_302_80 (d : Nat) (x0 x1 x2 x3 : Int) (M : am_M) : am_Ex d 302 80 [(2, x0), (0, x1), (0, x2), (0, x3), am_N] [] M = (if x1 = 2 then (am_g (am_ob x0 11) <| (am_Call d 196 [(2, x0), (0, x2)] M).bind fun r103 => if r103.1 = 0 then (some (0, r103.2)) else (am_g (am_ar (am_rd r103.2 x0 0) 20 (am_w32 (204 + x2))) <| am_let (am_wr r103.2 (am_rd r103.2 x0 0) (am_w32 (204 + x2)) (am_xor (am_rd r103.2 (am_rd r103.2 x0 0) (am_w32 (204 + x2))) (am_shl 1 x3))) fun M106 => some (0, M106))) else (some (0, M))) := by
  refine (am_e0 rfl rfl).trans ?_
  refine (am_e0 rfl rfl).trans ?_
  refine (am_i_ne rfl).trans (am_if_congr (fun c101 => ?_) (fun c101 => ?_))
  · refine (am_e0 rfl rfl).trans ?_
    refine (am_e0 rfl rfl).trans ?_
    refine (am_cal3 (z := 196) (k := 2) (c := (am_ob x0 11)) rfl rfl rfl rfl rfl rfl rfl rfl).trans (am_g_congr fun h102 => ?_)
    refine am_bind_congr fun r103 => ?_
    show am_Ex d 302 86 [(2, x0), (0, x1), (0, x2), (0, x3), am_N] [(0, r103.1)] r103.2 = _
    refine (am_z_eq rfl).trans (am_if_congr (fun c104 => ?_) (fun c104 => ?_))
    · refine (am_e5 rfl).trans ?_
      show am_Ex d 302 104 [am_N, am_N, am_N, am_N, am_N] [] r103.2 = _
      exact (am_e4v rfl rfl).trans rfl
    · refine (am_e0 rfl rfl).trans ?_
      refine (am_gf (c := 11) (t := 2) rfl rfl rfl).trans ((am_g_t h102).trans ?_)
      refine (am_e0 rfl rfl).trans ?_
      refine (am_e0 rfl rfl).trans ?_
      refine (am_e0 rfl rfl).trans ?_
      refine (am_e0 rfl rfl).trans ?_
      refine (am_gf (c := 11) (t := 2) rfl rfl rfl).trans ((am_g_t h102).trans ?_)
      refine (am_e0 rfl rfl).trans ?_
      refine (am_e0 rfl rfl).trans ?_
      refine (am_e0 rfl rfl).trans ?_
      refine (am_ial rfl).trans (am_g_congr fun h105 => ?_)
      refine (am_e0 rfl rfl).trans ?_
      refine (am_e0 rfl rfl).trans ?_
      refine (am_e0 rfl rfl).trans ?_
      refine (am_e0 rfl rfl).trans ?_
      refine (am_ias rfl).trans ((am_g_t h105).trans ?_)
      refine am_letm (fun M106 => ?_)
      refine (am_e5 rfl).trans ?_
      show am_Ex d 302 104 [am_N, am_N, am_N, am_N, am_N] [] M106 = _
      exact (am_e4v rfl rfl).trans rfl
  · refine (am_e5 rfl).trans ?_
    show am_Ex d 302 104 [am_N, am_N, am_N, am_N, am_N] [] M = _
    exact (am_e4v rfl rfl).trans rfl
-- 303: UnlearnedHandModel.winters(II)I
set_option maxRecDepth 10000 in
theorem aq_303 (d : Nat) (x0 x1 x2 : Int) (M : am_M) : am_Call d 303 [(2, x0), (0, x1), (0, x2)] M = ((am_Call d 64 [(0, x1), (0, 0), (0, 9999)] M).bind fun r101 => if r101.1 = 0 then (some ((-1), r101.2)) else ((am_Call d 64 [(0, x2), (0, 1), (0, 30)] r101.2).bind fun r103 => if r103.1 = 0 then (some ((-1), r103.2)) else (am_g (am_ob x0 11) <| am_g (am_ar (am_rd r103.2 x0 0) 20 1) <| if am_rd r103.2 (am_rd r103.2 x0 0) 1 = 0 then (some ((-1), r103.2)) else (am_g (am_ar (am_rd r103.2 x0 0) 20 0) <| if am_rd r103.2 (am_rd r103.2 x0 0) 0 = 0 then (some ((-1), r103.2)) else ((am_Call d 68 [(2, x0)] r103.2).bind fun r110 => am_g (am_ar (am_rd r110.2 x0 0) 20 223) <| am_let (am_wr r110.2 (am_rd r110.2 x0 0) 223 (am_w32 ((am_w32 (x1 * 2)) + 73))) fun M112 => am_Ex d 303 37 [(2, x0), am_N, (0, x2), (0, 0)] [] M112))))) := by
  show am_Ex d 303 0 [(2, x0), (0, x1), (0, x2), am_N] [] M = _
  refine (am_e0 rfl rfl).trans ?_
  refine (am_e0 rfl rfl).trans ?_
  refine (am_e0 rfl rfl).trans ?_
  refine (am_cal3 (z := 64) (k := 3) (c := true) rfl rfl rfl rfl rfl rfl rfl rfl).trans ((am_g_t rfl).trans ?_)
  refine am_bind_congr fun r101 => ?_
  show am_Ex d 303 4 [(2, x0), (0, x1), (0, x2), am_N] [(0, r101.1)] r101.2 = _
  refine (am_z_eq rfl).trans (am_if_congr (fun c102 => ?_) (fun c102 => ?_))
  · refine (am_e5 rfl).trans ?_
    show am_Ex d 303 21 [am_N, am_N, am_N, am_N] [] r101.2 = _
    refine (am_e0 rfl rfl).trans ?_
    exact (am_e4i rfl rfl).trans rfl
  · refine (am_e0 rfl rfl).trans ?_
    refine (am_e0 rfl rfl).trans ?_
    refine (am_e0 rfl rfl).trans ?_
    refine (am_cal3 (z := 64) (k := 3) (c := true) rfl rfl rfl rfl rfl rfl rfl rfl).trans ((am_g_t rfl).trans ?_)
    refine am_bind_congr fun r103 => ?_
    show am_Ex d 303 9 [(2, x0), (0, x1), (0, x2), am_N] [(0, r103.1)] r103.2 = _
    refine (am_z_eq rfl).trans (am_if_congr (fun c104 => ?_) (fun c104 => ?_))
    · refine (am_e5 rfl).trans ?_
      show am_Ex d 303 21 [am_N, am_N, am_N, am_N] [] r103.2 = _
      refine (am_e0 rfl rfl).trans ?_
      exact (am_e4i rfl rfl).trans rfl
    · refine (am_e0 rfl rfl).trans ?_
      refine (am_gf (c := 11) (t := 2) rfl rfl rfl).trans (am_g_congr fun h105 => ?_)
      refine (am_e0 rfl rfl).trans ?_
      refine (am_ial rfl).trans (am_g_congr fun h106 => ?_)
      refine (am_z_eq rfl).trans (am_if_congr (fun c107 => ?_) (fun c107 => ?_))
      · refine (am_e5 rfl).trans ?_
        show am_Ex d 303 21 [am_N, am_N, am_N, am_N] [] r103.2 = _
        refine (am_e0 rfl rfl).trans ?_
        exact (am_e4i rfl rfl).trans rfl
      · refine (am_e0 rfl rfl).trans ?_
        refine (am_gf (c := 11) (t := 2) rfl rfl rfl).trans ((am_g_t h105).trans ?_)
        refine (am_e0 rfl rfl).trans ?_
        refine (am_ial rfl).trans (am_g_congr fun h108 => ?_)
        refine (am_z_ne rfl).trans (am_if_congr (fun c109 => ?_) (fun c109 => ?_))
        · refine (am_e5 rfl).trans ?_
          show am_Ex d 303 21 [am_N, am_N, am_N, am_N] [] r103.2 = _
          refine (am_e0 rfl rfl).trans ?_
          exact (am_e4i rfl rfl).trans rfl
        · refine (am_e0 rfl rfl).trans ?_
          refine (am_cal3 (z := 68) (k := 1) (c := (am_ob x0 11)) rfl rfl rfl rfl rfl rfl rfl rfl).trans ((am_g_t h105).trans ?_)
          refine am_bind_congr fun r110 => ?_
          show am_Ex d 303 25 [(2, x0), (0, x1), (0, x2), am_N] [] r110.2 = _
          refine (am_e0 rfl rfl).trans ?_
          refine (am_gf (c := 11) (t := 2) rfl rfl rfl).trans ((am_g_t h105).trans ?_)
          refine (am_e0 rfl rfl).trans ?_
          refine (am_e0 rfl rfl).trans ?_
          refine (am_e0 rfl rfl).trans ?_
          refine (am_e0 rfl rfl).trans ?_
          refine (am_e0 rfl rfl).trans ?_
          refine (am_e0 rfl rfl).trans ?_
          refine (am_ias rfl).trans (am_g_congr fun h111 => ?_)
          refine am_letm (fun M112 => ?_)
          refine (am_e0 rfl rfl).trans ?_
          refine (am_e0 rfl rfl).trans ?_
          exact (am_e5 rfl).trans rfl
set_option maxRecDepth 10000 in
theorem aq_303_37 (d : Nat) (x0 x2 x3 : Int) (M : am_M) : am_Ex d 303 37 [(2, x0), am_N, (0, x2), (0, x3)] [] M = (if x3 < x2 then (am_g (am_ob x0 11) <| (am_Call d 302 [(2, x0)] M).bind fun r103 => am_let (am_w32 (x3 + 1)) fun v104 => am_Ex d 303 37 [(2, x0), am_N, (0, x2), (0, v104)] [] r103.2) else (am_g (am_ob x0 11) <| (am_Call d 91 [(2, x0)] M).bind fun r106 => some (r106.1, r106.2))) := by
  refine (am_e0 rfl rfl).trans ?_
  refine (am_e0 rfl rfl).trans ?_
  refine (am_i_ge rfl).trans (am_if_congr (fun c101 => ?_) (fun c101 => ?_))
  · refine (am_e0 rfl rfl).trans ?_
    refine (am_cal3 (z := 302) (k := 1) (c := (am_ob x0 11)) rfl rfl rfl rfl rfl rfl rfl rfl).trans (am_g_congr fun h102 => ?_)
    refine am_bind_congr fun r103 => ?_
    show am_Ex d 303 42 [(2, x0), am_N, (0, x2), (0, x3)] [] r103.2 = _
    refine (am_e0 rfl rfl).trans ?_
    refine am_lets (L := fun v104 => [(2, x0), am_N, (0, x2), (0, v104)]) (fun v104 => ?_)
    refine (am_e1 rfl rfl).trans ?_
    exact (am_e5 rfl).trans rfl
  · refine (am_e0 rfl rfl).trans ?_
    refine (am_cal3 (z := 91) (k := 1) (c := (am_ob x0 11)) rfl rfl rfl rfl rfl rfl rfl rfl).trans (am_g_congr fun h105 => ?_)
    refine am_bind_congr fun r106 => ?_
    show am_Ex d 303 46 [(2, x0), am_N, (0, x2), (0, x3)] [(0, r106.1)] r106.2 = _
    exact (am_e4i rfl rfl).trans rfl
-- 304: UnlearnedHandModel.nights(I)Z
set_option maxRecDepth 10000 in
theorem aq_304 (d : Nat) (x0 x1 : Int) (M : am_M) : am_Call d 304 [(2, x0), (0, x1)] M = (am_Ex d 304 3 [(2, x0), (0, x1), (0, 0)] [] M) := by
  show am_Ex d 304 0 [(2, x0), (0, x1), am_N] [] M = _
  refine (am_e0 rfl rfl).trans ?_
  refine (am_e0 rfl rfl).trans ?_
  exact (am_e5 rfl).trans rfl
set_option maxRecDepth 10000 in
theorem aq_304_3 (d : Nat) (x0 x1 x2 : Int) (M : am_M) : am_Ex d 304 3 [(2, x0), (0, x1), (0, x2)] [] M = (if x2 < x1 then (am_g (am_ob x0 11) <| (am_Call d 301 [(2, x0), (0, 1)] M).bind fun r103 => if r103.1 = (-1) then (some (0, r103.2)) else (am_let (am_w32 (x2 + 1)) fun v105 => am_Ex d 304 3 [(2, x0), (0, x1), (0, v105)] [] r103.2)) else (some (1, M))) := by
  refine (am_e0 rfl rfl).trans ?_
  refine (am_e0 rfl rfl).trans ?_
  refine (am_i_ge rfl).trans (am_if_congr (fun c101 => ?_) (fun c101 => ?_))
  · refine (am_e0 rfl rfl).trans ?_
    refine (am_e0 rfl rfl).trans ?_
    refine (am_cal3 (z := 301) (k := 2) (c := (am_ob x0 11)) rfl rfl rfl rfl rfl rfl rfl rfl).trans (am_g_congr fun h102 => ?_)
    refine am_bind_congr fun r103 => ?_
    show am_Ex d 304 9 [(2, x0), (0, x1), (0, x2)] [(0, r103.1)] r103.2 = _
    refine (am_e0 rfl rfl).trans ?_
    refine (am_i_ne rfl).trans (am_if_congr (fun c104 => ?_) (fun c104 => ?_))
    · refine (am_e0 rfl rfl).trans ?_
      exact (am_e4i rfl rfl).trans rfl
    · refine (am_e0 rfl rfl).trans ?_
      refine am_lets (L := fun v105 => [(2, x0), (0, x1), (0, v105)]) (fun v105 => ?_)
      refine (am_e1 rfl rfl).trans ?_
      exact (am_e5 rfl).trans rfl
  · refine (am_e0 rfl rfl).trans ?_
    exact (am_e4i rfl rfl).trans rfl
-- 305: UnlearnedHandModel.played(I)I
set_option maxRecDepth 10000 in
theorem aq_305 (d : Nat) (x0 x1 : Int) (M : am_M) : am_Call d 305 [(2, x0), (0, x1)] M = (am_g (am_ob x0 11) <| am_g (am_ar (am_rd M x0 0) 20 3) <| (am_Call d 64 [(0, x1), (0, 0), (0, am_w32 ((am_rd M (am_rd M x0 0) 3) - 1))] M).bind fun r103 => if r103.1 = 0 then (some ((-2), r103.2)) else (am_Ex d 305 15 [(2, x0), (0, x1), (0, 0), am_N, am_N, am_N, am_N] [] r103.2)) := by
  show am_Ex d 305 0 [(2, x0), (0, x1), am_N, am_N, am_N, am_N, am_N] [] M = _
  refine (am_e0 rfl rfl).trans ?_
  refine (am_e0 rfl rfl).trans ?_
  refine (am_e0 rfl rfl).trans ?_
  refine (am_gf (c := 11) (t := 2) rfl rfl rfl).trans (am_g_congr fun h101 => ?_)
  refine (am_e0 rfl rfl).trans ?_
  refine (am_ial rfl).trans (am_g_congr fun h102 => ?_)
  refine (am_e0 rfl rfl).trans ?_
  refine (am_e0 rfl rfl).trans ?_
  refine (am_cal3 (z := 64) (k := 3) (c := true) rfl rfl rfl rfl rfl rfl rfl rfl).trans ((am_g_t rfl).trans ?_)
  refine am_bind_congr fun r103 => ?_
  show am_Ex d 305 9 [(2, x0), (0, x1), am_N, am_N, am_N, am_N, am_N] [(0, r103.1)] r103.2 = _
  refine (am_z_ne rfl).trans (am_if_congr (fun c104 => ?_) (fun c104 => ?_))
  · refine (am_e0 rfl rfl).trans ?_
    exact (am_e4i rfl rfl).trans rfl
  · refine (am_e0 rfl rfl).trans ?_
    refine (am_e0 rfl rfl).trans ?_
    exact (am_e5 rfl).trans rfl
set_option maxRecDepth 10000 in
theorem aq_305_15 (d : Nat) (x0 x1 x2 : Int) (M : am_M) : am_Ex d 305 15 [(2, x0), (0, x1), (0, x2), am_N, am_N, am_N, am_N] [] M = (am_g (am_ob x0 11) <| am_g (am_ar (am_rd M x0 6) 20 x1) <| if x2 < am_rd M (am_rd M x0 6) x1 then (am_let (am_w32 ((am_w32 (24 * x1)) + x2)) fun v104 => am_g (am_ar (am_rd M x0 9) 20 v104) <| am_let (am_rd M (am_rd M x0 9) v104) fun v106 => am_g (am_ar (am_rd M x0 10) 20 v104) <| am_let (am_rd M (am_rd M x0 10) v104) fun v108 => am_g (am_ar (am_rd M x0 7) 20 v104) <| if am_rd M (am_rd M x0 7) v104 = 4 then (am_g (am_ar (am_rd M x0 11) 20 v104) <| (am_Call d 253 [(2, x0), (0, v106), (0, v108), (0, am_rd M (am_rd M x0 11) v104)] M).bind fun r112 => if r112.1 = (-1) then (am_Ex d 305 139 [(2, x0), (0, x1), (0, x2), am_N, am_N, am_N, (0, 0)] [] r112.2) else (am_Ex d 305 139 [(2, x0), (0, x1), (0, x2), am_N, am_N, am_N, (0, 1)] [] r112.2)) else if am_rd M (am_rd M x0 7) v104 = 5 then (am_g (am_ar (am_rd M x0 11) 20 v104) <| (am_Call d 283 [(2, x0), (0, v106), (0, v108), (0, am_rd M (am_rd M x0 11) v104)] M).bind fun r116 => if r116.1 = (-1) then (am_Ex d 305 139 [(2, x0), (0, x1), (0, x2), am_N, am_N, am_N, (0, 0)] [] r116.2) else (am_Ex d 305 139 [(2, x0), (0, x1), (0, x2), am_N, am_N, am_N, (0, 1)] [] r116.2)) else if am_rd M (am_rd M x0 7) v104 = 6 then ((am_Call d 226 [(2, x0), (0, v106)] M).bind fun r119 => am_Ex d 305 139 [(2, x0), (0, x1), (0, x2), am_N, am_N, am_N, (0, r119.1)] [] r119.2) else if am_rd M (am_rd M x0 7) v104 = 7 then ((am_Call d 144 [(2, x0), (0, v106)] M).bind fun r121 => if r121.1 = 0 then (am_Ex d 305 103 [(2, x0), (0, x1), (0, x2), am_N, am_N, am_N, am_N] [] r121.2) else (am_g (am_ar (am_rd r121.2 x0 0) 20 (am_w32 (204 + v106))) <| (am_Call d 65 [(0, am_rd r121.2 (am_rd r121.2 x0 0) (am_w32 (204 + v106))), (0, v108)] r121.2).bind fun r124 => if r124.1 = 0 then ((am_Call d 227 [(2, x0), (0, v106), (0, v108), (0, 1)] r124.2).bind fun r126 => if r126.1 = 0 then (am_Ex d 305 103 [(2, x0), (0, x1), (0, x2), am_N, am_N, am_N, am_N] [] r126.2) else (am_Ex d 305 139 [(2, x0), (0, x1), (0, x2), am_N, am_N, am_N, (0, 1)] [] r126.2)) else ((am_Call d 227 [(2, x0), (0, v106), (0, v108), (0, 0)] r124.2).bind fun r128 => if r128.1 = 0 then (am_Ex d 305 103 [(2, x0), (0, x1), (0, x2), am_N, am_N, am_N, am_N] [] r128.2) else (am_Ex d 305 139 [(2, x0), (0, x1), (0, x2), am_N, am_N, am_N, (0, 1)] [] r128.2)))) else if am_rd M (am_rd M x0 7) v104 = 8 then ((am_Call d 228 [(2, x0), (0, v106), (0, v108)] M).bind fun r131 => am_Ex d 305 139 [(2, x0), (0, x1), (0, x2), am_N, am_N, am_N, (0, r131.1)] [] r131.2) else if am_rd M (am_rd M x0 7) v104 = 9 then ((am_Call d 229 [(2, x0), (0, v108), (0, v106)] M).bind fun r133 => if r133.1 = (-1) then (am_Ex d 305 139 [(2, x0), (0, x1), (0, x2), am_N, am_N, am_N, (0, 0)] [] r133.2) else (am_Ex d 305 139 [(2, x0), (0, x1), (0, x2), am_N, am_N, am_N, (0, 1)] [] r133.2)) else if am_rd M (am_rd M x0 7) v104 = 10 then ((am_Call d 284 [(2, x0), (0, v106)] M).bind fun r136 => if r136.1 = (-1) then (am_Ex d 305 139 [(2, x0), (0, x1), (0, x2), am_N, am_N, am_N, (0, 0)] [] r136.2) else (am_Ex d 305 139 [(2, x0), (0, x1), (0, x2), am_N, am_N, am_N, (0, 1)] [] r136.2)) else if am_rd M (am_rd M x0 7) v104 = 11 then ((am_Call d 304 [(2, x0), (0, v106)] M).bind fun r139 => am_Ex d 305 139 [(2, x0), (0, x1), (0, x2), am_N, am_N, am_N, (0, r139.1)] [] r139.2) else (am_Ex d 305 139 [(2, x0), (0, x1), (0, x2), am_N, am_N, am_N, (0, 1)] [] M)) else (some ((-1), M))) := by
  refine (am_e0 rfl rfl).trans ?_
  refine (am_e0 rfl rfl).trans ?_
  refine (am_gf (c := 11) (t := 2) rfl rfl rfl).trans (am_g_congr fun h101 => ?_)
  refine (am_e0 rfl rfl).trans ?_
  refine (am_ial rfl).trans (am_g_congr fun h102 => ?_)
  refine (am_i_ge rfl).trans (am_if_congr (fun c103 => ?_) (fun c103 => ?_))
  · refine (am_e0 rfl rfl).trans ?_
    refine (am_e0 rfl rfl).trans ?_
    refine (am_e0 rfl rfl).trans ?_
    refine (am_e0 rfl rfl).trans ?_
    refine (am_e0 rfl rfl).trans ?_
    refine (am_e0 rfl rfl).trans ?_
    refine am_lets (L := fun v104 => [(2, x0), (0, x1), (0, x2), (0, v104), am_N, am_N, am_N]) (fun v104 => ?_)
    refine (am_e0 rfl rfl).trans ?_
    refine (am_gf (c := 11) (t := 2) rfl rfl rfl).trans ((am_g_t h101).trans ?_)
    refine (am_e0 rfl rfl).trans ?_
    refine (am_ial rfl).trans (am_g_congr fun h105 => ?_)
    refine (am_e0 rfl rfl).trans ?_
    refine am_lets (L := fun v106 => [(2, x0), (0, x1), (0, x2), (0, v104), (0, v106), am_N, am_N]) (fun v106 => ?_)
    refine (am_e0 rfl rfl).trans ?_
    refine (am_gf (c := 11) (t := 2) rfl rfl rfl).trans ((am_g_t h101).trans ?_)
    refine (am_e0 rfl rfl).trans ?_
    refine (am_ial rfl).trans (am_g_congr fun h107 => ?_)
    refine (am_e0 rfl rfl).trans ?_
    refine am_lets (L := fun v108 => [(2, x0), (0, x1), (0, x2), (0, v104), (0, v106), (0, v108), am_N]) (fun v108 => ?_)
    refine (am_e0 rfl rfl).trans ?_
    refine (am_e0 rfl rfl).trans ?_
    refine (am_e0 rfl rfl).trans ?_
    refine (am_gf (c := 11) (t := 2) rfl rfl rfl).trans ((am_g_t h101).trans ?_)
    refine (am_e0 rfl rfl).trans ?_
    refine (am_ial rfl).trans (am_g_congr fun h109 => ?_)
    refine (am_tsw rfl).trans ?_
    refine (am_sw_c).trans (am_if_congr (fun c110 => ?_) (fun c110 => ?_))
    · refine (am_e0 rfl rfl).trans ?_
      refine (am_e0 rfl rfl).trans ?_
      refine (am_e0 rfl rfl).trans ?_
      refine (am_e0 rfl rfl).trans ?_
      refine (am_gf (c := 11) (t := 2) rfl rfl rfl).trans ((am_g_t h101).trans ?_)
      refine (am_e0 rfl rfl).trans ?_
      refine (am_ial rfl).trans (am_g_congr fun h111 => ?_)
      refine (am_cal3 (z := 253) (k := 4) (c := (am_ob x0 11)) rfl rfl rfl rfl rfl rfl rfl rfl).trans ((am_g_t h101).trans ?_)
      refine am_bind_congr fun r112 => ?_
      show am_Ex d 305 52 [(2, x0), (0, x1), (0, x2), (0, v104), (0, v106), (0, v108), (0, 1)] [(0, r112.1)] r112.2 = _
      refine (am_e0 rfl rfl).trans ?_
      refine (am_i_eq rfl).trans (am_if_congr (fun c113 => ?_) (fun c113 => ?_))
      · refine (am_e0 rfl rfl).trans ?_
        refine (am_e0 rfl rfl).trans ?_
        refine (am_e1 rfl rfl).trans ?_
        exact (am_e5 rfl).trans rfl
      · refine (am_e0 rfl rfl).trans ?_
        refine (am_e1 rfl rfl).trans ?_
        refine (am_e0 rfl rfl).trans ?_
        refine (am_e1 rfl rfl).trans ?_
        exact (am_e5 rfl).trans rfl
    refine (am_sw_c).trans (am_if_congr (fun c114 => ?_) (fun c114 => ?_))
    · refine (am_e0 rfl rfl).trans ?_
      refine (am_e0 rfl rfl).trans ?_
      refine (am_e0 rfl rfl).trans ?_
      refine (am_e0 rfl rfl).trans ?_
      refine (am_gf (c := 11) (t := 2) rfl rfl rfl).trans ((am_g_t h101).trans ?_)
      refine (am_e0 rfl rfl).trans ?_
      refine (am_ial rfl).trans (am_g_congr fun h115 => ?_)
      refine (am_cal3 (z := 283) (k := 4) (c := (am_ob x0 11)) rfl rfl rfl rfl rfl rfl rfl rfl).trans ((am_g_t h101).trans ?_)
      refine am_bind_congr fun r116 => ?_
      show am_Ex d 305 67 [(2, x0), (0, x1), (0, x2), (0, v104), (0, v106), (0, v108), (0, 1)] [(0, r116.1)] r116.2 = _
      refine (am_e0 rfl rfl).trans ?_
      refine (am_i_eq rfl).trans (am_if_congr (fun c117 => ?_) (fun c117 => ?_))
      · refine (am_e0 rfl rfl).trans ?_
        refine (am_e0 rfl rfl).trans ?_
        refine (am_e1 rfl rfl).trans ?_
        exact (am_e5 rfl).trans rfl
      · refine (am_e0 rfl rfl).trans ?_
        refine (am_e1 rfl rfl).trans ?_
        refine (am_e0 rfl rfl).trans ?_
        refine (am_e1 rfl rfl).trans ?_
        exact (am_e5 rfl).trans rfl
    refine (am_sw_c).trans (am_if_congr (fun c118 => ?_) (fun c118 => ?_))
    · refine (am_e0 rfl rfl).trans ?_
      refine (am_e0 rfl rfl).trans ?_
      refine (am_cal3 (z := 226) (k := 2) (c := (am_ob x0 11)) rfl rfl rfl rfl rfl rfl rfl rfl).trans ((am_g_t h101).trans ?_)
      refine am_bind_congr fun r119 => ?_
      show am_Ex d 305 77 [(2, x0), (0, x1), (0, x2), (0, v104), (0, v106), (0, v108), (0, 1)] [(0, r119.1)] r119.2 = _
      refine (am_e0 rfl rfl).trans ?_
      refine (am_e1 rfl rfl).trans ?_
      exact (am_e5 rfl).trans rfl
    refine (am_sw_c).trans (am_if_congr (fun c120 => ?_) (fun c120 => ?_))
    · refine (am_e0 rfl rfl).trans ?_
      refine (am_e0 rfl rfl).trans ?_
      refine (am_cal3 (z := 144) (k := 2) (c := (am_ob x0 11)) rfl rfl rfl rfl rfl rfl rfl rfl).trans ((am_g_t h101).trans ?_)
      refine am_bind_congr fun r121 => ?_
      show am_Ex d 305 82 [(2, x0), (0, x1), (0, x2), (0, v104), (0, v106), (0, v108), (0, 1)] [(0, r121.1)] r121.2 = _
      refine (am_z_eq rfl).trans (am_if_congr (fun c122 => ?_) (fun c122 => ?_))
      · exact (am_e5 rfl).trans rfl
      · refine (am_e0 rfl rfl).trans ?_
        refine (am_e0 rfl rfl).trans ?_
        refine (am_e0 rfl rfl).trans ?_
        refine (am_e0 rfl rfl).trans ?_
        refine (am_gf (c := 11) (t := 2) rfl rfl rfl).trans ((am_g_t h101).trans ?_)
        refine (am_e0 rfl rfl).trans ?_
        refine (am_e0 rfl rfl).trans ?_
        refine (am_e0 rfl rfl).trans ?_
        refine (am_ial rfl).trans (am_g_congr fun h123 => ?_)
        refine (am_e0 rfl rfl).trans ?_
        refine (am_cal3 (z := 65) (k := 2) (c := true) rfl rfl rfl rfl rfl rfl rfl rfl).trans ((am_g_t rfl).trans ?_)
        refine am_bind_congr fun r124 => ?_
        show am_Ex d 305 94 [(2, x0), (0, x1), (0, x2), (0, v104), (0, v106), (0, v108), (0, 1)] [(0, r124.1), (0, v108), (0, v106), (2, x0)] r124.2 = _
        refine (am_z_ne rfl).trans (am_if_congr (fun c125 => ?_) (fun c125 => ?_))
        · refine (am_e0 rfl rfl).trans ?_
          refine (am_e1 rfl rfl).trans ?_
          refine (am_cal3 (z := 227) (k := 4) (c := (am_ob x0 11)) rfl rfl rfl rfl rfl rfl rfl rfl).trans ((am_g_t h101).trans ?_)
          refine am_bind_congr fun r126 => ?_
          show am_Ex d 305 99 [(2, x0), (0, x1), (0, x2), (0, v104), (0, v106), (0, v108), (0, 1)] [(0, r126.1)] r126.2 = _
          refine (am_z_eq rfl).trans (am_if_congr (fun c127 => ?_) (fun c127 => ?_))
          · exact (am_e5 rfl).trans rfl
          · refine (am_e0 rfl rfl).trans ?_
            refine (am_e1 rfl rfl).trans ?_
            refine (am_e0 rfl rfl).trans ?_
            refine (am_e1 rfl rfl).trans ?_
            exact (am_e5 rfl).trans rfl
        · refine (am_e0 rfl rfl).trans ?_
          refine (am_cal3 (z := 227) (k := 4) (c := (am_ob x0 11)) rfl rfl rfl rfl rfl rfl rfl rfl).trans ((am_g_t h101).trans ?_)
          refine am_bind_congr fun r128 => ?_
          show am_Ex d 305 99 [(2, x0), (0, x1), (0, x2), (0, v104), (0, v106), (0, v108), (0, 1)] [(0, r128.1)] r128.2 = _
          refine (am_z_eq rfl).trans (am_if_congr (fun c129 => ?_) (fun c129 => ?_))
          · exact (am_e5 rfl).trans rfl
          · refine (am_e0 rfl rfl).trans ?_
            refine (am_e1 rfl rfl).trans ?_
            refine (am_e0 rfl rfl).trans ?_
            refine (am_e1 rfl rfl).trans ?_
            exact (am_e5 rfl).trans rfl
    refine (am_sw_c).trans (am_if_congr (fun c130 => ?_) (fun c130 => ?_))
    · refine (am_e0 rfl rfl).trans ?_
      refine (am_e0 rfl rfl).trans ?_
      refine (am_e0 rfl rfl).trans ?_
      refine (am_cal3 (z := 228) (k := 3) (c := (am_ob x0 11)) rfl rfl rfl rfl rfl rfl rfl rfl).trans ((am_g_t h101).trans ?_)
      refine am_bind_congr fun r131 => ?_
      show am_Ex d 305 110 [(2, x0), (0, x1), (0, x2), (0, v104), (0, v106), (0, v108), (0, 1)] [(0, r131.1)] r131.2 = _
      refine (am_e0 rfl rfl).trans ?_
      refine (am_e1 rfl rfl).trans ?_
      exact (am_e5 rfl).trans rfl
    refine (am_sw_c).trans (am_if_congr (fun c132 => ?_) (fun c132 => ?_))
    · refine (am_e0 rfl rfl).trans ?_
      refine (am_e0 rfl rfl).trans ?_
      refine (am_e0 rfl rfl).trans ?_
      refine (am_cal3 (z := 229) (k := 3) (c := (am_ob x0 11)) rfl rfl rfl rfl rfl rfl rfl rfl).trans ((am_g_t h101).trans ?_)
      refine am_bind_congr fun r133 => ?_
      show am_Ex d 305 116 [(2, x0), (0, x1), (0, x2), (0, v104), (0, v106), (0, v108), (0, 1)] [(0, r133.1)] r133.2 = _
      refine (am_e0 rfl rfl).trans ?_
      refine (am_i_eq rfl).trans (am_if_congr (fun c134 => ?_) (fun c134 => ?_))
      · refine (am_e0 rfl rfl).trans ?_
        refine (am_e0 rfl rfl).trans ?_
        refine (am_e1 rfl rfl).trans ?_
        exact (am_e5 rfl).trans rfl
      · refine (am_e0 rfl rfl).trans ?_
        refine (am_e1 rfl rfl).trans ?_
        refine (am_e0 rfl rfl).trans ?_
        refine (am_e1 rfl rfl).trans ?_
        exact (am_e5 rfl).trans rfl
    refine (am_sw_c).trans (am_if_congr (fun c135 => ?_) (fun c135 => ?_))
    · refine (am_e0 rfl rfl).trans ?_
      refine (am_e0 rfl rfl).trans ?_
      refine (am_cal3 (z := 284) (k := 2) (c := (am_ob x0 11)) rfl rfl rfl rfl rfl rfl rfl rfl).trans ((am_g_t h101).trans ?_)
      refine am_bind_congr fun r136 => ?_
      show am_Ex d 305 126 [(2, x0), (0, x1), (0, x2), (0, v104), (0, v106), (0, v108), (0, 1)] [(0, r136.1)] r136.2 = _
      refine (am_e0 rfl rfl).trans ?_
      refine (am_i_eq rfl).trans (am_if_congr (fun c137 => ?_) (fun c137 => ?_))
      · refine (am_e0 rfl rfl).trans ?_
        refine (am_e0 rfl rfl).trans ?_
        refine (am_e1 rfl rfl).trans ?_
        exact (am_e5 rfl).trans rfl
      · refine (am_e0 rfl rfl).trans ?_
        refine (am_e1 rfl rfl).trans ?_
        refine (am_e0 rfl rfl).trans ?_
        refine (am_e1 rfl rfl).trans ?_
        exact (am_e5 rfl).trans rfl
    refine (am_sw_c).trans (am_if_congr (fun c138 => ?_) (fun c138 => ?_))
    · refine (am_e0 rfl rfl).trans ?_
      refine (am_e0 rfl rfl).trans ?_
      refine (am_cal3 (z := 304) (k := 2) (c := (am_ob x0 11)) rfl rfl rfl rfl rfl rfl rfl rfl).trans ((am_g_t h101).trans ?_)
      refine am_bind_congr fun r139 => ?_
      show am_Ex d 305 136 [(2, x0), (0, x1), (0, x2), (0, v104), (0, v106), (0, v108), (0, 1)] [(0, r139.1)] r139.2 = _
      refine (am_e0 rfl rfl).trans ?_
      refine (am_e1 rfl rfl).trans ?_
      exact (am_e5 rfl).trans rfl
    refine (am_sw_n).trans ?_
    exact (am_e5 rfl).trans rfl
  · refine (am_e0 rfl rfl).trans ?_
    exact (am_e4i rfl rfl).trans rfl
set_option maxRecDepth 10000 in
theorem aq_305_139 (d : Nat) (x0 x1 x2 x6 : Int) (M : am_M) : am_Ex d 305 139 [(2, x0), (0, x1), (0, x2), am_N, am_N, am_N, (0, x6)] [] M = (if x6 = 0 then (some (x2, M)) else (am_let (am_w32 (x2 + 1)) fun v102 => am_Ex d 305 15 [(2, x0), (0, x1), (0, v102), am_N, am_N, am_N, am_N] [] M)) := by
  refine (am_e0 rfl rfl).trans ?_
  refine (am_z_ne rfl).trans (am_if_congr (fun c101 => ?_) (fun c101 => ?_))
  · refine (am_e0 rfl rfl).trans ?_
    exact (am_e4i rfl rfl).trans rfl
  · refine (am_e0 rfl rfl).trans ?_
    refine am_lets (L := fun v102 => [(2, x0), (0, x1), (0, v102), am_N, am_N, am_N, (0, x6)]) (fun v102 => ?_)
    refine (am_e1 rfl rfl).trans ?_
    exact (am_e5 rfl).trans rfl
set_option maxRecDepth 10000 in
theorem aq_305_103 (d : Nat) (x0 x1 x2 : Int) (M : am_M) : am_Ex d 305 103 [(2, x0), (0, x1), (0, x2), am_N, am_N, am_N, am_N] [] M = (am_Ex d 305 139 [(2, x0), (0, x1), (0, x2), am_N, am_N, am_N, (0, 0)] [] M) := by
  refine (am_e0 rfl rfl).trans ?_
  refine (am_e0 rfl rfl).trans ?_
  refine (am_e1 rfl rfl).trans ?_
  exact (am_e5 rfl).trans rfl
