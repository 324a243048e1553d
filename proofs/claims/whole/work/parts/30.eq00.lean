/-! equations of the methods 0 .. 32 -/
-- 0: UnlearnedHand$Deeds.<init>(LUnlearnedHand$Guild;LUnlearnedHand$Laws;)V
set_option maxRecDepth 10000 in
theorem aq_0 (d : Nat) (x0 x1 x2 : Int) (M : am_M) : am_Call d 0 [(2, x0), (2, x1), (2, x2)] M = (am_g (decide (0 < x0)) <| am_g (am_ob x0 0) <| am_let (am_wr M x0 0 x1) fun M103 => am_let (am_wr M103 x0 1 x2) fun M104 => some (0, M104)) := by
  show am_Ex d 0 0 [(2, x0), (2, x1), (2, x2)] [] M = _
  refine (am_e0 rfl rfl).trans ?_
  refine (am_e8 rfl rfl).trans (am_g_congr fun h101 => ?_)
  refine (am_e0 rfl rfl).trans ?_
  refine (am_e0 rfl rfl).trans ?_
  refine (am_pf (c := 0) rfl rfl rfl).trans (am_g_congr fun h102 => ?_)
  refine am_letm (fun M103 => ?_)
  refine (am_e0 rfl rfl).trans ?_
  refine (am_e0 rfl rfl).trans ?_
  refine (am_pf (c := 0) rfl rfl rfl).trans ((am_g_t h102).trans ?_)
  refine am_letm (fun M104 => ?_)
  exact (am_e4v rfl rfl).trans rfl
-- 1: UnlearnedHand$Deeds.draw(LUnlearnedHand$Hands;I)I
set_option maxRecDepth 10000 in
theorem aq_1 (d : Nat) (x0 x1 : Int) (M : am_M) : am_Call d 1 [(2, x0), (0, x1)] M = (if x1 < 1 then (am_g (am_ob x0 3) <| if (30293 : Int) = 0 then none else am_let (am_wr M x0 7 (am_rem (am_w32 ((am_w32 ((am_rd M x0 7) * 281)) + 179)) 30293)) fun M104 => some (0, M104)) else (am_g (am_ob x0 3) <| if (x1 : Int) = 0 then none else am_let (am_rem (am_rd M x0 7) x1) fun v107 => if (30293 : Int) = 0 then none else am_let (am_wr M x0 7 (am_rem (am_w32 ((am_w32 ((am_rd M x0 7) * 281)) + 179)) 30293)) fun M109 => some (v107, M109))) := by
  show am_Ex d 1 0 [(2, x0), (0, x1), am_N] [] M = _
  refine (am_e0 rfl rfl).trans ?_
  refine (am_e0 rfl rfl).trans ?_
  refine (am_i_ge rfl).trans (am_if_congr (fun c101 => ?_) (fun c101 => ?_))
  · refine (am_e0 rfl rfl).trans ?_
    refine (am_e1 rfl rfl).trans ?_
    refine (am_e0 rfl rfl).trans ?_
    refine (am_e0 rfl rfl).trans ?_
    refine (am_e0 rfl rfl).trans ?_
    refine (am_gf (c := 3) (t := 0) rfl rfl rfl).trans (am_g_congr fun h102 => ?_)
    refine (am_e0 rfl rfl).trans ?_
    refine (am_e0 rfl rfl).trans ?_
    refine (am_e0 rfl rfl).trans ?_
    refine (am_e0 rfl rfl).trans ?_
    refine (am_e0 rfl rfl).trans ?_
    refine (am_rmi rfl).trans (am_if_congr (fun _ => rfl) (fun c103 => ?_))
    refine (am_pf (c := 3) rfl rfl rfl).trans ((am_g_t h102).trans ?_)
    refine am_letm (fun M104 => ?_)
    refine (am_e0 rfl rfl).trans ?_
    exact (am_e4i rfl rfl).trans rfl
  · refine (am_e0 rfl rfl).trans ?_
    refine (am_gf (c := 3) (t := 0) rfl rfl rfl).trans (am_g_congr fun h105 => ?_)
    refine (am_e0 rfl rfl).trans ?_
    refine (am_rmi rfl).trans (am_if_congr (fun _ => rfl) (fun c106 => ?_))
    refine (am_e0 rfl rfl).trans ?_
    refine am_lets (L := fun v107 => [(2, x0), (0, x1), (0, v107)]) (fun v107 => ?_)
    refine (am_e0 rfl rfl).trans ?_
    refine (am_e0 rfl rfl).trans ?_
    refine (am_gf (c := 3) (t := 0) rfl rfl rfl).trans ((am_g_t h105).trans ?_)
    refine (am_e0 rfl rfl).trans ?_
    refine (am_e0 rfl rfl).trans ?_
    refine (am_e0 rfl rfl).trans ?_
    refine (am_e0 rfl rfl).trans ?_
    refine (am_e0 rfl rfl).trans ?_
    refine (am_rmi rfl).trans (am_if_congr (fun _ => rfl) (fun c108 => ?_))
    refine (am_pf (c := 3) rfl rfl rfl).trans ((am_g_t h105).trans ?_)
    refine am_letm (fun M109 => ?_)
    refine (am_e0 rfl rfl).trans ?_
    exact (am_e4i rfl rfl).trans rfl
-- 2: UnlearnedHand$Foresight.nextPlan(II)V
set_option maxRecDepth 10000 in
theorem aq_2 (d : Nat) (x0 x1 x2 : Int) (M : am_M) : am_Call d 2 [(2, x0), (0, x1), (0, x2)] M = (am_let (am_w32 ((min x1 4) - 1)) fun v101 => am_Ex d 2 7 [(2, x0), am_N, (0, x2), (0, v101)] [] M) := by
  show am_Ex d 2 0 [(2, x0), (0, x1), (0, x2), am_N] [] M = _
  refine (am_e0 rfl rfl).trans ?_
  refine (am_e0 rfl rfl).trans ?_
  refine (am_e10 (w := min x1 4) rfl rfl rfl).trans ?_
  refine (am_e0 rfl rfl).trans ?_
  refine (am_e0 rfl rfl).trans ?_
  refine (am_e0 rfl rfl).trans ?_
  refine am_lets (L := fun v101 => [(2, x0), (0, x1), (0, x2), (0, v101)]) (fun v101 => ?_)
  exact (am_e5 rfl).trans rfl
set_option maxRecDepth 10000 in
theorem aq_2_7 (d : Nat) (x0 x2 x3 : Int) (M : am_M) : am_Ex d 2 7 [(2, x0), am_N, (0, x2), (0, x3)] [] M = (if x3 < 0 then (some (0, M)) else (am_g (am_ob x0 1) <| am_g (am_ar (am_rd M x0 6) 20 x3) <| am_let (am_wr M (am_rd M x0 6) x3 (am_w32 ((am_rd M (am_rd M x0 6) x3) + 1))) fun M104 => am_g (am_ar (am_rd M104 x0 6) 20 x3) <| if am_rd M104 (am_rd M104 x0 6) x3 < x2 then (some (0, M104)) else (am_let (am_wr M104 (am_rd M104 x0 6) x3 0) fun M107 => am_let (am_w32 (x3 + (-1))) fun v108 => am_Ex d 2 7 [(2, x0), am_N, (0, x2), (0, v108)] [] M107))) := by
  refine (am_e0 rfl rfl).trans ?_
  refine (am_z_lt rfl).trans (am_if_congr (fun c101 => ?_) (fun c101 => ?_))
  · exact (am_e4v rfl rfl).trans rfl
  · refine (am_e0 rfl rfl).trans ?_
    refine (am_gf (c := 1) (t := 2) rfl rfl rfl).trans (am_g_congr fun h102 => ?_)
    refine (am_e0 rfl rfl).trans ?_
    refine (am_e0 rfl rfl).trans ?_
    refine (am_ial rfl).trans (am_g_congr fun h103 => ?_)
    refine (am_e0 rfl rfl).trans ?_
    refine (am_e0 rfl rfl).trans ?_
    refine (am_ias rfl).trans ((am_g_t h103).trans ?_)
    refine am_letm (fun M104 => ?_)
    refine (am_e0 rfl rfl).trans ?_
    refine (am_gf (c := 1) (t := 2) rfl rfl rfl).trans ((am_g_t h102).trans ?_)
    refine (am_e0 rfl rfl).trans ?_
    refine (am_ial rfl).trans (am_g_congr fun h105 => ?_)
    refine (am_e0 rfl rfl).trans ?_
    refine (am_i_ge rfl).trans (am_if_congr (fun c106 => ?_) (fun c106 => ?_))
    · exact (am_e4v rfl rfl).trans rfl
    · refine (am_e0 rfl rfl).trans ?_
      refine (am_gf (c := 1) (t := 2) rfl rfl rfl).trans ((am_g_t h102).trans ?_)
      refine (am_e0 rfl rfl).trans ?_
      refine (am_e0 rfl rfl).trans ?_
      refine (am_ias rfl).trans ((am_g_t h105).trans ?_)
      refine am_letm (fun M107 => ?_)
      refine (am_e0 rfl rfl).trans ?_
      refine am_lets (L := fun v108 => [(2, x0), am_N, (0, x2), (0, v108)]) (fun v108 => ?_)
      refine (am_e1 rfl rfl).trans ?_
      exact (am_e5 rfl).trans rfl
-- 3: UnlearnedHand$Foresight.countLessons(I)I
set_option maxRecDepth 10000 in
theorem aq_3 (d : Nat) (x0 x1 : Int) (M : am_M) : am_Call d 3 [(2, x0), (0, x1)] M = (am_Ex d 3 5 [(2, x0), (0, x1), (0, 0), (0, 0)] [] M) := by
  show am_Ex d 3 0 [(2, x0), (0, x1), am_N, am_N] [] M = _
  refine (am_e0 rfl rfl).trans ?_
  refine (am_e0 rfl rfl).trans ?_
  refine (am_e0 rfl rfl).trans ?_
  refine (am_e0 rfl rfl).trans ?_
  exact (am_e5 rfl).trans rfl
set_option maxRecDepth 10000 in
theorem aq_3_5 (d : Nat) (x0 x1 x2 x3 : Int) (M : am_M) : am_Ex d 3 5 [(2, x0), (0, x1), (0, x2), (0, x3)] [] M = (if x3 < x1 then (if x3 < 4 then (am_g (am_ob x0 1) <| am_g (am_ar (am_rd M x0 6) 20 x3) <| if am_rd M (am_rd M x0 6) x3 = 0 then (am_let (am_w32 (x2 + 0)) fun v106 => am_let (am_w32 (x3 + 1)) fun v107 => am_Ex d 3 5 [(2, x0), (0, x1), (0, v106), (0, v107)] [] M) else (am_let (am_w32 (x2 + 1)) fun v108 => am_let (am_w32 (x3 + 1)) fun v109 => am_Ex d 3 5 [(2, x0), (0, x1), (0, v108), (0, v109)] [] M)) else (some (x2, M))) else (some (x2, M))) := by
  refine (am_e0 rfl rfl).trans ?_
  refine (am_e0 rfl rfl).trans ?_
  refine (am_i_ge rfl).trans (am_if_congr (fun c101 => ?_) (fun c101 => ?_))
  · refine (am_e0 rfl rfl).trans ?_
    refine (am_e0 rfl rfl).trans ?_
    refine (am_i_ge rfl).trans (am_if_congr (fun c102 => ?_) (fun c102 => ?_))
    · refine (am_e0 rfl rfl).trans ?_
      refine (am_e0 rfl rfl).trans ?_
      refine (am_gf (c := 1) (t := 2) rfl rfl rfl).trans (am_g_congr fun h103 => ?_)
      refine (am_e0 rfl rfl).trans ?_
      refine (am_ial rfl).trans (am_g_congr fun h104 => ?_)
      refine (am_z_ne rfl).trans (am_if_congr (fun c105 => ?_) (fun c105 => ?_))
      · refine (am_e0 rfl rfl).trans ?_
        refine (am_e1 rfl rfl).trans ?_
        refine (am_e0 rfl rfl).trans ?_
        refine (am_e0 rfl rfl).trans ?_
        refine am_lets (L := fun v106 => [(2, x0), (0, x1), (0, v106), (0, x3)]) (fun v106 => ?_)
        refine (am_e0 rfl rfl).trans ?_
        refine am_lets (L := fun v107 => [(2, x0), (0, x1), (0, v106), (0, v107)]) (fun v107 => ?_)
        refine (am_e1 rfl rfl).trans ?_
        exact (am_e5 rfl).trans rfl
      · refine (am_e0 rfl rfl).trans ?_
        refine (am_e0 rfl rfl).trans ?_
        refine (am_e0 rfl rfl).trans ?_
        refine am_lets (L := fun v108 => [(2, x0), (0, x1), (0, v108), (0, x3)]) (fun v108 => ?_)
        refine (am_e0 rfl rfl).trans ?_
        refine am_lets (L := fun v109 => [(2, x0), (0, x1), (0, v108), (0, v109)]) (fun v109 => ?_)
        refine (am_e1 rfl rfl).trans ?_
        exact (am_e5 rfl).trans rfl
    · refine (am_e5 rfl).trans ?_
      show am_Ex d 3 25 [am_N, am_N, (0, x2), am_N] [] M = _
      refine (am_e0 rfl rfl).trans ?_
      exact (am_e4i rfl rfl).trans rfl
  · refine (am_e5 rfl).trans ?_
    show am_Ex d 3 25 [am_N, am_N, (0, x2), am_N] [] M = _
    refine (am_e0 rfl rfl).trans ?_
    exact (am_e4i rfl rfl).trans rfl
-- 4: UnlearnedHand$Foresight.countKept(I)I
set_option maxRecDepth 10000 in
theorem aq_4 (d : Nat) (x0 x1 : Int) (M : am_M) : am_Call d 4 [(2, x0), (0, x1)] M = (am_Ex d 4 5 [(2, x0), (0, x1), (0, 0), (0, 0), am_N, am_N] [] M) := by
  show am_Ex d 4 0 [(2, x0), (0, x1), am_N, am_N, am_N, am_N] [] M = _
  refine (am_e0 rfl rfl).trans ?_
  refine (am_e0 rfl rfl).trans ?_
  refine (am_e0 rfl rfl).trans ?_
  refine (am_e0 rfl rfl).trans ?_
  exact (am_e5 rfl).trans rfl
set_option maxRecDepth 10000 in
theorem aq_4_5 (d : Nat) (x0 x1 x2 x3 : Int) (M : am_M) : am_Ex d 4 5 [(2, x0), (0, x1), (0, x2), (0, x3), am_N, am_N] [] M = (am_g (am_ob x0 1) <| am_g (am_ob (am_rd M x0 0) 2) <| if x3 < am_rd M (am_rd M x0 0) 5 then (if x3 < 8 then (am_Ex d 4 18 [(2, x0), (0, x1), (0, x2), (0, x3), (0, 0), (0, 0)] [] M) else (some (x2, M))) else (some (x2, M))) := by
  refine (am_e0 rfl rfl).trans ?_
  refine (am_e0 rfl rfl).trans ?_
  refine (am_gf (c := 1) (t := 2) rfl rfl rfl).trans (am_g_congr fun h101 => ?_)
  refine (am_gf (c := 2) (t := 0) rfl rfl rfl).trans (am_g_congr fun h102 => ?_)
  refine (am_i_ge rfl).trans (am_if_congr (fun c103 => ?_) (fun c103 => ?_))
  · refine (am_e0 rfl rfl).trans ?_
    refine (am_e0 rfl rfl).trans ?_
    refine (am_i_ge rfl).trans (am_if_congr (fun c104 => ?_) (fun c104 => ?_))
    · refine (am_e0 rfl rfl).trans ?_
      refine (am_e0 rfl rfl).trans ?_
      refine (am_e0 rfl rfl).trans ?_
      refine (am_e0 rfl rfl).trans ?_
      exact (am_e5 rfl).trans rfl
    · refine (am_e5 rfl).trans ?_
      show am_Ex d 4 55 [am_N, am_N, (0, x2), am_N, am_N, am_N] [] M = _
      refine (am_e0 rfl rfl).trans ?_
      exact (am_e4i rfl rfl).trans rfl
  · refine (am_e5 rfl).trans ?_
    show am_Ex d 4 55 [am_N, am_N, (0, x2), am_N, am_N, am_N] [] M = _
    refine (am_e0 rfl rfl).trans ?_
    exact (am_e4i rfl rfl).trans rfl
set_option maxRecDepth 10000 in
theorem aq_4_18 (d : Nat) (x0 x1 x2 x3 x4 x5 : Int) (M : am_M) : am_Ex d 4 18 [(2, x0), (0, x1), (0, x2), (0, x3), (0, x4), (0, x5)] [] M = (if x5 < x1 then (if x5 < 4 then (am_g (am_ob x0 1) <| am_g (am_ar (am_rd M x0 6) 20 x5) <| if am_rd M (am_rd M x0 6) x5 = am_w32 (x3 + 1) then (am_let (am_or x4 (am_shl 1 x5)) fun v106 => am_let (am_w32 (x5 + 1)) fun v107 => am_Ex d 4 18 [(2, x0), (0, x1), (0, x2), (0, x3), (0, v106), (0, v107)] [] M) else (am_let (am_or x4 0) fun v108 => am_let (am_w32 (x5 + 1)) fun v109 => am_Ex d 4 18 [(2, x0), (0, x1), (0, x2), (0, x3), (0, v108), (0, v109)] [] M)) else (am_Ex d 4 43 [(2, x0), (0, x1), (0, x2), (0, x3), (0, x4), am_N] [] M)) else (am_Ex d 4 43 [(2, x0), (0, x1), (0, x2), (0, x3), (0, x4), am_N] [] M)) := by
  refine (am_e0 rfl rfl).trans ?_
  refine (am_e0 rfl rfl).trans ?_
  refine (am_i_ge rfl).trans (am_if_congr (fun c101 => ?_) (fun c101 => ?_))
  · refine (am_e0 rfl rfl).trans ?_
    refine (am_e0 rfl rfl).trans ?_
    refine (am_i_ge rfl).trans (am_if_congr (fun c102 => ?_) (fun c102 => ?_))
    · refine (am_e0 rfl rfl).trans ?_
      refine (am_e0 rfl rfl).trans ?_
      refine (am_gf (c := 1) (t := 2) rfl rfl rfl).trans (am_g_congr fun h103 => ?_)
      refine (am_e0 rfl rfl).trans ?_
      refine (am_ial rfl).trans (am_g_congr fun h104 => ?_)
      refine (am_e0 rfl rfl).trans ?_
      refine (am_e0 rfl rfl).trans ?_
      refine (am_e0 rfl rfl).trans ?_
      refine (am_i_ne rfl).trans (am_if_congr (fun c105 => ?_) (fun c105 => ?_))
      · refine (am_e0 rfl rfl).trans ?_
        refine (am_e0 rfl rfl).trans ?_
        refine (am_e0 rfl rfl).trans ?_
        refine (am_e1 rfl rfl).trans ?_
        refine (am_e0 rfl rfl).trans ?_
        refine (am_e0 rfl rfl).trans ?_
        refine am_lets (L := fun v106 => [(2, x0), (0, x1), (0, x2), (0, x3), (0, v106), (0, x5)]) (fun v106 => ?_)
        refine (am_e0 rfl rfl).trans ?_
        refine am_lets (L := fun v107 => [(2, x0), (0, x1), (0, x2), (0, x3), (0, v106), (0, v107)]) (fun v107 => ?_)
        refine (am_e1 rfl rfl).trans ?_
        exact (am_e5 rfl).trans rfl
      · refine (am_e0 rfl rfl).trans ?_
        refine (am_e0 rfl rfl).trans ?_
        refine (am_e0 rfl rfl).trans ?_
        refine am_lets (L := fun v108 => [(2, x0), (0, x1), (0, x2), (0, x3), (0, v108), (0, x5)]) (fun v108 => ?_)
        refine (am_e0 rfl rfl).trans ?_
        refine am_lets (L := fun v109 => [(2, x0), (0, x1), (0, x2), (0, x3), (0, v108), (0, v109)]) (fun v109 => ?_)
        refine (am_e1 rfl rfl).trans ?_
        exact (am_e5 rfl).trans rfl
    · exact (am_e5 rfl).trans rfl
  · exact (am_e5 rfl).trans rfl
set_option maxRecDepth 10000 in
theorem aq_4_43 (d : Nat) (x0 x1 x2 x3 x4 : Int) (M : am_M) : am_Ex d 4 43 [(2, x0), (0, x1), (0, x2), (0, x3), (0, x4), am_N] [] M = (am_g (am_ob x0 1) <| am_g (am_ar (am_rd M x0 5) 24 x3 || (am_ar (am_rd M x0 5) 25 x3 || am_ar (am_rd M x0 5) 26 x3)) <| am_g (am_ar (am_rd M (am_rd M x0 5) x3) 20 x4) <| am_let (am_w32 (x2 + (am_rd M (am_rd M (am_rd M x0 5) x3) x4))) fun v104 => am_let (am_w32 (x3 + 1)) fun v105 => am_Ex d 4 5 [(2, x0), (0, x1), (0, v104), (0, v105), am_N, am_N] [] M) := by
  refine (am_e0 rfl rfl).trans ?_
  refine (am_e0 rfl rfl).trans ?_
  refine (am_gf (c := 1) (t := 2) rfl rfl rfl).trans (am_g_congr fun h101 => ?_)
  refine (am_e0 rfl rfl).trans ?_
  refine (am_aal rfl).trans (am_g_congr fun h102 => ?_)
  refine (am_e0 rfl rfl).trans ?_
  refine (am_ial rfl).trans (am_g_congr fun h103 => ?_)
  refine (am_e0 rfl rfl).trans ?_
  refine (am_e0 rfl rfl).trans ?_
  refine am_lets (L := fun v104 => [(2, x0), (0, x1), (0, v104), (0, x3), (0, x4), am_N]) (fun v104 => ?_)
  refine (am_e0 rfl rfl).trans ?_
  refine am_lets (L := fun v105 => [(2, x0), (0, x1), (0, v104), (0, v105), (0, x4), am_N]) (fun v105 => ?_)
  refine (am_e1 rfl rfl).trans ?_
  exact (am_e5 rfl).trans rfl
-- 5: UnlearnedHand$Guild.<init>()V
set_option maxRecDepth 10000 in
theorem aq_5 (d : Nat) (x0 : Int) (M : am_M) : am_Call d 5 [(2, x0)] M = (am_g (decide (0 < x0)) <| am_g (am_ob M.1 20 && (am_ln M.1 == 8)) <| am_let (am_al M) fun M103 => am_g (am_ob x0 2) <| am_let (am_wr M103 x0 0 (M.1 : Int)) fun M105 => am_g (am_ob M105.1 20 && (am_ln M105.1 == 8)) <| am_let (am_al M105) fun M107 => am_let (am_wr M107 x0 1 (M105.1 : Int)) fun M108 => am_g (am_ob M108.1 20 && (am_ln M108.1 == 6)) <| am_let (am_al M108) fun M110 => am_let (am_wr M110 x0 2 (M108.1 : Int)) fun M111 => am_g (am_ob M111.1 20 && (am_ln M111.1 == 6)) <| am_let (am_al M111) fun M113 => am_let (am_wr M113 x0 3 (M111.1 : Int)) fun M114 => am_g (am_ob M114.1 20 && (am_ln M114.1 == 8)) <| am_let (am_al M114) fun M116 => am_let (am_wr M116 x0 4 (M114.1 : Int)) fun M117 => am_let (am_wr M117 x0 12 (-1)) fun M118 => some (0, M118)) := by
  show am_Ex d 5 0 [(2, x0)] [] M = _
  refine (am_e0 rfl rfl).trans ?_
  refine (am_e8 rfl rfl).trans (am_g_congr fun h101 => ?_)
  refine (am_e0 rfl rfl).trans ?_
  refine (am_e0 rfl rfl).trans ?_
  refine (am_nwa (c := 20) rfl rfl).trans (am_g_congr fun h102 => ?_)
  refine am_letm (fun M103 => ?_)
  refine (am_pf (c := 2) rfl rfl rfl).trans (am_g_congr fun h104 => ?_)
  refine am_letm (fun M105 => ?_)
  refine (am_e0 rfl rfl).trans ?_
  refine (am_e0 rfl rfl).trans ?_
  refine (am_nwa (c := 20) rfl rfl).trans (am_g_congr fun h106 => ?_)
  refine am_letm (fun M107 => ?_)
  refine (am_pf (c := 2) rfl rfl rfl).trans ((am_g_t h104).trans ?_)
  refine am_letm (fun M108 => ?_)
  refine (am_e0 rfl rfl).trans ?_
  refine (am_e0 rfl rfl).trans ?_
  refine (am_nwa (c := 20) rfl rfl).trans (am_g_congr fun h109 => ?_)
  refine am_letm (fun M110 => ?_)
  refine (am_pf (c := 2) rfl rfl rfl).trans ((am_g_t h104).trans ?_)
  refine am_letm (fun M111 => ?_)
  refine (am_e0 rfl rfl).trans ?_
  refine (am_e0 rfl rfl).trans ?_
  refine (am_nwa (c := 20) rfl rfl).trans (am_g_congr fun h112 => ?_)
  refine am_letm (fun M113 => ?_)
  refine (am_pf (c := 2) rfl rfl rfl).trans ((am_g_t h104).trans ?_)
  refine am_letm (fun M114 => ?_)
  refine (am_e0 rfl rfl).trans ?_
  refine (am_e0 rfl rfl).trans ?_
  refine (am_nwa (c := 20) rfl rfl).trans (am_g_congr fun h115 => ?_)
  refine am_letm (fun M116 => ?_)
  refine (am_pf (c := 2) rfl rfl rfl).trans ((am_g_t h104).trans ?_)
  refine am_letm (fun M117 => ?_)
  refine (am_e0 rfl rfl).trans ?_
  refine (am_e0 rfl rfl).trans ?_
  refine (am_pf (c := 2) rfl rfl rfl).trans ((am_g_t h104).trans ?_)
  refine am_letm (fun M118 => ?_)
  exact (am_e4v rfl rfl).trans rfl
-- 6: UnlearnedHand$Guild.copyFrom(LUnlearnedHand$Guild;)V
set_option maxRecDepth 10000 in
theorem aq_6 (d : Nat) (x0 x1 : Int) (M : am_M) : am_Call d 6 [(2, x0), (2, x1)] M = (am_g (am_ob x1 2) <| am_g (am_ob x0 2) <| am_g (am_ob (am_rd M x1 0) 20 && am_ob (am_rd M x0 0) 20 && (decide (0 ≤ 8) && (decide (0 ≤ 0) && (decide (0 ≤ 0) && (decide (0 + 8 ≤ am_ln (am_rd M x1 0)) && decide (0 + 8 ≤ am_ln (am_rd M x0 0))))))) <| am_let (am_cpy M (am_rd M x1 0) 0 (am_rd M x0 0) 0 8) fun M104 => am_g (am_ob (am_rd M104 x1 1) 20 && am_ob (am_rd M104 x0 1) 20 && (decide (0 ≤ 8) && (decide (0 ≤ 0) && (decide (0 ≤ 0) && (decide (0 + 8 ≤ am_ln (am_rd M104 x1 1)) && decide (0 + 8 ≤ am_ln (am_rd M104 x0 1))))))) <| am_let (am_cpy M104 (am_rd M104 x1 1) 0 (am_rd M104 x0 1) 0 8) fun M106 => am_g (am_ob (am_rd M106 x1 2) 20 && am_ob (am_rd M106 x0 2) 20 && (decide (0 ≤ 6) && (decide (0 ≤ 0) && (decide (0 ≤ 0) && (decide (0 + 6 ≤ am_ln (am_rd M106 x1 2)) && decide (0 + 6 ≤ am_ln (am_rd M106 x0 2))))))) <| am_let (am_cpy M106 (am_rd M106 x1 2) 0 (am_rd M106 x0 2) 0 6) fun M108 => am_g (am_ob (am_rd M108 x1 3) 20 && am_ob (am_rd M108 x0 3) 20 && (decide (0 ≤ 6) && (decide (0 ≤ 0) && (decide (0 ≤ 0) && (decide (0 + 6 ≤ am_ln (am_rd M108 x1 3)) && decide (0 + 6 ≤ am_ln (am_rd M108 x0 3))))))) <| am_let (am_cpy M108 (am_rd M108 x1 3) 0 (am_rd M108 x0 3) 0 6) fun M110 => am_g (am_ob (am_rd M110 x1 4) 20 && am_ob (am_rd M110 x0 4) 20 && (decide (0 ≤ 8) && (decide (0 ≤ 0) && (decide (0 ≤ 0) && (decide (0 + 8 ≤ am_ln (am_rd M110 x1 4)) && decide (0 + 8 ≤ am_ln (am_rd M110 x0 4))))))) <| am_let (am_cpy M110 (am_rd M110 x1 4) 0 (am_rd M110 x0 4) 0 8) fun M112 => am_let (am_wr M112 x0 5 (am_rd M112 x1 5)) fun M113 => am_let (am_wr M113 x0 6 (am_rd M113 x1 6)) fun M114 => am_let (am_wr M114 x0 7 (am_rd M114 x1 7)) fun M115 => am_let (am_wr M115 x0 8 (am_rd M115 x1 8)) fun M116 => am_let (am_wr M116 x0 9 (am_rd M116 x1 9)) fun M117 => am_let (am_wr M117 x0 10 (am_rd M117 x1 10)) fun M118 => am_let (am_wr M118 x0 11 (am_rd M118 x1 11)) fun M119 => am_let (am_wr M119 x0 12 (am_rd M119 x1 12)) fun M120 => some (0, M120)) := by
  show am_Ex d 6 0 [(2, x0), (2, x1)] [] M = _
  refine (am_e0 rfl rfl).trans ?_
  refine (am_gf (c := 2) (t := 2) rfl rfl rfl).trans (am_g_congr fun h101 => ?_)
  refine (am_e0 rfl rfl).trans ?_
  refine (am_e0 rfl rfl).trans ?_
  refine (am_gf (c := 2) (t := 2) rfl rfl rfl).trans (am_g_congr fun h102 => ?_)
  refine (am_e0 rfl rfl).trans ?_
  refine (am_e0 rfl rfl).trans ?_
  refine (am_e9 rfl rfl).trans (am_g_congr fun h103 => ?_)
  refine am_letm (fun M104 => ?_)
  refine (am_e0 rfl rfl).trans ?_
  refine (am_gf (c := 2) (t := 2) rfl rfl rfl).trans ((am_g_t h101).trans ?_)
  refine (am_e0 rfl rfl).trans ?_
  refine (am_e0 rfl rfl).trans ?_
  refine (am_gf (c := 2) (t := 2) rfl rfl rfl).trans ((am_g_t h102).trans ?_)
  refine (am_e0 rfl rfl).trans ?_
  refine (am_e0 rfl rfl).trans ?_
  refine (am_e9 rfl rfl).trans (am_g_congr fun h105 => ?_)
  refine am_letm (fun M106 => ?_)
  refine (am_e0 rfl rfl).trans ?_
  refine (am_gf (c := 2) (t := 2) rfl rfl rfl).trans ((am_g_t h101).trans ?_)
  refine (am_e0 rfl rfl).trans ?_
  refine (am_e0 rfl rfl).trans ?_
  refine (am_gf (c := 2) (t := 2) rfl rfl rfl).trans ((am_g_t h102).trans ?_)
  refine (am_e0 rfl rfl).trans ?_
  refine (am_e0 rfl rfl).trans ?_
  refine (am_e9 rfl rfl).trans (am_g_congr fun h107 => ?_)
  refine am_letm (fun M108 => ?_)
  refine (am_e0 rfl rfl).trans ?_
  refine (am_gf (c := 2) (t := 2) rfl rfl rfl).trans ((am_g_t h101).trans ?_)
  refine (am_e0 rfl rfl).trans ?_
  refine (am_e0 rfl rfl).trans ?_
  refine (am_gf (c := 2) (t := 2) rfl rfl rfl).trans ((am_g_t h102).trans ?_)
  refine (am_e0 rfl rfl).trans ?_
  refine (am_e0 rfl rfl).trans ?_
  refine (am_e9 rfl rfl).trans (am_g_congr fun h109 => ?_)
  refine am_letm (fun M110 => ?_)
  refine (am_e0 rfl rfl).trans ?_
  refine (am_gf (c := 2) (t := 2) rfl rfl rfl).trans ((am_g_t h101).trans ?_)
  refine (am_e0 rfl rfl).trans ?_
  refine (am_e0 rfl rfl).trans ?_
  refine (am_gf (c := 2) (t := 2) rfl rfl rfl).trans ((am_g_t h102).trans ?_)
  refine (am_e0 rfl rfl).trans ?_
  refine (am_e0 rfl rfl).trans ?_
  refine (am_e9 rfl rfl).trans (am_g_congr fun h111 => ?_)
  refine am_letm (fun M112 => ?_)
  refine (am_e0 rfl rfl).trans ?_
  refine (am_e0 rfl rfl).trans ?_
  refine (am_gf (c := 2) (t := 0) rfl rfl rfl).trans ((am_g_t h101).trans ?_)
  refine (am_pf (c := 2) rfl rfl rfl).trans ((am_g_t h102).trans ?_)
  refine am_letm (fun M113 => ?_)
  refine (am_e0 rfl rfl).trans ?_
  refine (am_e0 rfl rfl).trans ?_
  refine (am_gf (c := 2) (t := 0) rfl rfl rfl).trans ((am_g_t h101).trans ?_)
  refine (am_pf (c := 2) rfl rfl rfl).trans ((am_g_t h102).trans ?_)
  refine am_letm (fun M114 => ?_)
  refine (am_e0 rfl rfl).trans ?_
  refine (am_e0 rfl rfl).trans ?_
  refine (am_gf (c := 2) (t := 0) rfl rfl rfl).trans ((am_g_t h101).trans ?_)
  refine (am_pf (c := 2) rfl rfl rfl).trans ((am_g_t h102).trans ?_)
  refine am_letm (fun M115 => ?_)
  refine (am_e0 rfl rfl).trans ?_
  refine (am_e0 rfl rfl).trans ?_
  refine (am_gf (c := 2) (t := 0) rfl rfl rfl).trans ((am_g_t h101).trans ?_)
  refine (am_pf (c := 2) rfl rfl rfl).trans ((am_g_t h102).trans ?_)
  refine am_letm (fun M116 => ?_)
  refine (am_e0 rfl rfl).trans ?_
  refine (am_e0 rfl rfl).trans ?_
  refine (am_gf (c := 2) (t := 0) rfl rfl rfl).trans ((am_g_t h101).trans ?_)
  refine (am_pf (c := 2) rfl rfl rfl).trans ((am_g_t h102).trans ?_)
  refine am_letm (fun M117 => ?_)
  refine (am_e0 rfl rfl).trans ?_
  refine (am_e0 rfl rfl).trans ?_
  refine (am_gf (c := 2) (t := 0) rfl rfl rfl).trans ((am_g_t h101).trans ?_)
  refine (am_pf (c := 2) rfl rfl rfl).trans ((am_g_t h102).trans ?_)
  refine am_letm (fun M118 => ?_)
  refine (am_e0 rfl rfl).trans ?_
  refine (am_e0 rfl rfl).trans ?_
  refine (am_gf (c := 2) (t := 0) rfl rfl rfl).trans ((am_g_t h101).trans ?_)
  refine (am_pf (c := 2) rfl rfl rfl).trans ((am_g_t h102).trans ?_)
  refine am_letm (fun M119 => ?_)
  refine (am_e0 rfl rfl).trans ?_
  refine (am_e0 rfl rfl).trans ?_
  refine (am_gf (c := 2) (t := 0) rfl rfl rfl).trans ((am_g_t h101).trans ?_)
  refine (am_pf (c := 2) rfl rfl rfl).trans ((am_g_t h102).trans ?_)
  refine am_letm (fun M120 => ?_)
  exact (am_e4v rfl rfl).trans rfl
-- 7: UnlearnedHand$Guild.tellsTurn(I)Z
set_option maxRecDepth 10000 in
theorem aq_7 (d : Nat) (x0 x1 : Int) (M : am_M) : am_Call d 7 [(2, x0), (0, x1)] M = (if x1 < 0 then (some (0, M)) else (am_g (am_ob x0 2) <| if x1 < am_rd M x0 5 then (if x1 < 8 then (some (1, M)) else (some (0, M))) else (some (0, M)))) := by
  show am_Ex d 7 0 [(2, x0), (0, x1)] [] M = _
  refine (am_e0 rfl rfl).trans ?_
  refine (am_z_lt rfl).trans (am_if_congr (fun c101 => ?_) (fun c101 => ?_))
  · refine (am_e5 rfl).trans ?_
    show am_Ex d 7 12 [am_N, am_N] [] M = _
    refine (am_e0 rfl rfl).trans ?_
    exact (am_e4i rfl rfl).trans rfl
  · refine (am_e0 rfl rfl).trans ?_
    refine (am_e0 rfl rfl).trans ?_
    refine (am_gf (c := 2) (t := 0) rfl rfl rfl).trans (am_g_congr fun h102 => ?_)
    refine (am_i_ge rfl).trans (am_if_congr (fun c103 => ?_) (fun c103 => ?_))
    · refine (am_e0 rfl rfl).trans ?_
      refine (am_e0 rfl rfl).trans ?_
      refine (am_i_ge rfl).trans (am_if_congr (fun c104 => ?_) (fun c104 => ?_))
      · refine (am_e0 rfl rfl).trans ?_
        refine (am_e1 rfl rfl).trans ?_
        exact (am_e4i rfl rfl).trans rfl
      · refine (am_e5 rfl).trans ?_
        show am_Ex d 7 12 [am_N, am_N] [] M = _
        refine (am_e0 rfl rfl).trans ?_
        exact (am_e4i rfl rfl).trans rfl
    · refine (am_e5 rfl).trans ?_
      show am_Ex d 7 12 [am_N, am_N] [] M = _
      refine (am_e0 rfl rfl).trans ?_
      exact (am_e4i rfl rfl).trans rfl
-- 8: UnlearnedHand$Guild.tellsMan(I)Z
set_option maxRecDepth 10000 in
theorem aq_8 (d : Nat) (x0 x1 : Int) (M : am_M) : am_Call d 8 [(2, x0), (0, x1)] M = (if x1 < 0 then (some (0, M)) else (am_g (am_ob x0 2) <| if x1 < am_rd M x0 6 then (if x1 < 6 then (some (1, M)) else (some (0, M))) else (some (0, M)))) := by
  show am_Ex d 8 0 [(2, x0), (0, x1)] [] M = _
  refine (am_e0 rfl rfl).trans ?_
  refine (am_z_lt rfl).trans (am_if_congr (fun c101 => ?_) (fun c101 => ?_))
  · refine (am_e5 rfl).trans ?_
    show am_Ex d 8 12 [am_N, am_N] [] M = _
    refine (am_e0 rfl rfl).trans ?_
    exact (am_e4i rfl rfl).trans rfl
  · refine (am_e0 rfl rfl).trans ?_
    refine (am_e0 rfl rfl).trans ?_
    refine (am_gf (c := 2) (t := 0) rfl rfl rfl).trans (am_g_congr fun h102 => ?_)
    refine (am_i_ge rfl).trans (am_if_congr (fun c103 => ?_) (fun c103 => ?_))
    · refine (am_e0 rfl rfl).trans ?_
      refine (am_e0 rfl rfl).trans ?_
      refine (am_i_ge rfl).trans (am_if_congr (fun c104 => ?_) (fun c104 => ?_))
      · refine (am_e0 rfl rfl).trans ?_
        refine (am_e1 rfl rfl).trans ?_
        exact (am_e4i rfl rfl).trans rfl
      · refine (am_e5 rfl).trans ?_
        show am_Ex d 8 12 [am_N, am_N] [] M = _
        refine (am_e0 rfl rfl).trans ?_
        exact (am_e4i rfl rfl).trans rfl
    · refine (am_e5 rfl).trans ?_
      show am_Ex d 8 12 [am_N, am_N] [] M = _
      refine (am_e0 rfl rfl).trans ?_
      exact (am_e4i rfl rfl).trans rfl
-- 9: UnlearnedHand$Guild.tellsSmell(I)Z
set_option maxRecDepth 10000 in
theorem aq_9 (d : Nat) (x0 x1 : Int) (M : am_M) : am_Call d 9 [(2, x0), (0, x1)] M = (if x1 < 0 then (some (0, M)) else (am_g (am_ob x0 2) <| if x1 < am_rd M x0 7 then (if x1 < 6 then (some (1, M)) else (some (0, M))) else (some (0, M)))) := by
  show am_Ex d 9 0 [(2, x0), (0, x1)] [] M = _
  refine (am_e0 rfl rfl).trans ?_
  refine (am_z_lt rfl).trans (am_if_congr (fun c101 => ?_) (fun c101 => ?_))
  · refine (am_e5 rfl).trans ?_
    show am_Ex d 9 12 [am_N, am_N] [] M = _
    refine (am_e0 rfl rfl).trans ?_
    exact (am_e4i rfl rfl).trans rfl
  · refine (am_e0 rfl rfl).trans ?_
    refine (am_e0 rfl rfl).trans ?_
    refine (am_gf (c := 2) (t := 0) rfl rfl rfl).trans (am_g_congr fun h102 => ?_)
    refine (am_i_ge rfl).trans (am_if_congr (fun c103 => ?_) (fun c103 => ?_))
    · refine (am_e0 rfl rfl).trans ?_
      refine (am_e0 rfl rfl).trans ?_
      refine (am_i_ge rfl).trans (am_if_congr (fun c104 => ?_) (fun c104 => ?_))
      · refine (am_e0 rfl rfl).trans ?_
        refine (am_e1 rfl rfl).trans ?_
        exact (am_e4i rfl rfl).trans rfl
      · refine (am_e5 rfl).trans ?_
        show am_Ex d 9 12 [am_N, am_N] [] M = _
        refine (am_e0 rfl rfl).trans ?_
        exact (am_e4i rfl rfl).trans rfl
    · refine (am_e5 rfl).trans ?_
      show am_Ex d 9 12 [am_N, am_N] [] M = _
      refine (am_e0 rfl rfl).trans ?_
      exact (am_e4i rfl rfl).trans rfl
-- 10: UnlearnedHand$Guild.tellsText(I)Z
set_option maxRecDepth 10000 in
theorem aq_10 (d : Nat) (x0 x1 : Int) (M : am_M) : am_Call d 10 [(2, x0), (0, x1)] M = (if x1 < 0 then (some (0, M)) else (am_g (am_ob x0 2) <| if x1 < am_rd M x0 11 then (some (1, M)) else (some (0, M)))) := by
  show am_Ex d 10 0 [(2, x0), (0, x1)] [] M = _
  refine (am_e0 rfl rfl).trans ?_
  refine (am_z_lt rfl).trans (am_if_congr (fun c101 => ?_) (fun c101 => ?_))
  · refine (am_e5 rfl).trans ?_
    show am_Ex d 10 9 [am_N, am_N] [] M = _
    refine (am_e0 rfl rfl).trans ?_
    exact (am_e4i rfl rfl).trans rfl
  · refine (am_e0 rfl rfl).trans ?_
    refine (am_e0 rfl rfl).trans ?_
    refine (am_gf (c := 2) (t := 0) rfl rfl rfl).trans (am_g_congr fun h102 => ?_)
    refine (am_i_ge rfl).trans (am_if_congr (fun c103 => ?_) (fun c103 => ?_))
    · refine (am_e0 rfl rfl).trans ?_
      refine (am_e1 rfl rfl).trans ?_
      exact (am_e4i rfl rfl).trans rfl
    · refine (am_e5 rfl).trans ?_
      show am_Ex d 10 9 [am_N, am_N] [] M = _
      refine (am_e0 rfl rfl).trans ?_
      exact (am_e4i rfl rfl).trans rfl
-- 11: UnlearnedHand$Guild.allTurns()I
set_option maxRecDepth 10000 in
theorem aq_11 (d : Nat) (x0 : Int) (M : am_M) : am_Call d 11 [(2, x0)] M = (am_g (am_ob x0 2) <| some (am_w32 ((am_shl 1 (am_rd M x0 5)) - 1), M)) := by
  show am_Ex d 11 0 [(2, x0)] [] M = _
  refine (am_e0 rfl rfl).trans ?_
  refine (am_e0 rfl rfl).trans ?_
  refine (am_gf (c := 2) (t := 0) rfl rfl rfl).trans (am_g_congr fun h101 => ?_)
  refine (am_e0 rfl rfl).trans ?_
  refine (am_e0 rfl rfl).trans ?_
  refine (am_e0 rfl rfl).trans ?_
  exact (am_e4i rfl rfl).trans rfl
-- 12: UnlearnedHand$Guild.tellsSmells(I)Z
set_option maxRecDepth 10000 in
theorem aq_12 (d : Nat) (x0 x1 : Int) (M : am_M) : am_Call d 12 [(2, x0), (0, x1)] M = (am_g (am_ob x0 2) <| if am_and x1 (am_xor (am_w32 ((am_shl 1 (am_rd M x0 7)) - 1)) (-1)) = 0 then (some (1, M)) else (some (0, M))) := by
  show am_Ex d 12 0 [(2, x0), (0, x1)] [] M = _
  refine (am_e0 rfl rfl).trans ?_
  refine (am_e0 rfl rfl).trans ?_
  refine (am_e0 rfl rfl).trans ?_
  refine (am_gf (c := 2) (t := 0) rfl rfl rfl).trans (am_g_congr fun h101 => ?_)
  refine (am_e0 rfl rfl).trans ?_
  refine (am_e0 rfl rfl).trans ?_
  refine (am_e0 rfl rfl).trans ?_
  refine (am_e0 rfl rfl).trans ?_
  refine (am_e0 rfl rfl).trans ?_
  refine (am_e0 rfl rfl).trans ?_
  refine (am_z_ne rfl).trans (am_if_congr (fun c102 => ?_) (fun c102 => ?_))
  · refine (am_e0 rfl rfl).trans ?_
    refine (am_e1 rfl rfl).trans ?_
    exact (am_e4i rfl rfl).trans rfl
  · refine (am_e0 rfl rfl).trans ?_
    exact (am_e4i rfl rfl).trans rfl
-- 13: UnlearnedHand$Guild.addTurn(I)I
set_option maxRecDepth 10000 in
theorem aq_13 (d : Nat) (x0 x1 : Int) (M : am_M) : am_Call d 13 [(2, x0), (0, x1)] M = (am_g (am_ob x0 2) <| if am_rd M x0 5 < 0 then (some ((-1), M)) else (if am_rd M x0 5 < 8 then (am_g (am_ar (am_rd M x0 0) 20 (am_rd M x0 5)) <| am_let (am_wr M (am_rd M x0 0) (am_rd M x0 5) x1) fun M105 => am_g (am_ar (am_rd M105 x0 1) 20 (am_rd M105 x0 5)) <| am_let (am_wr M105 (am_rd M105 x0 1) (am_rd M105 x0 5) 0) fun M107 => am_let (am_wr M107 x0 5 (am_w32 ((am_rd M107 x0 5) + 1))) fun M108 => some (am_w32 ((am_rd M108 x0 5) - 1), M108)) else (some ((-1), M)))) := by
  show am_Ex d 13 0 [(2, x0), (0, x1)] [] M = _
  refine (am_e0 rfl rfl).trans ?_
  refine (am_gf (c := 2) (t := 0) rfl rfl rfl).trans (am_g_congr fun h101 => ?_)
  refine (am_z_lt rfl).trans (am_if_congr (fun c102 => ?_) (fun c102 => ?_))
  · refine (am_e5 rfl).trans ?_
    show am_Ex d 13 8 [am_N, am_N] [] M = _
    refine (am_e0 rfl rfl).trans ?_
    exact (am_e4i rfl rfl).trans rfl
  · refine (am_e0 rfl rfl).trans ?_
    refine (am_gf (c := 2) (t := 0) rfl rfl rfl).trans ((am_g_t h101).trans ?_)
    refine (am_e0 rfl rfl).trans ?_
    refine (am_i_lt rfl).trans (am_if_congr (fun c103 => ?_) (fun c103 => ?_))
    · refine (am_e0 rfl rfl).trans ?_
      refine (am_gf (c := 2) (t := 2) rfl rfl rfl).trans ((am_g_t h101).trans ?_)
      refine (am_e0 rfl rfl).trans ?_
      refine (am_gf (c := 2) (t := 0) rfl rfl rfl).trans ((am_g_t h101).trans ?_)
      refine (am_e0 rfl rfl).trans ?_
      refine (am_ias rfl).trans (am_g_congr fun h104 => ?_)
      refine am_letm (fun M105 => ?_)
      refine (am_e0 rfl rfl).trans ?_
      refine (am_gf (c := 2) (t := 2) rfl rfl rfl).trans ((am_g_t h101).trans ?_)
      refine (am_e0 rfl rfl).trans ?_
      refine (am_gf (c := 2) (t := 0) rfl rfl rfl).trans ((am_g_t h101).trans ?_)
      refine (am_e0 rfl rfl).trans ?_
      refine (am_ias rfl).trans (am_g_congr fun h106 => ?_)
      refine am_letm (fun M107 => ?_)
      refine (am_e0 rfl rfl).trans ?_
      refine (am_e0 rfl rfl).trans ?_
      refine (am_gf (c := 2) (t := 0) rfl rfl rfl).trans ((am_g_t h101).trans ?_)
      refine (am_e0 rfl rfl).trans ?_
      refine (am_e0 rfl rfl).trans ?_
      refine (am_pf (c := 2) rfl rfl rfl).trans ((am_g_t h101).trans ?_)
      refine am_letm (fun M108 => ?_)
      refine (am_e0 rfl rfl).trans ?_
      refine (am_gf (c := 2) (t := 0) rfl rfl rfl).trans ((am_g_t h101).trans ?_)
      refine (am_e0 rfl rfl).trans ?_
      refine (am_e0 rfl rfl).trans ?_
      exact (am_e4i rfl rfl).trans rfl
    · refine (am_e5 rfl).trans ?_
      show am_Ex d 13 8 [am_N, am_N] [] M = _
      refine (am_e0 rfl rfl).trans ?_
      exact (am_e4i rfl rfl).trans rfl
-- 14: UnlearnedHand$Guild.addMan(I)I
set_option maxRecDepth 10000 in
theorem aq_14 (d : Nat) (x0 x1 : Int) (M : am_M) : am_Call d 14 [(2, x0), (0, x1)] M = (am_g (am_ob x0 2) <| if am_rd M x0 6 < 0 then (some ((-1), M)) else (if am_rd M x0 6 < 6 then (am_g (am_ar (am_rd M x0 2) 20 (am_rd M x0 6)) <| am_let (am_wr M (am_rd M x0 2) (am_rd M x0 6) x1) fun M105 => am_let (am_wr M105 x0 6 (am_w32 ((am_rd M105 x0 6) + 1))) fun M106 => some (am_w32 ((am_rd M106 x0 6) - 1), M106)) else (some ((-1), M)))) := by
  show am_Ex d 14 0 [(2, x0), (0, x1)] [] M = _
  refine (am_e0 rfl rfl).trans ?_
  refine (am_gf (c := 2) (t := 0) rfl rfl rfl).trans (am_g_congr fun h101 => ?_)
  refine (am_z_lt rfl).trans (am_if_congr (fun c102 => ?_) (fun c102 => ?_))
  · refine (am_e5 rfl).trans ?_
    show am_Ex d 14 8 [am_N, am_N] [] M = _
    refine (am_e0 rfl rfl).trans ?_
    exact (am_e4i rfl rfl).trans rfl
  · refine (am_e0 rfl rfl).trans ?_
    refine (am_gf (c := 2) (t := 0) rfl rfl rfl).trans ((am_g_t h101).trans ?_)
    refine (am_e0 rfl rfl).trans ?_
    refine (am_i_lt rfl).trans (am_if_congr (fun c103 => ?_) (fun c103 => ?_))
    · refine (am_e0 rfl rfl).trans ?_
      refine (am_gf (c := 2) (t := 2) rfl rfl rfl).trans ((am_g_t h101).trans ?_)
      refine (am_e0 rfl rfl).trans ?_
      refine (am_gf (c := 2) (t := 0) rfl rfl rfl).trans ((am_g_t h101).trans ?_)
      refine (am_e0 rfl rfl).trans ?_
      refine (am_ias rfl).trans (am_g_congr fun h104 => ?_)
      refine am_letm (fun M105 => ?_)
      refine (am_e0 rfl rfl).trans ?_
      refine (am_e0 rfl rfl).trans ?_
      refine (am_gf (c := 2) (t := 0) rfl rfl rfl).trans ((am_g_t h101).trans ?_)
      refine (am_e0 rfl rfl).trans ?_
      refine (am_e0 rfl rfl).trans ?_
      refine (am_pf (c := 2) rfl rfl rfl).trans ((am_g_t h101).trans ?_)
      refine am_letm (fun M106 => ?_)
      refine (am_e0 rfl rfl).trans ?_
      refine (am_gf (c := 2) (t := 0) rfl rfl rfl).trans ((am_g_t h101).trans ?_)
      refine (am_e0 rfl rfl).trans ?_
      refine (am_e0 rfl rfl).trans ?_
      exact (am_e4i rfl rfl).trans rfl
    · refine (am_e5 rfl).trans ?_
      show am_Ex d 14 8 [am_N, am_N] [] M = _
      refine (am_e0 rfl rfl).trans ?_
      exact (am_e4i rfl rfl).trans rfl
-- 15: UnlearnedHand$Guild.addSmell(I)I
set_option maxRecDepth 10000 in
theorem aq_15 (d : Nat) (x0 x1 : Int) (M : am_M) : am_Call d 15 [(2, x0), (0, x1)] M = (am_g (am_ob x0 2) <| if am_rd M x0 7 < 0 then (some ((-1), M)) else (if am_rd M x0 7 < 6 then (am_g (am_ar (am_rd M x0 3) 20 (am_rd M x0 7)) <| am_let (am_wr M (am_rd M x0 3) (am_rd M x0 7) x1) fun M105 => am_let (am_wr M105 x0 7 (am_w32 ((am_rd M105 x0 7) + 1))) fun M106 => some (am_w32 ((am_rd M106 x0 7) - 1), M106)) else (some ((-1), M)))) := by
  show am_Ex d 15 0 [(2, x0), (0, x1)] [] M = _
  refine (am_e0 rfl rfl).trans ?_
  refine (am_gf (c := 2) (t := 0) rfl rfl rfl).trans (am_g_congr fun h101 => ?_)
  refine (am_z_lt rfl).trans (am_if_congr (fun c102 => ?_) (fun c102 => ?_))
  · refine (am_e5 rfl).trans ?_
    show am_Ex d 15 8 [am_N, am_N] [] M = _
    refine (am_e0 rfl rfl).trans ?_
    exact (am_e4i rfl rfl).trans rfl
  · refine (am_e0 rfl rfl).trans ?_
    refine (am_gf (c := 2) (t := 0) rfl rfl rfl).trans ((am_g_t h101).trans ?_)
    refine (am_e0 rfl rfl).trans ?_
    refine (am_i_lt rfl).trans (am_if_congr (fun c103 => ?_) (fun c103 => ?_))
    · refine (am_e0 rfl rfl).trans ?_
      refine (am_gf (c := 2) (t := 2) rfl rfl rfl).trans ((am_g_t h101).trans ?_)
      refine (am_e0 rfl rfl).trans ?_
      refine (am_gf (c := 2) (t := 0) rfl rfl rfl).trans ((am_g_t h101).trans ?_)
      refine (am_e0 rfl rfl).trans ?_
      refine (am_ias rfl).trans (am_g_congr fun h104 => ?_)
      refine am_letm (fun M105 => ?_)
      refine (am_e0 rfl rfl).trans ?_
      refine (am_e0 rfl rfl).trans ?_
      refine (am_gf (c := 2) (t := 0) rfl rfl rfl).trans ((am_g_t h101).trans ?_)
      refine (am_e0 rfl rfl).trans ?_
      refine (am_e0 rfl rfl).trans ?_
      refine (am_pf (c := 2) rfl rfl rfl).trans ((am_g_t h101).trans ?_)
      refine am_letm (fun M106 => ?_)
      refine (am_e0 rfl rfl).trans ?_
      refine (am_gf (c := 2) (t := 0) rfl rfl rfl).trans ((am_g_t h101).trans ?_)
      refine (am_e0 rfl rfl).trans ?_
      refine (am_e0 rfl rfl).trans ?_
      exact (am_e4i rfl rfl).trans rfl
    · refine (am_e5 rfl).trans ?_
      show am_Ex d 15 8 [am_N, am_N] [] M = _
      refine (am_e0 rfl rfl).trans ?_
      exact (am_e4i rfl rfl).trans rfl
-- 16: UnlearnedHand$Guild.addDone(IZ)Z
set_option maxRecDepth 10000 in
theorem aq_16 (d : Nat) (x0 x1 x2 : Int) (M : am_M) : am_Call d 16 [(2, x0), (0, x1), (0, x2)] M = (am_g (am_ob x0 2) <| if am_rd M x0 8 < 0 then (some (0, M)) else (if am_rd M x0 8 < 8 then (am_g (am_ar (am_rd M x0 4) 20 (am_rd M x0 8)) <| am_let (am_wr M (am_rd M x0 4) (am_rd M x0 8) x1) fun M105 => if x2 = 0 then (am_let (am_wr M105 x0 9 (am_and (am_rd M105 x0 9) (am_xor (am_shl 1 (am_rd M105 x0 8)) (-1)))) fun M107 => am_let (am_wr M107 x0 8 (am_w32 ((am_rd M107 x0 8) + 1))) fun M108 => some (1, M108)) else (am_let (am_wr M105 x0 9 (am_or (am_rd M105 x0 9) (am_shl 1 (am_rd M105 x0 8)))) fun M109 => am_let (am_wr M109 x0 8 (am_w32 ((am_rd M109 x0 8) + 1))) fun M110 => some (1, M110))) else (some (0, M)))) := by
  show am_Ex d 16 0 [(2, x0), (0, x1), (0, x2)] [] M = _
  refine (am_e0 rfl rfl).trans ?_
  refine (am_gf (c := 2) (t := 0) rfl rfl rfl).trans (am_g_congr fun h101 => ?_)
  refine (am_z_lt rfl).trans (am_if_congr (fun c102 => ?_) (fun c102 => ?_))
  · refine (am_e5 rfl).trans ?_
    show am_Ex d 16 8 [am_N, am_N, am_N] [] M = _
    refine (am_e0 rfl rfl).trans ?_
    exact (am_e4i rfl rfl).trans rfl
  · refine (am_e0 rfl rfl).trans ?_
    refine (am_gf (c := 2) (t := 0) rfl rfl rfl).trans ((am_g_t h101).trans ?_)
    refine (am_e0 rfl rfl).trans ?_
    refine (am_i_lt rfl).trans (am_if_congr (fun c103 => ?_) (fun c103 => ?_))
    · refine (am_e0 rfl rfl).trans ?_
      refine (am_gf (c := 2) (t := 2) rfl rfl rfl).trans ((am_g_t h101).trans ?_)
      refine (am_e0 rfl rfl).trans ?_
      refine (am_gf (c := 2) (t := 0) rfl rfl rfl).trans ((am_g_t h101).trans ?_)
      refine (am_e0 rfl rfl).trans ?_
      refine (am_ias rfl).trans (am_g_congr fun h104 => ?_)
      refine am_letm (fun M105 => ?_)
      refine (am_e0 rfl rfl).trans ?_
      refine (am_e0 rfl rfl).trans ?_
      refine (am_z_eq rfl).trans (am_if_congr (fun c106 => ?_) (fun c106 => ?_))
      · refine (am_e0 rfl rfl).trans ?_
        refine (am_gf (c := 2) (t := 0) rfl rfl rfl).trans ((am_g_t h101).trans ?_)
        refine (am_e0 rfl rfl).trans ?_
        refine (am_e0 rfl rfl).trans ?_
        refine (am_gf (c := 2) (t := 0) rfl rfl rfl).trans ((am_g_t h101).trans ?_)
        refine (am_e0 rfl rfl).trans ?_
        refine (am_e0 rfl rfl).trans ?_
        refine (am_e0 rfl rfl).trans ?_
        refine (am_e0 rfl rfl).trans ?_
        refine (am_pf (c := 2) rfl rfl rfl).trans ((am_g_t h101).trans ?_)
        refine am_letm (fun M107 => ?_)
        refine (am_e0 rfl rfl).trans ?_
        refine (am_e0 rfl rfl).trans ?_
        refine (am_gf (c := 2) (t := 0) rfl rfl rfl).trans ((am_g_t h101).trans ?_)
        refine (am_e0 rfl rfl).trans ?_
        refine (am_e0 rfl rfl).trans ?_
        refine (am_pf (c := 2) rfl rfl rfl).trans ((am_g_t h101).trans ?_)
        refine am_letm (fun M108 => ?_)
        refine (am_e0 rfl rfl).trans ?_
        exact (am_e4i rfl rfl).trans rfl
      · refine (am_e0 rfl rfl).trans ?_
        refine (am_gf (c := 2) (t := 0) rfl rfl rfl).trans ((am_g_t h101).trans ?_)
        refine (am_e0 rfl rfl).trans ?_
        refine (am_e0 rfl rfl).trans ?_
        refine (am_gf (c := 2) (t := 0) rfl rfl rfl).trans ((am_g_t h101).trans ?_)
        refine (am_e0 rfl rfl).trans ?_
        refine (am_e0 rfl rfl).trans ?_
        refine (am_e1 rfl rfl).trans ?_
        refine (am_pf (c := 2) rfl rfl rfl).trans ((am_g_t h101).trans ?_)
        refine am_letm (fun M109 => ?_)
        refine (am_e0 rfl rfl).trans ?_
        refine (am_e0 rfl rfl).trans ?_
        refine (am_gf (c := 2) (t := 0) rfl rfl rfl).trans ((am_g_t h101).trans ?_)
        refine (am_e0 rfl rfl).trans ?_
        refine (am_e0 rfl rfl).trans ?_
        refine (am_pf (c := 2) rfl rfl rfl).trans ((am_g_t h101).trans ?_)
        refine am_letm (fun M110 => ?_)
        refine (am_e0 rfl rfl).trans ?_
        exact (am_e4i rfl rfl).trans rfl
    · refine (am_e5 rfl).trans ?_
      show am_Ex d 16 8 [am_N, am_N, am_N] [] M = _
      refine (am_e0 rfl rfl).trans ?_
      exact (am_e4i rfl rfl).trans rfl
-- 17: UnlearnedHand$Guild.wasDoneRight(I)Z
set_option maxRecDepth 10000 in
theorem aq_17 (d : Nat) (x0 x1 : Int) (M : am_M) : am_Call d 17 [(2, x0), (0, x1)] M = (am_g (am_ob x0 2) <| if am_and (am_shr (am_rd M x0 9) x1) 1 = 0 then (some (0, M)) else (some (1, M))) := by
  show am_Ex d 17 0 [(2, x0), (0, x1)] [] M = _
  refine (am_e0 rfl rfl).trans ?_
  refine (am_gf (c := 2) (t := 0) rfl rfl rfl).trans (am_g_congr fun h101 => ?_)
  refine (am_e0 rfl rfl).trans ?_
  refine (am_e0 rfl rfl).trans ?_
  refine (am_e0 rfl rfl).trans ?_
  refine (am_e0 rfl rfl).trans ?_
  refine (am_z_eq rfl).trans (am_if_congr (fun c102 => ?_) (fun c102 => ?_))
  · refine (am_e0 rfl rfl).trans ?_
    exact (am_e4i rfl rfl).trans rfl
  · refine (am_e0 rfl rfl).trans ?_
    refine (am_e1 rfl rfl).trans ?_
    exact (am_e4i rfl rfl).trans rfl
-- 18: UnlearnedHand$Guild.worthOfAll(I)I
set_option maxRecDepth 10000 in
theorem aq_18 (d : Nat) (x0 x1 : Int) (M : am_M) : am_Call d 18 [(2, x0), (0, x1)] M = (am_Ex d 18 5 [(2, x0), (0, x1), (0, 0), (0, 0)] [] M) := by
  show am_Ex d 18 0 [(2, x0), (0, x1), am_N, am_N] [] M = _
  refine (am_e0 rfl rfl).trans ?_
  refine (am_e0 rfl rfl).trans ?_
  refine (am_e0 rfl rfl).trans ?_
  refine (am_e0 rfl rfl).trans ?_
  exact (am_e5 rfl).trans rfl
set_option maxRecDepth 10000 in
theorem aq_18_5 (d : Nat) (x0 x1 x2 x3 : Int) (M : am_M) : am_Ex d 18 5 [(2, x0), (0, x1), (0, x2), (0, x3)] [] M = (am_g (am_ob x0 2) <| if x3 < am_rd M x0 5 then (if x3 < 8 then (am_g (am_ar (am_rd M x0 0) 20 x3) <| am_let (am_w32 (x2 + (am_w32 ((am_and (am_shr x1 x3) 1) * (am_rd M (am_rd M x0 0) x3))))) fun v105 => am_let (am_w32 (x3 + 1)) fun v106 => am_Ex d 18 5 [(2, x0), (0, x1), (0, v105), (0, v106)] [] M) else (some (x2, M))) else (some (x2, M))) := by
  refine (am_e0 rfl rfl).trans ?_
  refine (am_e0 rfl rfl).trans ?_
  refine (am_gf (c := 2) (t := 0) rfl rfl rfl).trans (am_g_congr fun h101 => ?_)
  refine (am_i_ge rfl).trans (am_if_congr (fun c102 => ?_) (fun c102 => ?_))
  · refine (am_e0 rfl rfl).trans ?_
    refine (am_e0 rfl rfl).trans ?_
    refine (am_i_ge rfl).trans (am_if_congr (fun c103 => ?_) (fun c103 => ?_))
    · refine (am_e0 rfl rfl).trans ?_
      refine (am_e0 rfl rfl).trans ?_
      refine (am_e0 rfl rfl).trans ?_
      refine (am_e0 rfl rfl).trans ?_
      refine (am_e0 rfl rfl).trans ?_
      refine (am_e0 rfl rfl).trans ?_
      refine (am_e0 rfl rfl).trans ?_
      refine (am_gf (c := 2) (t := 2) rfl rfl rfl).trans ((am_g_t h101).trans ?_)
      refine (am_e0 rfl rfl).trans ?_
      refine (am_ial rfl).trans (am_g_congr fun h104 => ?_)
      refine (am_e0 rfl rfl).trans ?_
      refine (am_e0 rfl rfl).trans ?_
      refine (am_e0 rfl rfl).trans ?_
      refine am_lets (L := fun v105 => [(2, x0), (0, x1), (0, v105), (0, x3)]) (fun v105 => ?_)
      refine (am_e0 rfl rfl).trans ?_
      refine am_lets (L := fun v106 => [(2, x0), (0, x1), (0, v105), (0, v106)]) (fun v106 => ?_)
      refine (am_e1 rfl rfl).trans ?_
      exact (am_e5 rfl).trans rfl
    · refine (am_e5 rfl).trans ?_
      show am_Ex d 18 28 [am_N, am_N, (0, x2), am_N] [] M = _
      refine (am_e0 rfl rfl).trans ?_
      exact (am_e4i rfl rfl).trans rfl
  · refine (am_e5 rfl).trans ?_
    show am_Ex d 18 28 [am_N, am_N, (0, x2), am_N] [] M = _
    refine (am_e0 rfl rfl).trans ?_
    exact (am_e4i rfl rfl).trans rfl
-- 19: UnlearnedHand$Guild.leadersOf(I)I
set_option maxRecDepth 10000 in
theorem aq_19 (d : Nat) (x0 x1 : Int) (M : am_M) : am_Call d 19 [(2, x0), (0, x1)] M = (am_Ex d 19 5 [(2, x0), (0, x1), (0, 0), (0, 0)] [] M) := by
  show am_Ex d 19 0 [(2, x0), (0, x1), am_N, am_N] [] M = _
  refine (am_e0 rfl rfl).trans ?_
  refine (am_e0 rfl rfl).trans ?_
  refine (am_e0 rfl rfl).trans ?_
  refine (am_e0 rfl rfl).trans ?_
  exact (am_e5 rfl).trans rfl
set_option maxRecDepth 10000 in
theorem aq_19_5 (d : Nat) (x0 x1 x2 x3 : Int) (M : am_M) : am_Ex d 19 5 [(2, x0), (0, x1), (0, x2), (0, x3)] [] M = (am_g (am_ob x0 2) <| if x3 < am_rd M x0 5 then (if x3 < 8 then (am_g (am_ar (am_rd M x0 1) 20 x3) <| am_let (am_or x2 (am_shl (am_and (am_shr (am_rd M (am_rd M x0 1) x3) x1) 1) x3)) fun v105 => am_let (am_w32 (x3 + 1)) fun v106 => am_Ex d 19 5 [(2, x0), (0, x1), (0, v105), (0, v106)] [] M) else (some (x2, M))) else (some (x2, M))) := by
  refine (am_e0 rfl rfl).trans ?_
  refine (am_e0 rfl rfl).trans ?_
  refine (am_gf (c := 2) (t := 0) rfl rfl rfl).trans (am_g_congr fun h101 => ?_)
  refine (am_i_ge rfl).trans (am_if_congr (fun c102 => ?_) (fun c102 => ?_))
  · refine (am_e0 rfl rfl).trans ?_
    refine (am_e0 rfl rfl).trans ?_
    refine (am_i_ge rfl).trans (am_if_congr (fun c103 => ?_) (fun c103 => ?_))
    · refine (am_e0 rfl rfl).trans ?_
      refine (am_e0 rfl rfl).trans ?_
      refine (am_gf (c := 2) (t := 2) rfl rfl rfl).trans ((am_g_t h101).trans ?_)
      refine (am_e0 rfl rfl).trans ?_
      refine (am_ial rfl).trans (am_g_congr fun h104 => ?_)
      refine (am_e0 rfl rfl).trans ?_
      refine (am_e0 rfl rfl).trans ?_
      refine (am_e0 rfl rfl).trans ?_
      refine (am_e0 rfl rfl).trans ?_
      refine (am_e0 rfl rfl).trans ?_
      refine (am_e0 rfl rfl).trans ?_
      refine (am_e0 rfl rfl).trans ?_
      refine (am_e0 rfl rfl).trans ?_
      refine am_lets (L := fun v105 => [(2, x0), (0, x1), (0, v105), (0, x3)]) (fun v105 => ?_)
      refine (am_e0 rfl rfl).trans ?_
      refine am_lets (L := fun v106 => [(2, x0), (0, x1), (0, v105), (0, v106)]) (fun v106 => ?_)
      refine (am_e1 rfl rfl).trans ?_
      exact (am_e5 rfl).trans rfl
    · refine (am_e5 rfl).trans ?_
      show am_Ex d 19 28 [am_N, am_N, (0, x2), am_N] [] M = _
      refine (am_e0 rfl rfl).trans ?_
      exact (am_e4i rfl rfl).trans rfl
  · refine (am_e5 rfl).trans ?_
    show am_Ex d 19 28 [am_N, am_N, (0, x2), am_N] [] M = _
    refine (am_e0 rfl rfl).trans ?_
    exact (am_e4i rfl rfl).trans rfl
-- 20: UnlearnedHand$Guild.comesBack(I)I
set_option maxRecDepth 10000 in
theorem aq_20 (d : Nat) (x0 x1 : Int) (M : am_M) : am_Call d 20 [(2, x0), (0, x1)] M = (am_Ex d 20 5 [(2, x0), (0, x1), (0, 0), (0, 0), am_N] [] M) := by
  show am_Ex d 20 0 [(2, x0), (0, x1), am_N, am_N, am_N] [] M = _
  refine (am_e0 rfl rfl).trans ?_
  refine (am_e0 rfl rfl).trans ?_
  refine (am_e0 rfl rfl).trans ?_
  refine (am_e0 rfl rfl).trans ?_
  exact (am_e5 rfl).trans rfl
set_option maxRecDepth 10000 in
theorem aq_20_5 (d : Nat) (x0 x1 x2 x3 : Int) (M : am_M) : am_Ex d 20 5 [(2, x0), (0, x1), (0, x2), (0, x3), am_N] [] M = (am_g (am_ob x0 2) <| if x3 < am_rd M x0 7 then (if x3 < 6 then (if am_and (am_shr x1 x3) 1 = 0 then (am_let (am_or x2 0) fun v105 => am_let (am_w32 (x3 + 1)) fun v106 => am_Ex d 20 5 [(2, x0), (0, x1), (0, v105), (0, v106), am_N] [] M) else (am_g (am_ar (am_rd M x0 3) 20 x3) <| am_let (am_or x2 (am_rd M (am_rd M x0 3) x3)) fun v108 => am_let (am_w32 (x3 + 1)) fun v109 => am_Ex d 20 5 [(2, x0), (0, x1), (0, v108), (0, v109), am_N] [] M)) else (am_Ex d 20 30 [(2, x0), am_N, (0, x2), am_N, am_N] [] M)) else (am_Ex d 20 30 [(2, x0), am_N, (0, x2), am_N, am_N] [] M)) := by
  refine (am_e0 rfl rfl).trans ?_
  refine (am_e0 rfl rfl).trans ?_
  refine (am_gf (c := 2) (t := 0) rfl rfl rfl).trans (am_g_congr fun h101 => ?_)
  refine (am_i_ge rfl).trans (am_if_congr (fun c102 => ?_) (fun c102 => ?_))
  · refine (am_e0 rfl rfl).trans ?_
    refine (am_e0 rfl rfl).trans ?_
    refine (am_i_ge rfl).trans (am_if_congr (fun c103 => ?_) (fun c103 => ?_))
    · refine (am_e0 rfl rfl).trans ?_
      refine (am_e0 rfl rfl).trans ?_
      refine (am_e0 rfl rfl).trans ?_
      refine (am_e0 rfl rfl).trans ?_
      refine (am_e0 rfl rfl).trans ?_
      refine (am_e0 rfl rfl).trans ?_
      refine (am_z_eq rfl).trans (am_if_congr (fun c104 => ?_) (fun c104 => ?_))
      · refine (am_e0 rfl rfl).trans ?_
        refine (am_e0 rfl rfl).trans ?_
        refine (am_e0 rfl rfl).trans ?_
        refine am_lets (L := fun v105 => [(2, x0), (0, x1), (0, v105), (0, x3), am_N]) (fun v105 => ?_)
        refine (am_e0 rfl rfl).trans ?_
        refine am_lets (L := fun v106 => [(2, x0), (0, x1), (0, v105), (0, v106), am_N]) (fun v106 => ?_)
        refine (am_e1 rfl rfl).trans ?_
        exact (am_e5 rfl).trans rfl
      · refine (am_e0 rfl rfl).trans ?_
        refine (am_gf (c := 2) (t := 2) rfl rfl rfl).trans ((am_g_t h101).trans ?_)
        refine (am_e0 rfl rfl).trans ?_
        refine (am_ial rfl).trans (am_g_congr fun h107 => ?_)
        refine (am_e1 rfl rfl).trans ?_
        refine (am_e0 rfl rfl).trans ?_
        refine (am_e0 rfl rfl).trans ?_
        refine am_lets (L := fun v108 => [(2, x0), (0, x1), (0, v108), (0, x3), am_N]) (fun v108 => ?_)
        refine (am_e0 rfl rfl).trans ?_
        refine am_lets (L := fun v109 => [(2, x0), (0, x1), (0, v108), (0, v109), am_N]) (fun v109 => ?_)
        refine (am_e1 rfl rfl).trans ?_
        exact (am_e5 rfl).trans rfl
    · exact (am_e5 rfl).trans rfl
  · exact (am_e5 rfl).trans rfl
set_option maxRecDepth 10000 in
theorem aq_20_30 (d : Nat) (x0 x2 : Int) (M : am_M) : am_Ex d 20 30 [(2, x0), am_N, (0, x2), am_N, am_N] [] M = (am_Ex d 20 33 [(2, x0), am_N, (0, x2), (0, 0), am_N] [] M) := by
  refine (am_e0 rfl rfl).trans ?_
  refine (am_e0 rfl rfl).trans ?_
  exact (am_e5 rfl).trans rfl
set_option maxRecDepth 10000 in
theorem aq_20_33 (d : Nat) (x0 x2 x3 : Int) (M : am_M) : am_Ex d 20 33 [(2, x0), am_N, (0, x2), (0, x3), am_N] [] M = (am_g (am_ob x0 2) <| if x3 < am_rd M x0 5 then (am_Ex d 20 40 [(2, x0), am_N, (0, x2), (0, x3), (0, 0)] [] M) else (some (x2, M))) := by
  refine (am_e0 rfl rfl).trans ?_
  refine (am_e0 rfl rfl).trans ?_
  refine (am_gf (c := 2) (t := 0) rfl rfl rfl).trans (am_g_congr fun h101 => ?_)
  refine (am_i_ge rfl).trans (am_if_congr (fun c102 => ?_) (fun c102 => ?_))
  · refine (am_e0 rfl rfl).trans ?_
    refine (am_e0 rfl rfl).trans ?_
    exact (am_e5 rfl).trans rfl
  · refine (am_e0 rfl rfl).trans ?_
    exact (am_e4i rfl rfl).trans rfl
set_option maxRecDepth 10000 in
theorem aq_20_40 (d : Nat) (x0 x2 x3 x4 : Int) (M : am_M) : am_Ex d 20 40 [(2, x0), am_N, (0, x2), (0, x3), (0, x4)] [] M = (am_g (am_ob x0 2) <| if x4 < am_rd M x0 5 then (if x4 < 8 then (if am_and (am_shr x2 x4) 1 = 0 then (am_let (am_or x2 0) fun v105 => am_let (am_w32 (x4 + 1)) fun v106 => am_Ex d 20 40 [(2, x0), am_N, (0, v105), (0, x3), (0, v106)] [] M) else (am_g (am_ar (am_rd M x0 1) 20 x4) <| am_let (am_or x2 (am_rd M (am_rd M x0 1) x4)) fun v108 => am_let (am_w32 (x4 + 1)) fun v109 => am_Ex d 20 40 [(2, x0), am_N, (0, v108), (0, x3), (0, v109)] [] M)) else (am_Ex d 20 65 [(2, x0), am_N, (0, x2), (0, x3), am_N] [] M)) else (am_Ex d 20 65 [(2, x0), am_N, (0, x2), (0, x3), am_N] [] M)) := by
  refine (am_e0 rfl rfl).trans ?_
  refine (am_e0 rfl rfl).trans ?_
  refine (am_gf (c := 2) (t := 0) rfl rfl rfl).trans (am_g_congr fun h101 => ?_)
  refine (am_i_ge rfl).trans (am_if_congr (fun c102 => ?_) (fun c102 => ?_))
  · refine (am_e0 rfl rfl).trans ?_
    refine (am_e0 rfl rfl).trans ?_
    refine (am_i_ge rfl).trans (am_if_congr (fun c103 => ?_) (fun c103 => ?_))
    · refine (am_e0 rfl rfl).trans ?_
      refine (am_e0 rfl rfl).trans ?_
      refine (am_e0 rfl rfl).trans ?_
      refine (am_e0 rfl rfl).trans ?_
      refine (am_e0 rfl rfl).trans ?_
      refine (am_e0 rfl rfl).trans ?_
      refine (am_z_eq rfl).trans (am_if_congr (fun c104 => ?_) (fun c104 => ?_))
      · refine (am_e0 rfl rfl).trans ?_
        refine (am_e0 rfl rfl).trans ?_
        refine (am_e0 rfl rfl).trans ?_
        refine am_lets (L := fun v105 => [(2, x0), am_N, (0, v105), (0, x3), (0, x4)]) (fun v105 => ?_)
        refine (am_e0 rfl rfl).trans ?_
        refine am_lets (L := fun v106 => [(2, x0), am_N, (0, v105), (0, x3), (0, v106)]) (fun v106 => ?_)
        refine (am_e1 rfl rfl).trans ?_
        exact (am_e5 rfl).trans rfl
      · refine (am_e0 rfl rfl).trans ?_
        refine (am_gf (c := 2) (t := 2) rfl rfl rfl).trans ((am_g_t h101).trans ?_)
        refine (am_e0 rfl rfl).trans ?_
        refine (am_ial rfl).trans (am_g_congr fun h107 => ?_)
        refine (am_e1 rfl rfl).trans ?_
        refine (am_e0 rfl rfl).trans ?_
        refine (am_e0 rfl rfl).trans ?_
        refine am_lets (L := fun v108 => [(2, x0), am_N, (0, v108), (0, x3), (0, x4)]) (fun v108 => ?_)
        refine (am_e0 rfl rfl).trans ?_
        refine am_lets (L := fun v109 => [(2, x0), am_N, (0, v108), (0, x3), (0, v109)]) (fun v109 => ?_)
        refine (am_e1 rfl rfl).trans ?_
        exact (am_e5 rfl).trans rfl
    · exact (am_e5 rfl).trans rfl
  · exact (am_e5 rfl).trans rfl
set_option maxRecDepth 10000 in
theorem aq_20_65 (d : Nat) (x0 x2 x3 : Int) (M : am_M) : am_Ex d 20 65 [(2, x0), am_N, (0, x2), (0, x3), am_N] [] M = (am_let (am_w32 (x3 + 1)) fun v101 => am_Ex d 20 33 [(2, x0), am_N, (0, x2), (0, v101), am_N] [] M) := by
  refine (am_e0 rfl rfl).trans ?_
  refine am_lets (L := fun v101 => [(2, x0), am_N, (0, x2), (0, v101), am_N]) (fun v101 => ?_)
  refine (am_e1 rfl rfl).trans ?_
  exact (am_e5 rfl).trans rfl
-- 21: UnlearnedHand$Hands.<init>()V
set_option maxRecDepth 10000 in
theorem aq_21 (d : Nat) (x0 : Int) (M : am_M) : am_Call d 21 [(2, x0)] M = (am_g (decide (0 < x0)) <| am_g (am_ob M.1 20 && (am_ln M.1 == 48)) <| am_let (am_al M) fun M103 => am_g (am_ob x0 3) <| am_let (am_wr M103 x0 0 (M.1 : Int)) fun M105 => am_g (am_ob M105.1 20 && (am_ln M105.1 == 48)) <| am_let (am_al M105) fun M107 => am_let (am_wr M107 x0 1 (M105.1 : Int)) fun M108 => am_g (am_ob M108.1 20 && (am_ln M108.1 == 48)) <| am_let (am_al M108) fun M110 => am_let (am_wr M110 x0 2 (M108.1 : Int)) fun M111 => am_g (am_ob M111.1 20 && (am_ln M111.1 == 6)) <| am_let (am_al M111) fun M113 => am_let (am_wr M113 x0 3 (M111.1 : Int)) fun M114 => am_g (am_ob M114.1 20 && (am_ln M114.1 == 6)) <| am_let (am_al M114) fun M116 => am_let (am_wr M116 x0 4 (M114.1 : Int)) fun M117 => am_let (am_wr M117 x0 7 73) fun M118 => am_Ex d 21 28 [(2, x0), (0, 0)] [] M118) := by
  show am_Ex d 21 0 [(2, x0), am_N] [] M = _
  refine (am_e0 rfl rfl).trans ?_
  refine (am_e8 rfl rfl).trans (am_g_congr fun h101 => ?_)
  refine (am_e0 rfl rfl).trans ?_
  refine (am_e0 rfl rfl).trans ?_
  refine (am_nwa (c := 20) rfl rfl).trans (am_g_congr fun h102 => ?_)
  refine am_letm (fun M103 => ?_)
  refine (am_pf (c := 3) rfl rfl rfl).trans (am_g_congr fun h104 => ?_)
  refine am_letm (fun M105 => ?_)
  refine (am_e0 rfl rfl).trans ?_
  refine (am_e0 rfl rfl).trans ?_
  refine (am_nwa (c := 20) rfl rfl).trans (am_g_congr fun h106 => ?_)
  refine am_letm (fun M107 => ?_)
  refine (am_pf (c := 3) rfl rfl rfl).trans ((am_g_t h104).trans ?_)
  refine am_letm (fun M108 => ?_)
  refine (am_e0 rfl rfl).trans ?_
  refine (am_e0 rfl rfl).trans ?_
  refine (am_nwa (c := 20) rfl rfl).trans (am_g_congr fun h109 => ?_)
  refine am_letm (fun M110 => ?_)
  refine (am_pf (c := 3) rfl rfl rfl).trans ((am_g_t h104).trans ?_)
  refine am_letm (fun M111 => ?_)
  refine (am_e0 rfl rfl).trans ?_
  refine (am_e0 rfl rfl).trans ?_
  refine (am_nwa (c := 20) rfl rfl).trans (am_g_congr fun h112 => ?_)
  refine am_letm (fun M113 => ?_)
  refine (am_pf (c := 3) rfl rfl rfl).trans ((am_g_t h104).trans ?_)
  refine am_letm (fun M114 => ?_)
  refine (am_e0 rfl rfl).trans ?_
  refine (am_e0 rfl rfl).trans ?_
  refine (am_nwa (c := 20) rfl rfl).trans (am_g_congr fun h115 => ?_)
  refine am_letm (fun M116 => ?_)
  refine (am_pf (c := 3) rfl rfl rfl).trans ((am_g_t h104).trans ?_)
  refine am_letm (fun M117 => ?_)
  refine (am_e0 rfl rfl).trans ?_
  refine (am_e0 rfl rfl).trans ?_
  refine (am_pf (c := 3) rfl rfl rfl).trans ((am_g_t h104).trans ?_)
  refine am_letm (fun M118 => ?_)
  refine (am_e0 rfl rfl).trans ?_
  refine (am_e0 rfl rfl).trans ?_
  exact (am_e5 rfl).trans rfl
set_option maxRecDepth 10000 in
theorem aq_21_28 (d : Nat) (x0 x1 : Int) (M : am_M) : am_Ex d 21 28 [(2, x0), (0, x1)] [] M = (am_g (am_ob x0 3) <| am_g (am_ia (am_rd M x0 4)) <| if x1 < am_ln (am_rd M x0 4) then (am_g (am_ar (am_rd M x0 4) 20 x1) <| am_let (am_wr M (am_rd M x0 4) x1 (-1)) fun M105 => am_let (am_w32 (x1 + 1)) fun v106 => am_Ex d 21 28 [(2, x0), (0, v106)] [] M105) else (some (0, M))) := by
  refine (am_e0 rfl rfl).trans ?_
  refine (am_e0 rfl rfl).trans ?_
  refine (am_gf (c := 3) (t := 2) rfl rfl rfl).trans (am_g_congr fun h101 => ?_)
  refine (am_aln rfl).trans (am_g_congr fun h102 => ?_)
  refine (am_i_ge rfl).trans (am_if_congr (fun c103 => ?_) (fun c103 => ?_))
  · refine (am_e0 rfl rfl).trans ?_
    refine (am_gf (c := 3) (t := 2) rfl rfl rfl).trans ((am_g_t h101).trans ?_)
    refine (am_e0 rfl rfl).trans ?_
    refine (am_e0 rfl rfl).trans ?_
    refine (am_ias rfl).trans (am_g_congr fun h104 => ?_)
    refine am_letm (fun M105 => ?_)
    refine (am_e0 rfl rfl).trans ?_
    refine am_lets (L := fun v106 => [(2, x0), (0, v106)]) (fun v106 => ?_)
    refine (am_e1 rfl rfl).trans ?_
    exact (am_e5 rfl).trans rfl
  · exact (am_e4v rfl rfl).trans rfl
-- 22: UnlearnedHand$Hands.copyFrom(LUnlearnedHand$Hands;)V
set_option maxRecDepth 10000 in
theorem aq_22 (d : Nat) (x0 x1 : Int) (M : am_M) : am_Call d 22 [(2, x0), (2, x1)] M = (am_g (am_ob x1 3) <| am_g (am_ob x0 3) <| am_g (am_ob (am_rd M x1 0) 20 && am_ob (am_rd M x0 0) 20 && (decide (0 ≤ 48) && (decide (0 ≤ 0) && (decide (0 ≤ 0) && (decide (0 + 48 ≤ am_ln (am_rd M x1 0)) && decide (0 + 48 ≤ am_ln (am_rd M x0 0))))))) <| am_let (am_cpy M (am_rd M x1 0) 0 (am_rd M x0 0) 0 48) fun M104 => am_g (am_ob (am_rd M104 x1 1) 20 && am_ob (am_rd M104 x0 1) 20 && (decide (0 ≤ 48) && (decide (0 ≤ 0) && (decide (0 ≤ 0) && (decide (0 + 48 ≤ am_ln (am_rd M104 x1 1)) && decide (0 + 48 ≤ am_ln (am_rd M104 x0 1))))))) <| am_let (am_cpy M104 (am_rd M104 x1 1) 0 (am_rd M104 x0 1) 0 48) fun M106 => am_g (am_ob (am_rd M106 x1 2) 20 && am_ob (am_rd M106 x0 2) 20 && (decide (0 ≤ 48) && (decide (0 ≤ 0) && (decide (0 ≤ 0) && (decide (0 + 48 ≤ am_ln (am_rd M106 x1 2)) && decide (0 + 48 ≤ am_ln (am_rd M106 x0 2))))))) <| am_let (am_cpy M106 (am_rd M106 x1 2) 0 (am_rd M106 x0 2) 0 48) fun M108 => am_g (am_ob (am_rd M108 x1 3) 20 && am_ob (am_rd M108 x0 3) 20 && (decide (0 ≤ 6) && (decide (0 ≤ 0) && (decide (0 ≤ 0) && (decide (0 + 6 ≤ am_ln (am_rd M108 x1 3)) && decide (0 + 6 ≤ am_ln (am_rd M108 x0 3))))))) <| am_let (am_cpy M108 (am_rd M108 x1 3) 0 (am_rd M108 x0 3) 0 6) fun M110 => am_g (am_ob (am_rd M110 x1 4) 20 && am_ob (am_rd M110 x0 4) 20 && (decide (0 ≤ 6) && (decide (0 ≤ 0) && (decide (0 ≤ 0) && (decide (0 + 6 ≤ am_ln (am_rd M110 x1 4)) && decide (0 + 6 ≤ am_ln (am_rd M110 x0 4))))))) <| am_let (am_cpy M110 (am_rd M110 x1 4) 0 (am_rd M110 x0 4) 0 6) fun M112 => am_let (am_wr M112 x0 5 (am_rd M112 x1 5)) fun M113 => am_let (am_wr M113 x0 6 (am_rd M113 x1 6)) fun M114 => am_let (am_wr M114 x0 7 (am_rd M114 x1 7)) fun M115 => some (0, M115)) := by
  show am_Ex d 22 0 [(2, x0), (2, x1)] [] M = _
  refine (am_e0 rfl rfl).trans ?_
  refine (am_gf (c := 3) (t := 2) rfl rfl rfl).trans (am_g_congr fun h101 => ?_)
  refine (am_e0 rfl rfl).trans ?_
  refine (am_e0 rfl rfl).trans ?_
  refine (am_gf (c := 3) (t := 2) rfl rfl rfl).trans (am_g_congr fun h102 => ?_)
  refine (am_e0 rfl rfl).trans ?_
  refine (am_e0 rfl rfl).trans ?_
  refine (am_e9 rfl rfl).trans (am_g_congr fun h103 => ?_)
  refine am_letm (fun M104 => ?_)
  refine (am_e0 rfl rfl).trans ?_
  refine (am_gf (c := 3) (t := 2) rfl rfl rfl).trans ((am_g_t h101).trans ?_)
  refine (am_e0 rfl rfl).trans ?_
  refine (am_e0 rfl rfl).trans ?_
  refine (am_gf (c := 3) (t := 2) rfl rfl rfl).trans ((am_g_t h102).trans ?_)
  refine (am_e0 rfl rfl).trans ?_
  refine (am_e0 rfl rfl).trans ?_
  refine (am_e9 rfl rfl).trans (am_g_congr fun h105 => ?_)
  refine am_letm (fun M106 => ?_)
  refine (am_e0 rfl rfl).trans ?_
  refine (am_gf (c := 3) (t := 2) rfl rfl rfl).trans ((am_g_t h101).trans ?_)
  refine (am_e0 rfl rfl).trans ?_
  refine (am_e0 rfl rfl).trans ?_
  refine (am_gf (c := 3) (t := 2) rfl rfl rfl).trans ((am_g_t h102).trans ?_)
  refine (am_e0 rfl rfl).trans ?_
  refine (am_e0 rfl rfl).trans ?_
  refine (am_e9 rfl rfl).trans (am_g_congr fun h107 => ?_)
  refine am_letm (fun M108 => ?_)
  refine (am_e0 rfl rfl).trans ?_
  refine (am_gf (c := 3) (t := 2) rfl rfl rfl).trans ((am_g_t h101).trans ?_)
  refine (am_e0 rfl rfl).trans ?_
  refine (am_e0 rfl rfl).trans ?_
  refine (am_gf (c := 3) (t := 2) rfl rfl rfl).trans ((am_g_t h102).trans ?_)
  refine (am_e0 rfl rfl).trans ?_
  refine (am_e0 rfl rfl).trans ?_
  refine (am_e9 rfl rfl).trans (am_g_congr fun h109 => ?_)
  refine am_letm (fun M110 => ?_)
  refine (am_e0 rfl rfl).trans ?_
  refine (am_gf (c := 3) (t := 2) rfl rfl rfl).trans ((am_g_t h101).trans ?_)
  refine (am_e0 rfl rfl).trans ?_
  refine (am_e0 rfl rfl).trans ?_
  refine (am_gf (c := 3) (t := 2) rfl rfl rfl).trans ((am_g_t h102).trans ?_)
  refine (am_e0 rfl rfl).trans ?_
  refine (am_e0 rfl rfl).trans ?_
  refine (am_e9 rfl rfl).trans (am_g_congr fun h111 => ?_)
  refine am_letm (fun M112 => ?_)
  refine (am_e0 rfl rfl).trans ?_
  refine (am_e0 rfl rfl).trans ?_
  refine (am_gf (c := 3) (t := 0) rfl rfl rfl).trans ((am_g_t h101).trans ?_)
  refine (am_pf (c := 3) rfl rfl rfl).trans ((am_g_t h102).trans ?_)
  refine am_letm (fun M113 => ?_)
  refine (am_e0 rfl rfl).trans ?_
  refine (am_e0 rfl rfl).trans ?_
  refine (am_gf (c := 3) (t := 0) rfl rfl rfl).trans ((am_g_t h101).trans ?_)
  refine (am_pf (c := 3) rfl rfl rfl).trans ((am_g_t h102).trans ?_)
  refine am_letm (fun M114 => ?_)
  refine (am_e0 rfl rfl).trans ?_
  refine (am_e0 rfl rfl).trans ?_
  refine (am_gf (c := 3) (t := 0) rfl rfl rfl).trans ((am_g_t h101).trans ?_)
  refine (am_pf (c := 3) rfl rfl rfl).trans ((am_g_t h102).trans ?_)
  refine am_letm (fun M115 => ?_)
  exact (am_e4v rfl rfl).trans rfl
-- 23: UnlearnedHand$Hands.placeOf(II)I
set_option maxRecDepth 10000 in
theorem aq_23 (d : Nat) (x0 x1 : Int) (M : am_M) : am_Call d 23 [(0, x0), (0, x1)] M = (if x0 < 0 then (some ((-1), M)) else (if x0 < 6 then (if x1 < 0 then (some ((-1), M)) else (if x1 < 8 then (some (am_w32 ((am_w32 (x0 * 8)) + x1), M)) else (some ((-1), M)))) else (some ((-1), M)))) := by
  show am_Ex d 23 0 [(0, x0), (0, x1)] [] M = _
  refine (am_e0 rfl rfl).trans ?_
  refine (am_z_lt rfl).trans (am_if_congr (fun c101 => ?_) (fun c101 => ?_))
  · refine (am_e5 rfl).trans ?_
    show am_Ex d 23 11 [am_N, am_N] [] M = _
    refine (am_e0 rfl rfl).trans ?_
    exact (am_e4i rfl rfl).trans rfl
  · refine (am_e0 rfl rfl).trans ?_
    refine (am_e0 rfl rfl).trans ?_
    refine (am_i_ge rfl).trans (am_if_congr (fun c102 => ?_) (fun c102 => ?_))
    · refine (am_e0 rfl rfl).trans ?_
      refine (am_z_lt rfl).trans (am_if_congr (fun c103 => ?_) (fun c103 => ?_))
      · refine (am_e5 rfl).trans ?_
        show am_Ex d 23 11 [am_N, am_N] [] M = _
        refine (am_e0 rfl rfl).trans ?_
        exact (am_e4i rfl rfl).trans rfl
      · refine (am_e0 rfl rfl).trans ?_
        refine (am_e0 rfl rfl).trans ?_
        refine (am_i_lt rfl).trans (am_if_congr (fun c104 => ?_) (fun c104 => ?_))
        · refine (am_e0 rfl rfl).trans ?_
          refine (am_e0 rfl rfl).trans ?_
          refine (am_e0 rfl rfl).trans ?_
          refine (am_e0 rfl rfl).trans ?_
          refine (am_e0 rfl rfl).trans ?_
          exact (am_e4i rfl rfl).trans rfl
        · refine (am_e5 rfl).trans ?_
          show am_Ex d 23 11 [am_N, am_N] [] M = _
          refine (am_e0 rfl rfl).trans ?_
          exact (am_e4i rfl rfl).trans rfl
    · refine (am_e5 rfl).trans ?_
      show am_Ex d 23 11 [am_N, am_N] [] M = _
      refine (am_e0 rfl rfl).trans ?_
      exact (am_e4i rfl rfl).trans rfl
-- 24: UnlearnedHand$Hands.tiedAt(I)I
set_option maxRecDepth 10000 in
theorem aq_24 (d : Nat) (x0 x1 : Int) (M : am_M) : am_Call d 24 [(2, x0), (0, x1)] M = (if x1 < 0 then (am_Ex d 24 6 [am_N, am_N] [] M) else (if x1 < 6 then (am_g (am_ob x0 3) <| am_g (am_ar (am_rd M x0 4) 20 x1) <| some (am_rd M (am_rd M x0 4) x1, M)) else (am_Ex d 24 6 [am_N, am_N] [] M))) := by
  show am_Ex d 24 0 [(2, x0), (0, x1)] [] M = _
  refine (am_e0 rfl rfl).trans ?_
  refine (am_z_lt rfl).trans (am_if_congr (fun c101 => ?_) (fun c101 => ?_))
  · exact (am_e5 rfl).trans rfl
  · refine (am_e0 rfl rfl).trans ?_
    refine (am_e0 rfl rfl).trans ?_
    refine (am_i_lt rfl).trans (am_if_congr (fun c102 => ?_) (fun c102 => ?_))
    · refine (am_e0 rfl rfl).trans ?_
      refine (am_gf (c := 3) (t := 2) rfl rfl rfl).trans (am_g_congr fun h103 => ?_)
      refine (am_e0 rfl rfl).trans ?_
      refine (am_ial rfl).trans (am_g_congr fun h104 => ?_)
      exact (am_e4i rfl rfl).trans rfl
    · exact (am_e5 rfl).trans rfl
set_option maxRecDepth 10000 in
theorem aq_24_6 (d : Nat) (M : am_M) : am_Ex d 24 6 [am_N, am_N] [] M = (some ((-1), M)) := by
  refine (am_e0 rfl rfl).trans ?_
  refine (am_e1 rfl rfl).trans ?_
  exact (am_e4i rfl rfl).trans rfl
-- 25: UnlearnedHand$Hands.isFree(I)Z
set_option maxRecDepth 10000 in
theorem aq_25 (d : Nat) (x0 x1 : Int) (M : am_M) : am_Call d 25 [(2, x0), (0, x1)] M = (if x1 < 0 then (some (0, M)) else (if x1 < 6 then (am_g (am_ob x0 3) <| if am_and (am_shr (am_rd M x0 5) x1) 1 = 0 then (some (0, M)) else (some (1, M))) else (some (0, M)))) := by
  show am_Ex d 25 0 [(2, x0), (0, x1)] [] M = _
  refine (am_e0 rfl rfl).trans ?_
  refine (am_z_lt rfl).trans (am_if_congr (fun c101 => ?_) (fun c101 => ?_))
  · refine (am_e5 rfl).trans ?_
    show am_Ex d 25 15 [am_N, am_N] [] M = _
    refine (am_e0 rfl rfl).trans ?_
    exact (am_e4i rfl rfl).trans rfl
  · refine (am_e0 rfl rfl).trans ?_
    refine (am_e0 rfl rfl).trans ?_
    refine (am_i_ge rfl).trans (am_if_congr (fun c102 => ?_) (fun c102 => ?_))
    · refine (am_e0 rfl rfl).trans ?_
      refine (am_gf (c := 3) (t := 0) rfl rfl rfl).trans (am_g_congr fun h103 => ?_)
      refine (am_e0 rfl rfl).trans ?_
      refine (am_e0 rfl rfl).trans ?_
      refine (am_e0 rfl rfl).trans ?_
      refine (am_e0 rfl rfl).trans ?_
      refine (am_z_eq rfl).trans (am_if_congr (fun c104 => ?_) (fun c104 => ?_))
      · refine (am_e5 rfl).trans ?_
        show am_Ex d 25 15 [am_N, am_N] [] M = _
        refine (am_e0 rfl rfl).trans ?_
        exact (am_e4i rfl rfl).trans rfl
      · refine (am_e0 rfl rfl).trans ?_
        refine (am_e1 rfl rfl).trans ?_
        exact (am_e4i rfl rfl).trans rfl
    · refine (am_e5 rfl).trans ?_
      show am_Ex d 25 15 [am_N, am_N] [] M = _
      refine (am_e0 rfl rfl).trans ?_
      exact (am_e4i rfl rfl).trans rfl
-- 26: UnlearnedHand$Hands.setTied(II)V
set_option maxRecDepth 10000 in
theorem aq_26 (d : Nat) (x0 x1 x2 : Int) (M : am_M) : am_Call d 26 [(2, x0), (0, x1), (0, x2)] M = (if x1 < 0 then (some (0, M)) else (if x1 < 6 then (am_g (am_ob x0 3) <| am_g (am_ar (am_rd M x0 4) 20 x1) <| am_let (am_wr M (am_rd M x0 4) x1 x2) fun M105 => some (0, M105)) else (some (0, M)))) := by
  show am_Ex d 26 0 [(2, x0), (0, x1), (0, x2)] [] M = _
  refine (am_e0 rfl rfl).trans ?_
  refine (am_z_lt rfl).trans (am_if_congr (fun c101 => ?_) (fun c101 => ?_))
  · refine (am_e5 rfl).trans ?_
    show am_Ex d 26 11 [am_N, am_N, am_N] [] M = _
    exact (am_e4v rfl rfl).trans rfl
  · refine (am_e0 rfl rfl).trans ?_
    refine (am_e0 rfl rfl).trans ?_
    refine (am_i_ge rfl).trans (am_if_congr (fun c102 => ?_) (fun c102 => ?_))
    · refine (am_e0 rfl rfl).trans ?_
      refine (am_gf (c := 3) (t := 2) rfl rfl rfl).trans (am_g_congr fun h103 => ?_)
      refine (am_e0 rfl rfl).trans ?_
      refine (am_e0 rfl rfl).trans ?_
      refine (am_ias rfl).trans (am_g_congr fun h104 => ?_)
      refine am_letm (fun M105 => ?_)
      refine (am_e5 rfl).trans ?_
      show am_Ex d 26 11 [am_N, am_N, am_N] [] M105 = _
      exact (am_e4v rfl rfl).trans rfl
    · refine (am_e5 rfl).trans ?_
      show am_Ex d 26 11 [am_N, am_N, am_N] [] M = _
      exact (am_e4v rfl rfl).trans rfl
-- 27: UnlearnedHand$Hands.setFree(I)V
set_option maxRecDepth 10000 in
theorem aq_27 (d : Nat) (x0 x1 : Int) (M : am_M) : am_Call d 27 [(2, x0), (0, x1)] M = (am_g (am_ob x0 3) <| am_let (am_wr M x0 5 (am_or (am_rd M x0 5) (am_shl 1 x1))) fun M102 => some (0, M102)) := by
  show am_Ex d 27 0 [(2, x0), (0, x1)] [] M = _
  refine (am_e0 rfl rfl).trans ?_
  refine (am_e0 rfl rfl).trans ?_
  refine (am_gf (c := 3) (t := 0) rfl rfl rfl).trans (am_g_congr fun h101 => ?_)
  refine (am_e0 rfl rfl).trans ?_
  refine (am_e0 rfl rfl).trans ?_
  refine (am_e0 rfl rfl).trans ?_
  refine (am_e0 rfl rfl).trans ?_
  refine (am_pf (c := 3) rfl rfl rfl).trans ((am_g_t h101).trans ?_)
  refine am_letm (fun M102 => ?_)
  exact (am_e4v rfl rfl).trans rfl
-- 28: UnlearnedHand$Hands.songsOf(I)I
set_option maxRecDepth 10000 in
theorem aq_28 (d : Nat) (x0 x1 : Int) (M : am_M) : am_Call d 28 [(2, x0), (0, x1)] M = (if x1 < 0 then (am_Ex d 28 6 [am_N, am_N] [] M) else (if x1 < 6 then (am_g (am_ob x0 3) <| am_g (am_ar (am_rd M x0 3) 20 x1) <| some (am_rd M (am_rd M x0 3) x1, M)) else (am_Ex d 28 6 [am_N, am_N] [] M))) := by
  show am_Ex d 28 0 [(2, x0), (0, x1)] [] M = _
  refine (am_e0 rfl rfl).trans ?_
  refine (am_z_lt rfl).trans (am_if_congr (fun c101 => ?_) (fun c101 => ?_))
  · exact (am_e5 rfl).trans rfl
  · refine (am_e0 rfl rfl).trans ?_
    refine (am_e0 rfl rfl).trans ?_
    refine (am_i_lt rfl).trans (am_if_congr (fun c102 => ?_) (fun c102 => ?_))
    · refine (am_e0 rfl rfl).trans ?_
      refine (am_gf (c := 3) (t := 2) rfl rfl rfl).trans (am_g_congr fun h103 => ?_)
      refine (am_e0 rfl rfl).trans ?_
      refine (am_ial rfl).trans (am_g_congr fun h104 => ?_)
      exact (am_e4i rfl rfl).trans rfl
    · exact (am_e5 rfl).trans rfl
set_option maxRecDepth 10000 in
theorem aq_28_6 (d : Nat) (M : am_M) : am_Ex d 28 6 [am_N, am_N] [] M = (some (0, M)) := by
  refine (am_e0 rfl rfl).trans ?_
  refine (am_e1 rfl rfl).trans ?_
  exact (am_e4i rfl rfl).trans rfl
-- 29: UnlearnedHand$Laws.<init>(LUnlearnedHand$Guild;[LUnlearnedHand$Script;)V
set_option maxRecDepth 10000 in
theorem aq_29 (d : Nat) (x0 x1 x2 : Int) (M : am_M) : am_Call d 29 [(2, x0), (2, x1), (2, x2)] M = (am_g (decide (0 < x0)) <| am_g (am_ob M.1 20 && (am_ln M.1 == 9)) <| am_let (am_al M) fun M103 => am_g (am_ob x0 4) <| am_let (am_wr M103 x0 2 (M.1 : Int)) fun M105 => am_g (am_ob M105.1 20 && (am_ln M105.1 == 64)) <| am_let (am_al M105) fun M107 => am_let (am_wr M107 x0 3 (M105.1 : Int)) fun M108 => am_let (am_wr M108 x0 0 x1) fun M109 => am_let (am_wr M109 x0 1 x2) fun M110 => some (0, M110)) := by
  show am_Ex d 29 0 [(2, x0), (2, x1), (2, x2)] [] M = _
  refine (am_e0 rfl rfl).trans ?_
  refine (am_e8 rfl rfl).trans (am_g_congr fun h101 => ?_)
  refine (am_e0 rfl rfl).trans ?_
  refine (am_e0 rfl rfl).trans ?_
  refine (am_nwa (c := 20) rfl rfl).trans (am_g_congr fun h102 => ?_)
  refine am_letm (fun M103 => ?_)
  refine (am_pf (c := 4) rfl rfl rfl).trans (am_g_congr fun h104 => ?_)
  refine am_letm (fun M105 => ?_)
  refine (am_e0 rfl rfl).trans ?_
  refine (am_e0 rfl rfl).trans ?_
  refine (am_nwa (c := 20) rfl rfl).trans (am_g_congr fun h106 => ?_)
  refine am_letm (fun M107 => ?_)
  refine (am_pf (c := 4) rfl rfl rfl).trans ((am_g_t h104).trans ?_)
  refine am_letm (fun M108 => ?_)
  refine (am_e0 rfl rfl).trans ?_
  refine (am_e0 rfl rfl).trans ?_
  refine (am_pf (c := 4) rfl rfl rfl).trans ((am_g_t h104).trans ?_)
  refine am_letm (fun M109 => ?_)
  refine (am_e0 rfl rfl).trans ?_
  refine (am_e0 rfl rfl).trans ?_
  refine (am_pf (c := 4) rfl rfl rfl).trans ((am_g_t h104).trans ?_)
  refine am_letm (fun M110 => ?_)
  exact (am_e4v rfl rfl).trans rfl
-- 30: UnlearnedHand$Laws.setNames(LUnlearnedHand$Hands;III)V
set_option maxRecDepth 10000 in
theorem aq_30 (d : Nat) (x0 x1 x2 x3 x4 : Int) (M : am_M) : am_Call d 30 [(2, x0), (2, x1), (0, x2), (0, x3), (0, x4)] M = (am_let (am_w32 ((am_w32 (x2 * 8)) + x3)) fun v101 => if x2 < 0 then (some (0, M)) else (if x2 < 6 then (if x3 < 0 then (some (0, M)) else (if x3 < 8 then (am_g (am_ob x0 4) <| am_g (am_ar (am_rd M x0 2) 20 0) <| am_let (am_wr M (am_rd M x0 2) 0 x3) fun M108 => am_g (am_ob (am_rd M108 x0 0) 2) <| am_g (am_ar (am_rd M108 (am_rd M108 x0 0) 2) 20 x2) <| am_g (am_ar (am_rd M108 x0 2) 20 1) <| am_let (am_wr M108 (am_rd M108 x0 2) 1 (am_rd M108 (am_rd M108 (am_rd M108 x0 0) 2) x2)) fun M112 => am_g (am_ob x1 3) <| am_g (am_ar (am_rd M112 x1 0) 20 v101) <| am_g (am_ar (am_rd M112 x0 2) 20 2) <| am_let (am_wr M112 (am_rd M112 x0 2) 2 (am_rd M112 (am_rd M112 x1 0) v101)) fun M116 => am_g (am_ar (am_rd M116 x1 1) 20 v101) <| am_g (am_ar (am_rd M116 x0 2) 20 3) <| am_let (am_wr M116 (am_rd M116 x0 2) 3 (am_rd M116 (am_rd M116 x1 1) v101)) fun M119 => am_g (am_ob (am_rd M119 x0 0) 2) <| am_g (am_ar (am_rd M119 (am_rd M119 x0 0) 0) 20 x3) <| am_g (am_ar (am_rd M119 x0 2) 20 4) <| am_let (am_wr M119 (am_rd M119 x0 2) 4 (am_rd M119 (am_rd M119 (am_rd M119 x0 0) 0) x3)) fun M123 => am_g (am_ar (am_rd M123 x0 2) 20 5) <| am_let (am_wr M123 (am_rd M123 x0 2) 5 (am_rd M123 x1 6)) fun M125 => am_g (am_ar (am_rd M125 x1 3) 20 x2) <| am_g (am_ar (am_rd M125 x0 2) 20 6) <| am_let (am_wr M125 (am_rd M125 x0 2) 6 (am_and (am_shr (am_rd M125 (am_rd M125 x1 3) x2) x3) 1)) fun M128 => am_g (am_ar (am_rd M128 x1 4) 20 x2) <| if am_rd M128 (am_rd M128 x1 4) x2 = x3 then (am_g (am_ar (am_rd M128 x0 2) 20 7) <| am_let (am_wr M128 (am_rd M128 x0 2) 7 1) fun M132 => am_g (am_ar (am_rd M132 x0 2) 20 8) <| am_let (am_wr M132 (am_rd M132 x0 2) 8 x4) fun M134 => some (0, M134)) else (am_g (am_ar (am_rd M128 x0 2) 20 7) <| am_let (am_wr M128 (am_rd M128 x0 2) 7 0) fun M136 => am_g (am_ar (am_rd M136 x0 2) 20 8) <| am_let (am_wr M136 (am_rd M136 x0 2) 8 x4) fun M138 => some (0, M138))) else (some (0, M)))) else (some (0, M)))) := by
  show am_Ex d 30 0 [(2, x0), (2, x1), (0, x2), (0, x3), (0, x4), am_N] [] M = _
  refine (am_e0 rfl rfl).trans ?_
  refine (am_e0 rfl rfl).trans ?_
  refine (am_e0 rfl rfl).trans ?_
  refine (am_e0 rfl rfl).trans ?_
  refine (am_e0 rfl rfl).trans ?_
  refine (am_e0 rfl rfl).trans ?_
  refine am_lets (L := fun v101 => [(2, x0), (2, x1), (0, x2), (0, x3), (0, x4), (0, v101)]) (fun v101 => ?_)
  refine (am_e0 rfl rfl).trans ?_
  refine (am_z_lt rfl).trans (am_if_congr (fun c102 => ?_) (fun c102 => ?_))
  · refine (am_e5 rfl).trans ?_
    show am_Ex d 30 17 [am_N, am_N, am_N, am_N, am_N, am_N] [] M = _
    exact (am_e4v rfl rfl).trans rfl
  · refine (am_e0 rfl rfl).trans ?_
    refine (am_e0 rfl rfl).trans ?_
    refine (am_i_ge rfl).trans (am_if_congr (fun c103 => ?_) (fun c103 => ?_))
    · refine (am_e0 rfl rfl).trans ?_
      refine (am_z_lt rfl).trans (am_if_congr (fun c104 => ?_) (fun c104 => ?_))
      · refine (am_e5 rfl).trans ?_
        show am_Ex d 30 17 [am_N, am_N, am_N, am_N, am_N, am_N] [] M = _
        exact (am_e4v rfl rfl).trans rfl
      · refine (am_e0 rfl rfl).trans ?_
        refine (am_e0 rfl rfl).trans ?_
        refine (am_i_lt rfl).trans (am_if_congr (fun c105 => ?_) (fun c105 => ?_))
        · refine (am_e0 rfl rfl).trans ?_
          refine (am_gf (c := 4) (t := 2) rfl rfl rfl).trans (am_g_congr fun h106 => ?_)
          refine (am_e0 rfl rfl).trans ?_
          refine (am_e0 rfl rfl).trans ?_
          refine (am_ias rfl).trans (am_g_congr fun h107 => ?_)
          refine am_letm (fun M108 => ?_)
          refine (am_e0 rfl rfl).trans ?_
          refine (am_gf (c := 4) (t := 2) rfl rfl rfl).trans ((am_g_t h106).trans ?_)
          refine (am_e0 rfl rfl).trans ?_
          refine (am_e0 rfl rfl).trans ?_
          refine (am_gf (c := 4) (t := 2) rfl rfl rfl).trans ((am_g_t h106).trans ?_)
          refine (am_gf (c := 2) (t := 2) rfl rfl rfl).trans (am_g_congr fun h109 => ?_)
          refine (am_e0 rfl rfl).trans ?_
          refine (am_ial rfl).trans (am_g_congr fun h110 => ?_)
          refine (am_ias rfl).trans (am_g_congr fun h111 => ?_)
          refine am_letm (fun M112 => ?_)
          refine (am_e0 rfl rfl).trans ?_
          refine (am_gf (c := 4) (t := 2) rfl rfl rfl).trans ((am_g_t h106).trans ?_)
          refine (am_e0 rfl rfl).trans ?_
          refine (am_e0 rfl rfl).trans ?_
          refine (am_gf (c := 3) (t := 2) rfl rfl rfl).trans (am_g_congr fun h113 => ?_)
          refine (am_e0 rfl rfl).trans ?_
          refine (am_ial rfl).trans (am_g_congr fun h114 => ?_)
          refine (am_ias rfl).trans (am_g_congr fun h115 => ?_)
          refine am_letm (fun M116 => ?_)
          refine (am_e0 rfl rfl).trans ?_
          refine (am_gf (c := 4) (t := 2) rfl rfl rfl).trans ((am_g_t h106).trans ?_)
          refine (am_e0 rfl rfl).trans ?_
          refine (am_e0 rfl rfl).trans ?_
          refine (am_gf (c := 3) (t := 2) rfl rfl rfl).trans ((am_g_t h113).trans ?_)
          refine (am_e0 rfl rfl).trans ?_
          refine (am_ial rfl).trans (am_g_congr fun h117 => ?_)
          refine (am_ias rfl).trans (am_g_congr fun h118 => ?_)
          refine am_letm (fun M119 => ?_)
          refine (am_e0 rfl rfl).trans ?_
          refine (am_gf (c := 4) (t := 2) rfl rfl rfl).trans ((am_g_t h106).trans ?_)
          refine (am_e0 rfl rfl).trans ?_
          refine (am_e0 rfl rfl).trans ?_
          refine (am_gf (c := 4) (t := 2) rfl rfl rfl).trans ((am_g_t h106).trans ?_)
          refine (am_gf (c := 2) (t := 2) rfl rfl rfl).trans (am_g_congr fun h120 => ?_)
          refine (am_e0 rfl rfl).trans ?_
          refine (am_ial rfl).trans (am_g_congr fun h121 => ?_)
          refine (am_ias rfl).trans (am_g_congr fun h122 => ?_)
          refine am_letm (fun M123 => ?_)
          refine (am_e0 rfl rfl).trans ?_
          refine (am_gf (c := 4) (t := 2) rfl rfl rfl).trans ((am_g_t h106).trans ?_)
          refine (am_e0 rfl rfl).trans ?_
          refine (am_e0 rfl rfl).trans ?_
          refine (am_gf (c := 3) (t := 0) rfl rfl rfl).trans ((am_g_t h113).trans ?_)
          refine (am_ias rfl).trans (am_g_congr fun h124 => ?_)
          refine am_letm (fun M125 => ?_)
          refine (am_e0 rfl rfl).trans ?_
          refine (am_gf (c := 4) (t := 2) rfl rfl rfl).trans ((am_g_t h106).trans ?_)
          refine (am_e0 rfl rfl).trans ?_
          refine (am_e0 rfl rfl).trans ?_
          refine (am_gf (c := 3) (t := 2) rfl rfl rfl).trans ((am_g_t h113).trans ?_)
          refine (am_e0 rfl rfl).trans ?_
          refine (am_ial rfl).trans (am_g_congr fun h126 => ?_)
          refine (am_e0 rfl rfl).trans ?_
          refine (am_e0 rfl rfl).trans ?_
          refine (am_e0 rfl rfl).trans ?_
          refine (am_e0 rfl rfl).trans ?_
          refine (am_ias rfl).trans (am_g_congr fun h127 => ?_)
          refine am_letm (fun M128 => ?_)
          refine (am_e0 rfl rfl).trans ?_
          refine (am_gf (c := 4) (t := 2) rfl rfl rfl).trans ((am_g_t h106).trans ?_)
          refine (am_e0 rfl rfl).trans ?_
          refine (am_e0 rfl rfl).trans ?_
          refine (am_gf (c := 3) (t := 2) rfl rfl rfl).trans ((am_g_t h113).trans ?_)
          refine (am_e0 rfl rfl).trans ?_
          refine (am_ial rfl).trans (am_g_congr fun h129 => ?_)
          refine (am_e0 rfl rfl).trans ?_
          refine (am_i_ne rfl).trans (am_if_congr (fun c130 => ?_) (fun c130 => ?_))
          · refine (am_e0 rfl rfl).trans ?_
            refine (am_e1 rfl rfl).trans ?_
            refine (am_ias rfl).trans (am_g_congr fun h131 => ?_)
            refine am_letm (fun M132 => ?_)
            refine (am_e0 rfl rfl).trans ?_
            refine (am_gf (c := 4) (t := 2) rfl rfl rfl).trans ((am_g_t h106).trans ?_)
            refine (am_e0 rfl rfl).trans ?_
            refine (am_e0 rfl rfl).trans ?_
            refine (am_ias rfl).trans (am_g_congr fun h133 => ?_)
            refine am_letm (fun M134 => ?_)
            exact (am_e4v rfl rfl).trans rfl
          · refine (am_e0 rfl rfl).trans ?_
            refine (am_ias rfl).trans (am_g_congr fun h135 => ?_)
            refine am_letm (fun M136 => ?_)
            refine (am_e0 rfl rfl).trans ?_
            refine (am_gf (c := 4) (t := 2) rfl rfl rfl).trans ((am_g_t h106).trans ?_)
            refine (am_e0 rfl rfl).trans ?_
            refine (am_e0 rfl rfl).trans ?_
            refine (am_ias rfl).trans (am_g_congr fun h137 => ?_)
            refine am_letm (fun M138 => ?_)
            exact (am_e4v rfl rfl).trans rfl
        · refine (am_e5 rfl).trans ?_
          show am_Ex d 30 17 [am_N, am_N, am_N, am_N, am_N, am_N] [] M = _
          exact (am_e4v rfl rfl).trans rfl
    · refine (am_e5 rfl).trans ?_
      show am_Ex d 30 17 [am_N, am_N, am_N, am_N, am_N, am_N] [] M = _
      exact (am_e4v rfl rfl).trans rfl
-- 31: UnlearnedHand$Laws.valueWithout(II)I
set_option maxRecDepth 10000 in
theorem aq_31 (d : Nat) (x0 x1 x2 : Int) (M : am_M) : am_Call d 31 [(2, x0), (0, x1), (0, x2)] M = (if x1 = 0 then (am_g (am_ob x0 4) <| am_g (am_ar (am_rd M x0 2) 20 2) <| am_g (am_ar (am_rd M x0 2) 20 3) <| if am_rd M (am_rd M x0 2) 2 ≤ am_rd M (am_rd M x0 2) 3 then (some (0, M)) else (some (1, M))) else if x1 = 1 then (some (1, M)) else if x1 = 2 then (some (0, M)) else if x1 = 3 then (if (2 : Int) = 0 then none else some (am_div x2 2, M)) else (some (0, M))) := by
  show am_Ex d 31 0 [(2, x0), (0, x1), (0, x2)] [] M = _
  refine (am_e0 rfl rfl).trans ?_
  refine (am_tsw rfl).trans ?_
  refine (am_sw_c).trans (am_if_congr (fun c101 => ?_) (fun c101 => ?_))
  · refine (am_e0 rfl rfl).trans ?_
    refine (am_gf (c := 4) (t := 2) rfl rfl rfl).trans (am_g_congr fun h102 => ?_)
    refine (am_e0 rfl rfl).trans ?_
    refine (am_ial rfl).trans (am_g_congr fun h103 => ?_)
    refine (am_e0 rfl rfl).trans ?_
    refine (am_gf (c := 4) (t := 2) rfl rfl rfl).trans ((am_g_t h102).trans ?_)
    refine (am_e0 rfl rfl).trans ?_
    refine (am_ial rfl).trans (am_g_congr fun h104 => ?_)
    refine (am_i_le rfl).trans (am_if_congr (fun c105 => ?_) (fun c105 => ?_))
    · refine (am_e0 rfl rfl).trans ?_
      exact (am_e4i rfl rfl).trans rfl
    · refine (am_e0 rfl rfl).trans ?_
      refine (am_e1 rfl rfl).trans ?_
      exact (am_e4i rfl rfl).trans rfl
  refine (am_sw_c).trans (am_if_congr (fun c106 => ?_) (fun c106 => ?_))
  · refine (am_e0 rfl rfl).trans ?_
    exact (am_e4i rfl rfl).trans rfl
  refine (am_sw_c).trans (am_if_congr (fun c107 => ?_) (fun c107 => ?_))
  · refine (am_e0 rfl rfl).trans ?_
    exact (am_e4i rfl rfl).trans rfl
  refine (am_sw_c).trans (am_if_congr (fun c108 => ?_) (fun c108 => ?_))
  · refine (am_e0 rfl rfl).trans ?_
    refine (am_e0 rfl rfl).trans ?_
    refine (am_dvi rfl).trans (am_if_congr (fun _ => rfl) (fun c109 => ?_))
    exact (am_e4i rfl rfl).trans rfl
  refine (am_sw_n).trans ?_
  refine (am_e0 rfl rfl).trans ?_
  exact (am_e4i rfl rfl).trans rfl
-- 32: UnlearnedHand$Laws.ofOne(II)I
set_option maxRecDepth 10000 in
theorem aq_32 (d : Nat) (x0 x1 : Int) (M : am_M) : am_Call d 32 [(0, x0), (0, x1)] M = (if x0 = 23 then (if x1 = 0 then (some (1, M)) else (some (0, M))) else (if x0 = 45 then (some (am_w32 (-x1), M)) else (if x1 < 0 then (am_let (am_w32 (-x1)) fun v105 => am_Ex d 32 27 [am_N, (0, x1), (0, v105), (0, 0), (0, 512)] [] M) else (am_Ex d 32 27 [am_N, (0, x1), (0, x1), (0, 0), (0, 512)] [] M)))) := by
  show am_Ex d 32 0 [(0, x0), (0, x1), am_N, am_N, am_N] [] M = _
  refine (am_e0 rfl rfl).trans ?_
  refine (am_e0 rfl rfl).trans ?_
  refine (am_i_ne rfl).trans (am_if_congr (fun c101 => ?_) (fun c101 => ?_))
  · refine (am_e0 rfl rfl).trans ?_
    refine (am_z_ne rfl).trans (am_if_congr (fun c102 => ?_) (fun c102 => ?_))
    · refine (am_e0 rfl rfl).trans ?_
      refine (am_e1 rfl rfl).trans ?_
      exact (am_e4i rfl rfl).trans rfl
    · refine (am_e0 rfl rfl).trans ?_
      exact (am_e4i rfl rfl).trans rfl
  · refine (am_e0 rfl rfl).trans ?_
    refine (am_e0 rfl rfl).trans ?_
    refine (am_i_ne rfl).trans (am_if_congr (fun c103 => ?_) (fun c103 => ?_))
    · refine (am_e0 rfl rfl).trans ?_
      refine (am_e0 rfl rfl).trans ?_
      exact (am_e4i rfl rfl).trans rfl
    · refine (am_e0 rfl rfl).trans ?_
      refine (am_z_ge rfl).trans (am_if_congr (fun c104 => ?_) (fun c104 => ?_))
      · refine (am_e0 rfl rfl).trans ?_
        refine (am_e0 rfl rfl).trans ?_
        refine (am_e1 rfl rfl).trans ?_
        refine (am_e0 rfl rfl).trans ?_
        refine am_lets (L := fun v105 => [(0, x0), (0, x1), (0, v105), am_N, am_N]) (fun v105 => ?_)
        refine (am_e0 rfl rfl).trans ?_
        refine (am_e0 rfl rfl).trans ?_
        refine (am_e0 rfl rfl).trans ?_
        refine (am_e0 rfl rfl).trans ?_
        exact (am_e5 rfl).trans rfl
      · refine (am_e0 rfl rfl).trans ?_
        refine (am_e0 rfl rfl).trans ?_
        refine (am_e0 rfl rfl).trans ?_
        refine (am_e0 rfl rfl).trans ?_
        refine (am_e0 rfl rfl).trans ?_
        refine (am_e0 rfl rfl).trans ?_
        exact (am_e5 rfl).trans rfl
set_option maxRecDepth 10000 in
theorem aq_32_27 (d : Nat) (x1 x2 x3 x4 : Int) (M : am_M) : am_Ex d 32 27 [am_N, (0, x1), (0, x2), (0, x3), (0, x4)] [] M = (if x4 ≤ 0 then (if x1 < 0 then (some (am_w32 (-x3), M)) else (some (x3, M))) else (if am_w32 ((am_w32 (x3 + x4)) * (am_w32 (x3 + x4))) ≤ x2 then (am_let (am_w32 (x3 + x4)) fun v104 => am_let (am_shr x4 1) fun v105 => am_Ex d 32 27 [am_N, (0, x1), (0, x2), (0, v104), (0, v105)] [] M) else (am_let (am_w32 (x3 + 0)) fun v106 => am_let (am_shr x4 1) fun v107 => am_Ex d 32 27 [am_N, (0, x1), (0, x2), (0, v106), (0, v107)] [] M))) := by
  refine (am_e0 rfl rfl).trans ?_
  refine (am_z_le rfl).trans (am_if_congr (fun c101 => ?_) (fun c101 => ?_))
  · refine (am_e0 rfl rfl).trans ?_
    refine (am_z_ge rfl).trans (am_if_congr (fun c102 => ?_) (fun c102 => ?_))
    · refine (am_e0 rfl rfl).trans ?_
      refine (am_e0 rfl rfl).trans ?_
      refine (am_e1 rfl rfl).trans ?_
      exact (am_e4i rfl rfl).trans rfl
    · refine (am_e0 rfl rfl).trans ?_
      exact (am_e4i rfl rfl).trans rfl
  · refine (am_e0 rfl rfl).trans ?_
    refine (am_e0 rfl rfl).trans ?_
    refine (am_e0 rfl rfl).trans ?_
    refine (am_e0 rfl rfl).trans ?_
    refine (am_e0 rfl rfl).trans ?_
    refine (am_e0 rfl rfl).trans ?_
    refine (am_e0 rfl rfl).trans ?_
    refine (am_e0 rfl rfl).trans ?_
    refine (am_e0 rfl rfl).trans ?_
    refine (am_i_gt rfl).trans (am_if_congr (fun c103 => ?_) (fun c103 => ?_))
    · refine (am_e0 rfl rfl).trans ?_
      refine (am_e1 rfl rfl).trans ?_
      refine (am_e0 rfl rfl).trans ?_
      refine (am_e0 rfl rfl).trans ?_
      refine am_lets (L := fun v104 => [am_N, (0, x1), (0, x2), (0, v104), (0, x4)]) (fun v104 => ?_)
      refine (am_e0 rfl rfl).trans ?_
      refine (am_e0 rfl rfl).trans ?_
      refine (am_e0 rfl rfl).trans ?_
      refine (am_e0 rfl rfl).trans ?_
      refine am_lets (L := fun v105 => [am_N, (0, x1), (0, x2), (0, v104), (0, v105)]) (fun v105 => ?_)
      refine (am_e1 rfl rfl).trans ?_
      exact (am_e5 rfl).trans rfl
    · refine (am_e0 rfl rfl).trans ?_
      refine (am_e0 rfl rfl).trans ?_
      refine (am_e0 rfl rfl).trans ?_
      refine am_lets (L := fun v106 => [am_N, (0, x1), (0, x2), (0, v106), (0, x4)]) (fun v106 => ?_)
      refine (am_e0 rfl rfl).trans ?_
      refine (am_e0 rfl rfl).trans ?_
      refine (am_e0 rfl rfl).trans ?_
      refine (am_e0 rfl rfl).trans ?_
      refine am_lets (L := fun v107 => [am_N, (0, x1), (0, x2), (0, v106), (0, v107)]) (fun v107 => ?_)
      refine (am_e1 rfl rfl).trans ?_
      exact (am_e5 rfl).trans rfl
