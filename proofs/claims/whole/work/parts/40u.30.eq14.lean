/-! equations of the methods 306 .. 306 -/
-- 306: UnlearnedHandLaw.law([I)Z
set_option maxRecDepth 10000 in
theorem aq_306 (d : Nat) (x0 : Int) (M : am_M) : am_Call d 306 [(2, x0)] M = (am_g (am_ob M.1 10) <| am_let (am_al M) fun M102 => am_g (am_ob (M.1 : Int) 10) <| (am_Call d 181 [(2, (M.1 : Int))] M102).bind fun r104 => am_let ((M.1 : Int)) fun v105 => am_g (am_ob r104.2.1 11) <| am_let (am_al r104.2) fun M107 => am_g (am_ob (r104.2.1 : Int) 11) <| (am_Call d 142 [(2, (r104.2.1 : Int))] M107).bind fun r109 => am_let ((r104.2.1 : Int)) fun v110 => am_Ex d 306 11 [(2, x0), (2, v105), (2, v110), (0, 0)] [] r109.2) := by
  show am_Ex d 306 0 [(2, x0), am_N, am_N, am_N] [] M = _
  refine (am_nwo (c := 10) rfl rfl).trans (am_g_congr fun h101 => ?_)
  refine am_letm (fun M102 => ?_)
  refine (am_e0 rfl rfl).trans ?_
  refine (am_cal3 (z := 181) (k := 1) (c := (am_ob (M.1 : Int) 10)) rfl rfl rfl rfl rfl rfl rfl rfl).trans (am_g_congr fun h103 => ?_)
  refine am_bind_congr fun r104 => ?_
  show am_Ex d 306 3 [(2, x0), am_N, am_N, am_N] [(2, (M.1 : Int))] r104.2 = _
  refine (am_e0 rfl rfl).trans ?_
  refine am_lets (L := fun v105 => [(2, x0), (2, v105), am_N, am_N]) (fun v105 => ?_)
  refine (am_nwo (c := 11) rfl rfl).trans (am_g_congr fun h106 => ?_)
  refine am_letm (fun M107 => ?_)
  refine (am_e0 rfl rfl).trans ?_
  refine (am_cal3 (z := 142) (k := 1) (c := (am_ob (r104.2.1 : Int) 11)) rfl rfl rfl rfl rfl rfl rfl rfl).trans (am_g_congr fun h108 => ?_)
  refine am_bind_congr fun r109 => ?_
  show am_Ex d 306 7 [(2, x0), (2, v105), am_N, am_N] [(2, (r104.2.1 : Int))] r109.2 = _
  refine (am_e0 rfl rfl).trans ?_
  refine am_lets (L := fun v110 => [(2, x0), (2, v105), (2, v110), am_N]) (fun v110 => ?_)
  refine (am_e0 rfl rfl).trans ?_
  refine (am_e0 rfl rfl).trans ?_
  exact (am_e5 rfl).trans rfl
set_option maxRecDepth 10000 in
theorem aq_306_11 (d : Nat) (x1 x2 x3 : Int) (M : am_M) : am_Ex d 306 11 [(2, -1), (2, x1), (2, x2), (0, x3)] [] M = (if x3 ≤ am_w32 ((am_rd M (-4) 0) - 6) then (am_g (decide (0 ≤ x3) && decide (x3 < am_rd M (-4) 0)) <| if am_and (am_rd M (-1) x3) 63 = 0 then (am_g (decide (0 ≤ am_w32 (x3 + 1)) && decide (am_w32 (x3 + 1) < am_rd M (-4) 0)) <| am_g (am_ob x1 10) <| (am_Call d 136 [(2, x1), (0, am_rd M (-1) (am_w32 (x3 + 1)))] M).bind fun r106 => am_g (decide (0 ≤ am_w32 (x3 + 1)) && decide (am_w32 (x3 + 1) < am_rd r106.2 (-4) 0)) <| am_g (am_ob x2 11) <| (am_Call d 146 [(2, x2), (0, am_rd r106.2 (-1) (am_w32 (x3 + 1)))] r106.2).bind fun r109 => if r106.1 = r109.1 then (am_Ex d 306 1065 [(2, -1), (2, x1), (2, x2), (0, x3)] [] r109.2) else (some (0, r109.2))) else if am_and (am_rd M (-1) x3) 63 = 1 then (am_g (decide (0 ≤ am_w32 (x3 + 1)) && decide (am_w32 (x3 + 1) < am_rd M (-4) 0)) <| am_g (decide (0 ≤ am_w32 (x3 + 2)) && decide (am_w32 (x3 + 2) < am_rd M (-4) 0)) <| am_g (am_ob x1 10) <| (am_Call d 182 [(2, x1), (0, am_rd M (-1) (am_w32 (x3 + 1))), (0, am_rd M (-1) (am_w32 (x3 + 2)))] M).bind fun r115 => am_g (decide (0 ≤ am_w32 (x3 + 1)) && decide (am_w32 (x3 + 1) < am_rd r115.2 (-4) 0)) <| am_g (decide (0 ≤ am_w32 (x3 + 2)) && decide (am_w32 (x3 + 2) < am_rd r115.2 (-4) 0)) <| am_g (am_ob x2 11) <| (am_Call d 192 [(2, x2), (0, am_rd r115.2 (-1) (am_w32 (x3 + 1))), (0, am_rd r115.2 (-1) (am_w32 (x3 + 2)))] r115.2).bind fun r119 => if r115.1 = r119.1 then (am_Ex d 306 1065 [(2, -1), (2, x1), (2, x2), (0, x3)] [] r119.2) else (some (0, r119.2))) else if am_and (am_rd M (-1) x3) 63 = 2 then (am_g (decide (0 ≤ am_w32 (x3 + 1)) && decide (am_w32 (x3 + 1) < am_rd M (-4) 0)) <| am_g (am_ob x1 10) <| (am_Call d 137 [(2, x1), (0, am_rd M (-1) (am_w32 (x3 + 1)))] M).bind fun r124 => am_g (decide (0 ≤ am_w32 (x3 + 1)) && decide (am_w32 (x3 + 1) < am_rd r124.2 (-4) 0)) <| am_g (am_ob x2 11) <| (am_Call d 147 [(2, x2), (0, am_rd r124.2 (-1) (am_w32 (x3 + 1)))] r124.2).bind fun r127 => if r124.1 = r127.1 then (am_Ex d 306 1065 [(2, -1), (2, x1), (2, x2), (0, x3)] [] r127.2) else (some (0, r127.2))) else if am_and (am_rd M (-1) x3) 63 = 3 then (am_g (decide (0 ≤ am_w32 (x3 + 1)) && decide (am_w32 (x3 + 1) < am_rd M (-4) 0)) <| am_g (am_ob x1 10) <| (am_Call d 183 [(2, x1), (0, am_rd M (-1) (am_w32 (x3 + 1)))] M).bind fun r132 => am_g (decide (0 ≤ am_w32 (x3 + 1)) && decide (am_w32 (x3 + 1) < am_rd r132.2 (-4) 0)) <| am_g (am_ob x2 11) <| (am_Call d 193 [(2, x2), (0, am_rd r132.2 (-1) (am_w32 (x3 + 1)))] r132.2).bind fun r135 => if r132.1 = r135.1 then (am_Ex d 306 1065 [(2, -1), (2, x1), (2, x2), (0, x3)] [] r135.2) else (some (0, r135.2))) else if am_and (am_rd M (-1) x3) 63 = 4 then (am_g (decide (0 ≤ am_w32 (x3 + 1)) && decide (am_w32 (x3 + 1) < am_rd M (-4) 0)) <| am_g (am_ob x1 10) <| (am_Call d 59 [(2, x1), (0, am_rd M (-1) (am_w32 (x3 + 1)))] M).bind fun r140 => am_g (decide (0 ≤ am_w32 (x3 + 1)) && decide (am_w32 (x3 + 1) < am_rd r140.2 (-4) 0)) <| am_g (am_ob x2 11) <| (am_Call d 148 [(2, x2), (0, am_rd r140.2 (-1) (am_w32 (x3 + 1)))] r140.2).bind fun r143 => if r140.1 = r143.1 then (am_Ex d 306 1065 [(2, -1), (2, x1), (2, x2), (0, x3)] [] r143.2) else (some (0, r143.2))) else if am_and (am_rd M (-1) x3) 63 = 5 then (am_g (decide (0 ≤ am_w32 (x3 + 1)) && decide (am_w32 (x3 + 1) < am_rd M (-4) 0)) <| am_g (decide (0 ≤ am_w32 (x3 + 2)) && decide (am_w32 (x3 + 2) < am_rd M (-4) 0)) <| am_g (decide (0 ≤ am_w32 (x3 + 3)) && decide (am_w32 (x3 + 3) < am_rd M (-4) 0)) <| am_g (am_ob x1 10) <| (am_Call d 184 [(2, x1), (0, am_rd M (-1) (am_w32 (x3 + 1))), (0, am_rd M (-1) (am_w32 (x3 + 2))), (0, am_rd M (-1) (am_w32 (x3 + 3)))] M).bind fun r150 => am_g (decide (0 ≤ am_w32 (x3 + 1)) && decide (am_w32 (x3 + 1) < am_rd r150.2 (-4) 0)) <| am_g (decide (0 ≤ am_w32 (x3 + 2)) && decide (am_w32 (x3 + 2) < am_rd r150.2 (-4) 0)) <| am_g (decide (0 ≤ am_w32 (x3 + 3)) && decide (am_w32 (x3 + 3) < am_rd r150.2 (-4) 0)) <| am_g (am_ob x2 11) <| (am_Call d 253 [(2, x2), (0, am_rd r150.2 (-1) (am_w32 (x3 + 1))), (0, am_rd r150.2 (-1) (am_w32 (x3 + 2))), (0, am_rd r150.2 (-1) (am_w32 (x3 + 3)))] r150.2).bind fun r155 => if r150.1 = r155.1 then (am_Ex d 306 1065 [(2, -1), (2, x1), (2, x2), (0, x3)] [] r155.2) else (some (0, r155.2))) else if am_and (am_rd M (-1) x3) 63 = 6 then (am_g (decide (0 ≤ am_w32 (x3 + 1)) && decide (am_w32 (x3 + 1) < am_rd M (-4) 0)) <| am_g (decide (0 ≤ am_w32 (x3 + 2)) && decide (am_w32 (x3 + 2) < am_rd M (-4) 0)) <| am_g (decide (0 ≤ am_w32 (x3 + 3)) && decide (am_w32 (x3 + 3) < am_rd M (-4) 0)) <| am_g (am_ob x1 10) <| (am_Call d 242 [(2, x1), (0, am_rd M (-1) (am_w32 (x3 + 1))), (0, am_rd M (-1) (am_w32 (x3 + 2))), (0, am_rd M (-1) (am_w32 (x3 + 3)))] M).bind fun r162 => am_g (decide (0 ≤ am_w32 (x3 + 1)) && decide (am_w32 (x3 + 1) < am_rd r162.2 (-4) 0)) <| am_g (decide (0 ≤ am_w32 (x3 + 2)) && decide (am_w32 (x3 + 2) < am_rd r162.2 (-4) 0)) <| am_g (decide (0 ≤ am_w32 (x3 + 3)) && decide (am_w32 (x3 + 3) < am_rd r162.2 (-4) 0)) <| am_g (am_ob x2 11) <| (am_Call d 283 [(2, x2), (0, am_rd r162.2 (-1) (am_w32 (x3 + 1))), (0, am_rd r162.2 (-1) (am_w32 (x3 + 2))), (0, am_rd r162.2 (-1) (am_w32 (x3 + 3)))] r162.2).bind fun r167 => if r162.1 = r167.1 then (am_Ex d 306 1065 [(2, -1), (2, x1), (2, x2), (0, x3)] [] r167.2) else (some (0, r167.2))) else if am_and (am_rd M (-1) x3) 63 = 7 then (am_g (decide (0 ≤ am_w32 (x3 + 1)) && decide (am_w32 (x3 + 1) < am_rd M (-4) 0)) <| am_g (am_ob x1 10) <| (am_Call d 212 [(2, x1), (0, am_rd M (-1) (am_w32 (x3 + 1)))] M).bind fun r172 => am_g (decide (0 ≤ am_w32 (x3 + 1)) && decide (am_w32 (x3 + 1) < am_rd r172.2 (-4) 0)) <| am_g (am_ob x2 11) <| (am_Call d 226 [(2, x2), (0, am_rd r172.2 (-1) (am_w32 (x3 + 1)))] r172.2).bind fun r175 => if r172.1 = r175.1 then (am_Ex d 306 1065 [(2, -1), (2, x1), (2, x2), (0, x3)] [] r175.2) else (some (0, r175.2))) else if am_and (am_rd M (-1) x3) 63 = 8 then (am_g (decide (0 ≤ am_w32 (x3 + 1)) && decide (am_w32 (x3 + 1) < am_rd M (-4) 0)) <| am_g (decide (0 ≤ am_w32 (x3 + 2)) && decide (am_w32 (x3 + 2) < am_rd M (-4) 0)) <| am_g (decide (0 ≤ am_w32 (x3 + 3)) && decide (am_w32 (x3 + 3) < am_rd M (-4) 0)) <| if am_rd M (-1) (am_w32 (x3 + 3)) = 0 then (am_g (am_ob x1 10) <| (am_Call d 185 [(2, x1), (0, am_rd M (-1) (am_w32 (x3 + 1))), (0, am_rd M (-1) (am_w32 (x3 + 2))), (0, 0)] M).bind fun r183 => am_g (decide (0 ≤ am_w32 (x3 + 1)) && decide (am_w32 (x3 + 1) < am_rd r183.2 (-4) 0)) <| am_g (decide (0 ≤ am_w32 (x3 + 2)) && decide (am_w32 (x3 + 2) < am_rd r183.2 (-4) 0)) <| am_g (decide (0 ≤ am_w32 (x3 + 3)) && decide (am_w32 (x3 + 3) < am_rd r183.2 (-4) 0)) <| if am_rd r183.2 (-1) (am_w32 (x3 + 3)) = 0 then (am_g (am_ob x2 11) <| (am_Call d 227 [(2, x2), (0, am_rd r183.2 (-1) (am_w32 (x3 + 1))), (0, am_rd r183.2 (-1) (am_w32 (x3 + 2))), (0, 0)] r183.2).bind fun r189 => if r183.1 = r189.1 then (am_Ex d 306 1065 [(2, -1), (2, x1), (2, x2), (0, x3)] [] r189.2) else (some (0, r189.2))) else (am_g (am_ob x2 11) <| (am_Call d 227 [(2, x2), (0, am_rd r183.2 (-1) (am_w32 (x3 + 1))), (0, am_rd r183.2 (-1) (am_w32 (x3 + 2))), (0, 1)] r183.2).bind fun r192 => if r183.1 = r192.1 then (am_Ex d 306 1065 [(2, -1), (2, x1), (2, x2), (0, x3)] [] r192.2) else (some (0, r192.2)))) else (am_g (am_ob x1 10) <| (am_Call d 185 [(2, x1), (0, am_rd M (-1) (am_w32 (x3 + 1))), (0, am_rd M (-1) (am_w32 (x3 + 2))), (0, 1)] M).bind fun r195 => am_g (decide (0 ≤ am_w32 (x3 + 1)) && decide (am_w32 (x3 + 1) < am_rd r195.2 (-4) 0)) <| am_g (decide (0 ≤ am_w32 (x3 + 2)) && decide (am_w32 (x3 + 2) < am_rd r195.2 (-4) 0)) <| am_g (decide (0 ≤ am_w32 (x3 + 3)) && decide (am_w32 (x3 + 3) < am_rd r195.2 (-4) 0)) <| if am_rd r195.2 (-1) (am_w32 (x3 + 3)) = 0 then (am_g (am_ob x2 11) <| (am_Call d 227 [(2, x2), (0, am_rd r195.2 (-1) (am_w32 (x3 + 1))), (0, am_rd r195.2 (-1) (am_w32 (x3 + 2))), (0, 0)] r195.2).bind fun r201 => if r195.1 = r201.1 then (am_Ex d 306 1065 [(2, -1), (2, x1), (2, x2), (0, x3)] [] r201.2) else (some (0, r201.2))) else (am_g (am_ob x2 11) <| (am_Call d 227 [(2, x2), (0, am_rd r195.2 (-1) (am_w32 (x3 + 1))), (0, am_rd r195.2 (-1) (am_w32 (x3 + 2))), (0, 1)] r195.2).bind fun r204 => if r195.1 = r204.1 then (am_Ex d 306 1065 [(2, -1), (2, x1), (2, x2), (0, x3)] [] r204.2) else (some (0, r204.2))))) else if am_and (am_rd M (-1) x3) 63 = 9 then (am_g (decide (0 ≤ am_w32 (x3 + 1)) && decide (am_w32 (x3 + 1) < am_rd M (-4) 0)) <| am_g (decide (0 ≤ am_w32 (x3 + 2)) && decide (am_w32 (x3 + 2) < am_rd M (-4) 0)) <| am_g (am_ob x1 10) <| (am_Call d 186 [(2, x1), (0, am_rd M (-1) (am_w32 (x3 + 1))), (0, am_rd M (-1) (am_w32 (x3 + 2)))] M).bind fun r210 => am_g (decide (0 ≤ am_w32 (x3 + 1)) && decide (am_w32 (x3 + 1) < am_rd r210.2 (-4) 0)) <| am_g (decide (0 ≤ am_w32 (x3 + 2)) && decide (am_w32 (x3 + 2) < am_rd r210.2 (-4) 0)) <| am_g (am_ob x2 11) <| (am_Call d 228 [(2, x2), (0, am_rd r210.2 (-1) (am_w32 (x3 + 1))), (0, am_rd r210.2 (-1) (am_w32 (x3 + 2)))] r210.2).bind fun r214 => if r210.1 = r214.1 then (am_Ex d 306 1065 [(2, -1), (2, x1), (2, x2), (0, x3)] [] r214.2) else (some (0, r214.2))) else if am_and (am_rd M (-1) x3) 63 = 10 then (am_g (decide (0 ≤ am_w32 (x3 + 1)) && decide (am_w32 (x3 + 1) < am_rd M (-4) 0)) <| am_g (decide (0 ≤ am_w32 (x3 + 2)) && decide (am_w32 (x3 + 2) < am_rd M (-4) 0)) <| am_g (am_ob x1 10) <| (am_Call d 213 [(2, x1), (0, am_rd M (-1) (am_w32 (x3 + 1))), (0, am_rd M (-1) (am_w32 (x3 + 2)))] M).bind fun r220 => am_g (decide (0 ≤ am_w32 (x3 + 1)) && decide (am_w32 (x3 + 1) < am_rd r220.2 (-4) 0)) <| am_g (decide (0 ≤ am_w32 (x3 + 2)) && decide (am_w32 (x3 + 2) < am_rd r220.2 (-4) 0)) <| am_g (am_ob x2 11) <| (am_Call d 229 [(2, x2), (0, am_rd r220.2 (-1) (am_w32 (x3 + 1))), (0, am_rd r220.2 (-1) (am_w32 (x3 + 2)))] r220.2).bind fun r224 => if r220.1 = r224.1 then (am_Ex d 306 1065 [(2, -1), (2, x1), (2, x2), (0, x3)] [] r224.2) else (some (0, r224.2))) else if am_and (am_rd M (-1) x3) 63 = 11 then (am_g (decide (0 ≤ am_w32 (x3 + 1)) && decide (am_w32 (x3 + 1) < am_rd M (-4) 0)) <| am_g (am_ob x1 10) <| (am_Call d 261 [(2, x1), (0, am_rd M (-1) (am_w32 (x3 + 1)))] M).bind fun r229 => am_g (decide (0 ≤ am_w32 (x3 + 1)) && decide (am_w32 (x3 + 1) < am_rd r229.2 (-4) 0)) <| am_g (am_ob x2 11) <| (am_Call d 284 [(2, x2), (0, am_rd r229.2 (-1) (am_w32 (x3 + 1)))] r229.2).bind fun r232 => if r229.1 = r232.1 then (am_Ex d 306 1065 [(2, -1), (2, x1), (2, x2), (0, x3)] [] r232.2) else (some (0, r232.2))) else if am_and (am_rd M (-1) x3) 63 = 12 then (am_g (decide (0 ≤ am_w32 (x3 + 1)) && decide (am_w32 (x3 + 1) < am_rd M (-4) 0)) <| am_g (am_ob x1 10) <| (am_Call d 289 [(2, x1), (0, am_rd M (-1) (am_w32 (x3 + 1)))] M).bind fun r237 => am_g (decide (0 ≤ am_w32 (x3 + 1)) && decide (am_w32 (x3 + 1) < am_rd r237.2 (-4) 0)) <| am_g (am_ob x2 11) <| (am_Call d 301 [(2, x2), (0, am_rd r237.2 (-1) (am_w32 (x3 + 1)))] r237.2).bind fun r240 => if r237.1 = r240.1 then (am_Ex d 306 1065 [(2, -1), (2, x1), (2, x2), (0, x3)] [] r240.2) else (some (0, r240.2))) else if am_and (am_rd M (-1) x3) 63 = 13 then (am_g (decide (0 ≤ am_w32 (x3 + 1)) && decide (am_w32 (x3 + 1) < am_rd M (-4) 0)) <| am_g (decide (0 ≤ am_w32 (x3 + 2)) && decide (am_w32 (x3 + 2) < am_rd M (-4) 0)) <| am_g (am_ob x1 10) <| (am_Call d 290 [(2, x1), (0, am_rd M (-1) (am_w32 (x3 + 1))), (0, am_rd M (-1) (am_w32 (x3 + 2)))] M).bind fun r246 => am_g (decide (0 ≤ am_w32 (x3 + 1)) && decide (am_w32 (x3 + 1) < am_rd r246.2 (-4) 0)) <| am_g (decide (0 ≤ am_w32 (x3 + 2)) && decide (am_w32 (x3 + 2) < am_rd r246.2 (-4) 0)) <| am_g (am_ob x2 11) <| (am_Call d 303 [(2, x2), (0, am_rd r246.2 (-1) (am_w32 (x3 + 1))), (0, am_rd r246.2 (-1) (am_w32 (x3 + 2)))] r246.2).bind fun r250 => if r246.1 = r250.1 then (am_Ex d 306 1065 [(2, -1), (2, x1), (2, x2), (0, x3)] [] r250.2) else (some (0, r250.2))) else if am_and (am_rd M (-1) x3) 63 = 14 then (am_g (decide (0 ≤ am_w32 (x3 + 1)) && decide (am_w32 (x3 + 1) < am_rd M (-4) 0)) <| am_g (decide (0 ≤ am_w32 (x3 + 2)) && decide (am_w32 (x3 + 2) < am_rd M (-4) 0)) <| am_g (decide (0 ≤ am_w32 (x3 + 3)) && decide (am_w32 (x3 + 3) < am_rd M (-4) 0)) <| am_g (decide (0 ≤ am_w32 (x3 + 4)) && decide (am_w32 (x3 + 4) < am_rd M (-4) 0)) <| am_g (decide (0 ≤ am_w32 (x3 + 5)) && decide (am_w32 (x3 + 5) < am_rd M (-4) 0)) <| am_g (am_ob x1 10) <| (am_Call d 138 [(2, x1), (0, am_rd M (-1) (am_w32 (x3 + 1))), (0, am_rd M (-1) (am_w32 (x3 + 2))), (0, am_rd M (-1) (am_w32 (x3 + 3))), (0, am_rd M (-1) (am_w32 (x3 + 4))), (0, am_rd M (-1) (am_w32 (x3 + 5)))] M).bind fun r259 => am_g (decide (0 ≤ am_w32 (x3 + 1)) && decide (am_w32 (x3 + 1) < am_rd r259.2 (-4) 0)) <| am_g (decide (0 ≤ am_w32 (x3 + 2)) && decide (am_w32 (x3 + 2) < am_rd r259.2 (-4) 0)) <| am_g (decide (0 ≤ am_w32 (x3 + 3)) && decide (am_w32 (x3 + 3) < am_rd r259.2 (-4) 0)) <| am_g (decide (0 ≤ am_w32 (x3 + 4)) && decide (am_w32 (x3 + 4) < am_rd r259.2 (-4) 0)) <| am_g (decide (0 ≤ am_w32 (x3 + 5)) && decide (am_w32 (x3 + 5) < am_rd r259.2 (-4) 0)) <| am_g (am_ob x2 11) <| (am_Call d 149 [(2, x2), (0, am_rd r259.2 (-1) (am_w32 (x3 + 1))), (0, am_rd r259.2 (-1) (am_w32 (x3 + 2))), (0, am_rd r259.2 (-1) (am_w32 (x3 + 3))), (0, am_rd r259.2 (-1) (am_w32 (x3 + 4))), (0, am_rd r259.2 (-1) (am_w32 (x3 + 5)))] r259.2).bind fun r266 => if r259.1 = r266.1 then (am_Ex d 306 1065 [(2, -1), (2, x1), (2, x2), (0, x3)] [] r266.2) else (some (0, r266.2))) else if am_and (am_rd M (-1) x3) 63 = 15 then (am_g (decide (0 ≤ am_w32 (x3 + 1)) && decide (am_w32 (x3 + 1) < am_rd M (-4) 0)) <| am_g (am_ob x1 10) <| (am_Call d 61 [(2, x1), (0, am_rd M (-1) (am_w32 (x3 + 1)))] M).bind fun r271 => am_g (decide (0 ≤ am_w32 (x3 + 1)) && decide (am_w32 (x3 + 1) < am_rd r271.2 (-4) 0)) <| am_g (am_ob x2 11) <| (am_Call d 150 [(2, x2), (0, am_rd r271.2 (-1) (am_w32 (x3 + 1)))] r271.2).bind fun r274 => if r271.1 = r274.1 then (am_Ex d 306 1065 [(2, -1), (2, x1), (2, x2), (0, x3)] [] r274.2) else (some (0, r274.2))) else if am_and (am_rd M (-1) x3) 63 = 16 then (am_g (am_ob x1 10) <| (am_Call d 300 [(2, x1)] M).bind fun r278 => am_g (am_ob x2 11) <| (am_Call d 295 [(2, x2)] r278.2).bind fun r280 => if r278.1 = r280.1 then (am_Ex d 306 1065 [(2, -1), (2, x1), (2, x2), (0, x3)] [] r280.2) else (some (0, r280.2))) else if am_and (am_rd M (-1) x3) 63 = 17 then (am_g (decide (0 ≤ am_w32 (x3 + 1)) && decide (am_w32 (x3 + 1) < am_rd M (-4) 0)) <| am_g (am_ob x1 10) <| (am_Call d 62 [(2, x1), (0, am_rd M (-1) (am_w32 (x3 + 1)))] M).bind fun r285 => am_g (decide (0 ≤ am_w32 (x3 + 1)) && decide (am_w32 (x3 + 1) < am_rd r285.2 (-4) 0)) <| am_g (am_ob x2 11) <| (am_Call d 83 [(2, x2), (0, am_rd r285.2 (-1) (am_w32 (x3 + 1)))] r285.2).bind fun r288 => if r285.1 = r288.1 then (am_Ex d 306 1065 [(2, -1), (2, x1), (2, x2), (0, x3)] [] r288.2) else (some (0, r288.2))) else if am_and (am_rd M (-1) x3) 63 = 18 then (am_g (decide (0 ≤ am_w32 (x3 + 1)) && decide (am_w32 (x3 + 1) < am_rd M (-4) 0)) <| am_g (am_ob x1 10) <| (am_Call d 139 [(2, x1), (0, am_rd M (-1) (am_w32 (x3 + 1)))] M).bind fun r293 => am_g (decide (0 ≤ am_w32 (x3 + 1)) && decide (am_w32 (x3 + 1) < am_rd r293.2 (-4) 0)) <| am_g (am_ob x2 11) <| (am_Call d 156 [(2, x2), (0, am_rd r293.2 (-1) (am_w32 (x3 + 1)))] r293.2).bind fun r296 => if r293.1 = r296.1 then (am_Ex d 306 1065 [(2, -1), (2, x1), (2, x2), (0, x3)] [] r296.2) else (some (0, r296.2))) else if am_and (am_rd M (-1) x3) 63 = 19 then (am_g (decide (0 ≤ am_w32 (x3 + 1)) && decide (am_w32 (x3 + 1) < am_rd M (-4) 0)) <| am_g (am_ob x1 10) <| (am_Call d 291 [(2, x1), (0, am_rd M (-1) (am_w32 (x3 + 1)))] M).bind fun r301 => am_g (decide (0 ≤ am_w32 (x3 + 1)) && decide (am_w32 (x3 + 1) < am_rd r301.2 (-4) 0)) <| am_g (am_ob x2 11) <| (am_Call d 305 [(2, x2), (0, am_rd r301.2 (-1) (am_w32 (x3 + 1)))] r301.2).bind fun r304 => if r301.1 = r304.1 then (am_Ex d 306 1065 [(2, -1), (2, x1), (2, x2), (0, x3)] [] r304.2) else (some (0, r304.2))) else if am_and (am_rd M (-1) x3) 63 = 20 then (am_g (am_ob x1 10) <| (am_Call d 187 [(2, x1)] M).bind fun r308 => am_g (am_ob x2 11) <| (am_Call d 69 [(2, x2)] r308.2).bind fun r310 => if r308.1 = r310.1 then (am_Ex d 306 1065 [(2, -1), (2, x1), (2, x2), (0, x3)] [] r310.2) else (some (0, r310.2))) else if am_and (am_rd M (-1) x3) 63 = 21 then (am_g (decide (0 ≤ am_w32 (x3 + 1)) && decide (am_w32 (x3 + 1) < am_rd M (-4) 0)) <| am_g (decide (0 ≤ am_w32 (x3 + 2)) && decide (am_w32 (x3 + 2) < am_rd M (-4) 0)) <| am_g (am_ob x1 10) <| (am_Call d 243 [(2, x1), (0, am_rd M (-1) (am_w32 (x3 + 1))), (0, am_rd M (-1) (am_w32 (x3 + 2)))] M).bind fun r316 => am_g (decide (0 ≤ am_w32 (x3 + 1)) && decide (am_w32 (x3 + 1) < am_rd r316.2 (-4) 0)) <| am_g (decide (0 ≤ am_w32 (x3 + 2)) && decide (am_w32 (x3 + 2) < am_rd r316.2 (-4) 0)) <| am_g (am_ob x2 11) <| (am_Call d 267 [(2, x2), (0, am_rd r316.2 (-1) (am_w32 (x3 + 1))), (0, am_rd r316.2 (-1) (am_w32 (x3 + 2)))] r316.2).bind fun r320 => if r316.1 = r320.1 then (am_Ex d 306 1065 [(2, -1), (2, x1), (2, x2), (0, x3)] [] r320.2) else (some (0, r320.2))) else if am_and (am_rd M (-1) x3) 63 = 22 then (am_g (decide (0 ≤ am_w32 (x3 + 1)) && decide (am_w32 (x3 + 1) < am_rd M (-4) 0)) <| am_g (decide (0 ≤ am_w32 (x3 + 2)) && decide (am_w32 (x3 + 2) < am_rd M (-4) 0)) <| am_g (decide (0 ≤ am_w32 (x3 + 3)) && decide (am_w32 (x3 + 3) < am_rd M (-4) 0)) <| am_g (am_ob x1 10) <| (am_Call d 214 [(2, x1), (0, am_rd M (-1) (am_w32 (x3 + 1))), (0, am_rd M (-1) (am_w32 (x3 + 2))), (0, am_rd M (-1) (am_w32 (x3 + 3)))] M).bind fun r327 => am_g (decide (0 ≤ am_w32 (x3 + 1)) && decide (am_w32 (x3 + 1) < am_rd r327.2 (-4) 0)) <| am_g (decide (0 ≤ am_w32 (x3 + 2)) && decide (am_w32 (x3 + 2) < am_rd r327.2 (-4) 0)) <| am_g (decide (0 ≤ am_w32 (x3 + 3)) && decide (am_w32 (x3 + 3) < am_rd r327.2 (-4) 0)) <| am_g (am_ob x2 11) <| (am_Call d 255 [(2, x2), (0, am_rd r327.2 (-1) (am_w32 (x3 + 1))), (0, am_rd r327.2 (-1) (am_w32 (x3 + 2))), (0, am_rd r327.2 (-1) (am_w32 (x3 + 3)))] r327.2).bind fun r332 => if r327.1 = r332.1 then (am_Ex d 306 1065 [(2, -1), (2, x1), (2, x2), (0, x3)] [] r332.2) else (some (0, r332.2))) else if am_and (am_rd M (-1) x3) 63 = 23 then (am_g (decide (0 ≤ am_w32 (x3 + 1)) && decide (am_w32 (x3 + 1) < am_rd M (-4) 0)) <| am_g (decide (0 ≤ am_w32 (x3 + 2)) && decide (am_w32 (x3 + 2) < am_rd M (-4) 0)) <| am_g (am_ob x1 10) <| (am_Call d 188 [(2, x1), (0, am_rd M (-1) (am_w32 (x3 + 1))), (0, am_rd M (-1) (am_w32 (x3 + 2)))] M).bind fun r338 => am_g (decide (0 ≤ am_w32 (x3 + 1)) && decide (am_w32 (x3 + 1) < am_rd r338.2 (-4) 0)) <| am_g (decide (0 ≤ am_w32 (x3 + 2)) && decide (am_w32 (x3 + 2) < am_rd r338.2 (-4) 0)) <| am_g (am_ob x2 11) <| (am_Call d 198 [(2, x2), (0, am_rd r338.2 (-1) (am_w32 (x3 + 1))), (0, am_rd r338.2 (-1) (am_w32 (x3 + 2)))] r338.2).bind fun r342 => if r338.1 = r342.1 then (am_Ex d 306 1065 [(2, -1), (2, x1), (2, x2), (0, x3)] [] r342.2) else (some (0, r342.2))) else if am_and (am_rd M (-1) x3) 63 = 24 then (am_g (decide (0 ≤ am_w32 (x3 + 1)) && decide (am_w32 (x3 + 1) < am_rd M (-4) 0)) <| am_g (decide (0 ≤ am_w32 (x3 + 2)) && decide (am_w32 (x3 + 2) < am_rd M (-4) 0)) <| am_g (am_ob x1 10) <| (am_Call d 292 [(2, x1), (0, am_rd M (-1) (am_w32 (x3 + 1))), (0, am_rd M (-1) (am_w32 (x3 + 2)))] M).bind fun r348 => am_g (decide (0 ≤ am_w32 (x3 + 1)) && decide (am_w32 (x3 + 1) < am_rd r348.2 (-4) 0)) <| am_g (decide (0 ≤ am_w32 (x3 + 2)) && decide (am_w32 (x3 + 2) < am_rd r348.2 (-4) 0)) <| am_g (am_ob x2 11) <| (am_Call d 297 [(2, x2), (0, am_rd r348.2 (-1) (am_w32 (x3 + 1))), (0, am_rd r348.2 (-1) (am_w32 (x3 + 2)))] r348.2).bind fun r352 => if r348.1 = r352.1 then (am_Ex d 306 1065 [(2, -1), (2, x1), (2, x2), (0, x3)] [] r352.2) else (some (0, r352.2))) else if am_and (am_rd M (-1) x3) 63 = 25 then (am_g (decide (0 ≤ am_w32 (x3 + 1)) && decide (am_w32 (x3 + 1) < am_rd M (-4) 0)) <| am_g (decide (0 ≤ am_w32 (x3 + 2)) && decide (am_w32 (x3 + 2) < am_rd M (-4) 0)) <| am_g (am_ob x1 10) <| (am_Call d 293 [(2, x1), (0, am_rd M (-1) (am_w32 (x3 + 1))), (0, am_rd M (-1) (am_w32 (x3 + 2)))] M).bind fun r358 => am_g (decide (0 ≤ am_w32 (x3 + 1)) && decide (am_w32 (x3 + 1) < am_rd r358.2 (-4) 0)) <| am_g (decide (0 ≤ am_w32 (x3 + 2)) && decide (am_w32 (x3 + 2) < am_rd r358.2 (-4) 0)) <| am_g (am_ob x2 11) <| (am_Call d 298 [(2, x2), (0, am_rd r358.2 (-1) (am_w32 (x3 + 1))), (0, am_rd r358.2 (-1) (am_w32 (x3 + 2)))] r358.2).bind fun r362 => if r358.1 = r362.1 then (am_Ex d 306 1065 [(2, -1), (2, x1), (2, x2), (0, x3)] [] r362.2) else (some (0, r362.2))) else if am_and (am_rd M (-1) x3) 63 = 26 then (am_g (decide (0 ≤ am_w32 (x3 + 1)) && decide (am_w32 (x3 + 1) < am_rd M (-4) 0)) <| am_g (decide (0 ≤ am_w32 (x3 + 2)) && decide (am_w32 (x3 + 2) < am_rd M (-4) 0)) <| am_g (am_ob x1 10) <| (am_Call d 294 [(2, x1), (0, am_rd M (-1) (am_w32 (x3 + 1))), (0, am_rd M (-1) (am_w32 (x3 + 2)))] M).bind fun r368 => am_g (decide (0 ≤ am_w32 (x3 + 1)) && decide (am_w32 (x3 + 1) < am_rd r368.2 (-4) 0)) <| am_g (decide (0 ≤ am_w32 (x3 + 2)) && decide (am_w32 (x3 + 2) < am_rd r368.2 (-4) 0)) <| am_g (am_ob x2 11) <| (am_Call d 299 [(2, x2), (0, am_rd r368.2 (-1) (am_w32 (x3 + 1))), (0, am_rd r368.2 (-1) (am_w32 (x3 + 2)))] r368.2).bind fun r372 => if r368.1 = r372.1 then (am_Ex d 306 1065 [(2, -1), (2, x1), (2, x2), (0, x3)] [] r372.2) else (some (0, r372.2))) else if am_and (am_rd M (-1) x3) 63 = 27 then (am_g (decide (0 ≤ am_w32 (x3 + 1)) && decide (am_w32 (x3 + 1) < am_rd M (-4) 0)) <| am_g (decide (0 ≤ am_w32 (x3 + 2)) && decide (am_w32 (x3 + 2) < am_rd M (-4) 0)) <| am_g (decide (0 ≤ am_w32 (x3 + 3)) && decide (am_w32 (x3 + 3) < am_rd M (-4) 0)) <| am_g (decide (0 ≤ am_w32 (x3 + 4)) && decide (am_w32 (x3 + 4) < am_rd M (-4) 0)) <| am_g (decide (0 ≤ am_w32 (x3 + 5)) && decide (am_w32 (x3 + 5) < am_rd M (-4) 0)) <| am_g (am_ob x1 10) <| (am_Call d 262 [(2, x1), (0, am_rd M (-1) (am_w32 (x3 + 1))), (0, am_rd M (-1) (am_w32 (x3 + 2))), (0, am_rd M (-1) (am_w32 (x3 + 3))), (0, am_rd M (-1) (am_w32 (x3 + 4))), (0, am_rd M (-1) (am_w32 (x3 + 5)))] M).bind fun r381 => am_g (decide (0 ≤ am_w32 (x3 + 1)) && decide (am_w32 (x3 + 1) < am_rd r381.2 (-4) 0)) <| am_g (decide (0 ≤ am_w32 (x3 + 2)) && decide (am_w32 (x3 + 2) < am_rd r381.2 (-4) 0)) <| am_g (decide (0 ≤ am_w32 (x3 + 3)) && decide (am_w32 (x3 + 3) < am_rd r381.2 (-4) 0)) <| am_g (decide (0 ≤ am_w32 (x3 + 4)) && decide (am_w32 (x3 + 4) < am_rd r381.2 (-4) 0)) <| am_g (decide (0 ≤ am_w32 (x3 + 5)) && decide (am_w32 (x3 + 5) < am_rd r381.2 (-4) 0)) <| am_g (am_ob x2 11) <| (am_Call d 285 [(2, x2), (0, am_rd r381.2 (-1) (am_w32 (x3 + 1))), (0, am_rd r381.2 (-1) (am_w32 (x3 + 2))), (0, am_rd r381.2 (-1) (am_w32 (x3 + 3))), (0, am_rd r381.2 (-1) (am_w32 (x3 + 4))), (0, am_rd r381.2 (-1) (am_w32 (x3 + 5)))] r381.2).bind fun r388 => if r381.1 = r388.1 then (am_Ex d 306 1065 [(2, -1), (2, x1), (2, x2), (0, x3)] [] r388.2) else (some (0, r388.2))) else if am_and (am_rd M (-1) x3) 63 = 28 then (am_g (decide (0 ≤ am_w32 (x3 + 1)) && decide (am_w32 (x3 + 1) < am_rd M (-4) 0)) <| am_g (decide (0 ≤ am_w32 (x3 + 2)) && decide (am_w32 (x3 + 2) < am_rd M (-4) 0)) <| if am_rd M (-1) (am_w32 (x3 + 2)) = 0 then (am_g (am_ob x1 10) <| (am_Call d 140 [(2, x1), (0, am_rd M (-1) (am_w32 (x3 + 1))), (0, 0)] M).bind fun r395 => am_g (decide (0 ≤ am_w32 (x3 + 1)) && decide (am_w32 (x3 + 1) < am_rd r395.2 (-4) 0)) <| am_g (decide (0 ≤ am_w32 (x3 + 2)) && decide (am_w32 (x3 + 2) < am_rd r395.2 (-4) 0)) <| if am_rd r395.2 (-1) (am_w32 (x3 + 2)) = 0 then (am_g (am_ob x2 11) <| (am_Call d 199 [(2, x2), (0, am_rd r395.2 (-1) (am_w32 (x3 + 1))), (0, 0)] r395.2).bind fun r400 => if r395.1 = r400.1 then (am_Ex d 306 1065 [(2, -1), (2, x1), (2, x2), (0, x3)] [] r400.2) else (some (0, r400.2))) else (am_g (am_ob x2 11) <| (am_Call d 199 [(2, x2), (0, am_rd r395.2 (-1) (am_w32 (x3 + 1))), (0, 1)] r395.2).bind fun r403 => if r395.1 = r403.1 then (am_Ex d 306 1065 [(2, -1), (2, x1), (2, x2), (0, x3)] [] r403.2) else (some (0, r403.2)))) else (am_g (am_ob x1 10) <| (am_Call d 140 [(2, x1), (0, am_rd M (-1) (am_w32 (x3 + 1))), (0, 1)] M).bind fun r406 => am_g (decide (0 ≤ am_w32 (x3 + 1)) && decide (am_w32 (x3 + 1) < am_rd r406.2 (-4) 0)) <| am_g (decide (0 ≤ am_w32 (x3 + 2)) && decide (am_w32 (x3 + 2) < am_rd r406.2 (-4) 0)) <| if am_rd r406.2 (-1) (am_w32 (x3 + 2)) = 0 then (am_g (am_ob x2 11) <| (am_Call d 199 [(2, x2), (0, am_rd r406.2 (-1) (am_w32 (x3 + 1))), (0, 0)] r406.2).bind fun r411 => if r406.1 = r411.1 then (am_Ex d 306 1065 [(2, -1), (2, x1), (2, x2), (0, x3)] [] r411.2) else (some (0, r411.2))) else (am_g (am_ob x2 11) <| (am_Call d 199 [(2, x2), (0, am_rd r406.2 (-1) (am_w32 (x3 + 1))), (0, 1)] r406.2).bind fun r414 => if r406.1 = r414.1 then (am_Ex d 306 1065 [(2, -1), (2, x1), (2, x2), (0, x3)] [] r414.2) else (some (0, r414.2))))) else if am_and (am_rd M (-1) x3) 63 = 29 then (am_g (decide (0 ≤ am_w32 (x3 + 1)) && decide (am_w32 (x3 + 1) < am_rd M (-4) 0)) <| if am_rd M (-1) (am_w32 (x3 + 1)) = 0 then (am_g (decide (0 ≤ am_w32 (x3 + 2)) && decide (am_w32 (x3 + 2) < am_rd M (-4) 0)) <| am_g (am_ob x1 10) <| (am_Call d 215 [(2, x1), (0, 0), (0, am_rd M (-1) (am_w32 (x3 + 2)))] M).bind fun r421 => am_g (decide (0 ≤ am_w32 (x3 + 1)) && decide (am_w32 (x3 + 1) < am_rd r421.2 (-4) 0)) <| if am_rd r421.2 (-1) (am_w32 (x3 + 1)) = 0 then (am_g (decide (0 ≤ am_w32 (x3 + 2)) && decide (am_w32 (x3 + 2) < am_rd r421.2 (-4) 0)) <| am_g (am_ob x2 11) <| (am_Call d 230 [(2, x2), (0, 0), (0, am_rd r421.2 (-1) (am_w32 (x3 + 2)))] r421.2).bind fun r426 => if r421.1 = r426.1 then (am_Ex d 306 1065 [(2, -1), (2, x1), (2, x2), (0, x3)] [] r426.2) else (some (0, r426.2))) else (am_g (decide (0 ≤ am_w32 (x3 + 2)) && decide (am_w32 (x3 + 2) < am_rd r421.2 (-4) 0)) <| am_g (am_ob x2 11) <| (am_Call d 230 [(2, x2), (0, 1), (0, am_rd r421.2 (-1) (am_w32 (x3 + 2)))] r421.2).bind fun r430 => if r421.1 = r430.1 then (am_Ex d 306 1065 [(2, -1), (2, x1), (2, x2), (0, x3)] [] r430.2) else (some (0, r430.2)))) else (am_g (decide (0 ≤ am_w32 (x3 + 2)) && decide (am_w32 (x3 + 2) < am_rd M (-4) 0)) <| am_g (am_ob x1 10) <| (am_Call d 215 [(2, x1), (0, 1), (0, am_rd M (-1) (am_w32 (x3 + 2)))] M).bind fun r434 => am_g (decide (0 ≤ am_w32 (x3 + 1)) && decide (am_w32 (x3 + 1) < am_rd r434.2 (-4) 0)) <| if am_rd r434.2 (-1) (am_w32 (x3 + 1)) = 0 then (am_g (decide (0 ≤ am_w32 (x3 + 2)) && decide (am_w32 (x3 + 2) < am_rd r434.2 (-4) 0)) <| am_g (am_ob x2 11) <| (am_Call d 230 [(2, x2), (0, 0), (0, am_rd r434.2 (-1) (am_w32 (x3 + 2)))] r434.2).bind fun r439 => if r434.1 = r439.1 then (am_Ex d 306 1065 [(2, -1), (2, x1), (2, x2), (0, x3)] [] r439.2) else (some (0, r439.2))) else (am_g (decide (0 ≤ am_w32 (x3 + 2)) && decide (am_w32 (x3 + 2) < am_rd r434.2 (-4) 0)) <| am_g (am_ob x2 11) <| (am_Call d 230 [(2, x2), (0, 1), (0, am_rd r434.2 (-1) (am_w32 (x3 + 2)))] r434.2).bind fun r443 => if r434.1 = r443.1 then (am_Ex d 306 1065 [(2, -1), (2, x1), (2, x2), (0, x3)] [] r443.2) else (some (0, r443.2))))) else if am_and (am_rd M (-1) x3) 63 = 30 then (am_g (decide (0 ≤ am_w32 (x3 + 1)) && decide (am_w32 (x3 + 1) < am_rd M (-4) 0)) <| am_g (decide (0 ≤ am_w32 (x3 + 2)) && decide (am_w32 (x3 + 2) < am_rd M (-4) 0)) <| am_g (decide (0 ≤ am_w32 (x3 + 3)) && decide (am_w32 (x3 + 3) < am_rd M (-4) 0)) <| am_g (decide (0 ≤ am_w32 (x3 + 4)) && decide (am_w32 (x3 + 4) < am_rd M (-4) 0)) <| if am_rd M (-1) (am_w32 (x3 + 4)) = 0 then (am_g (am_ob x1 10) <| (am_Call d 263 [(2, x1), (0, am_rd M (-1) (am_w32 (x3 + 1))), (0, am_rd M (-1) (am_w32 (x3 + 2))), (0, am_rd M (-1) (am_w32 (x3 + 3))), (0, 0)] M).bind fun r452 => am_g (decide (0 ≤ am_w32 (x3 + 1)) && decide (am_w32 (x3 + 1) < am_rd r452.2 (-4) 0)) <| am_g (decide (0 ≤ am_w32 (x3 + 2)) && decide (am_w32 (x3 + 2) < am_rd r452.2 (-4) 0)) <| am_g (decide (0 ≤ am_w32 (x3 + 3)) && decide (am_w32 (x3 + 3) < am_rd r452.2 (-4) 0)) <| am_g (decide (0 ≤ am_w32 (x3 + 4)) && decide (am_w32 (x3 + 4) < am_rd r452.2 (-4) 0)) <| if am_rd r452.2 (-1) (am_w32 (x3 + 4)) = 0 then (am_g (am_ob x2 11) <| (am_Call d 269 [(2, x2), (0, am_rd r452.2 (-1) (am_w32 (x3 + 1))), (0, am_rd r452.2 (-1) (am_w32 (x3 + 2))), (0, am_rd r452.2 (-1) (am_w32 (x3 + 3))), (0, 0)] r452.2).bind fun r459 => if am_cmp r452.1 r459.1 = 0 then (am_Ex d 306 1065 [(2, -1), (2, x1), (2, x2), (0, x3)] [] r459.2) else (some (0, r459.2))) else (am_g (am_ob x2 11) <| (am_Call d 269 [(2, x2), (0, am_rd r452.2 (-1) (am_w32 (x3 + 1))), (0, am_rd r452.2 (-1) (am_w32 (x3 + 2))), (0, am_rd r452.2 (-1) (am_w32 (x3 + 3))), (0, 1)] r452.2).bind fun r462 => if am_cmp r452.1 r462.1 = 0 then (am_Ex d 306 1065 [(2, -1), (2, x1), (2, x2), (0, x3)] [] r462.2) else (some (0, r462.2)))) else (am_g (am_ob x1 10) <| (am_Call d 263 [(2, x1), (0, am_rd M (-1) (am_w32 (x3 + 1))), (0, am_rd M (-1) (am_w32 (x3 + 2))), (0, am_rd M (-1) (am_w32 (x3 + 3))), (0, 1)] M).bind fun r465 => am_g (decide (0 ≤ am_w32 (x3 + 1)) && decide (am_w32 (x3 + 1) < am_rd r465.2 (-4) 0)) <| am_g (decide (0 ≤ am_w32 (x3 + 2)) && decide (am_w32 (x3 + 2) < am_rd r465.2 (-4) 0)) <| am_g (decide (0 ≤ am_w32 (x3 + 3)) && decide (am_w32 (x3 + 3) < am_rd r465.2 (-4) 0)) <| am_g (decide (0 ≤ am_w32 (x3 + 4)) && decide (am_w32 (x3 + 4) < am_rd r465.2 (-4) 0)) <| if am_rd r465.2 (-1) (am_w32 (x3 + 4)) = 0 then (am_g (am_ob x2 11) <| (am_Call d 269 [(2, x2), (0, am_rd r465.2 (-1) (am_w32 (x3 + 1))), (0, am_rd r465.2 (-1) (am_w32 (x3 + 2))), (0, am_rd r465.2 (-1) (am_w32 (x3 + 3))), (0, 0)] r465.2).bind fun r472 => if am_cmp r465.1 r472.1 = 0 then (am_Ex d 306 1065 [(2, -1), (2, x1), (2, x2), (0, x3)] [] r472.2) else (some (0, r472.2))) else (am_g (am_ob x2 11) <| (am_Call d 269 [(2, x2), (0, am_rd r465.2 (-1) (am_w32 (x3 + 1))), (0, am_rd r465.2 (-1) (am_w32 (x3 + 2))), (0, am_rd r465.2 (-1) (am_w32 (x3 + 3))), (0, 1)] r465.2).bind fun r475 => if am_cmp r465.1 r475.1 = 0 then (am_Ex d 306 1065 [(2, -1), (2, x1), (2, x2), (0, x3)] [] r475.2) else (some (0, r475.2))))) else if am_and (am_rd M (-1) x3) 63 = 31 then (am_g (decide (0 ≤ am_w32 (x3 + 1)) && decide (am_w32 (x3 + 1) < am_rd M (-4) 0)) <| am_g (decide (0 ≤ am_w32 (x3 + 2)) && decide (am_w32 (x3 + 2) < am_rd M (-4) 0)) <| am_g (decide (0 ≤ am_w32 (x3 + 3)) && decide (am_w32 (x3 + 3) < am_rd M (-4) 0)) <| am_g (am_ob x1 10) <| (am_Call d 244 [(2, x1), (0, am_rd M (-1) (am_w32 (x3 + 1))), (0, am_rd M (-1) (am_w32 (x3 + 2))), (0, am_rd M (-1) (am_w32 (x3 + 3)))] M).bind fun r482 => am_g (decide (0 ≤ am_w32 (x3 + 1)) && decide (am_w32 (x3 + 1) < am_rd r482.2 (-4) 0)) <| am_g (decide (0 ≤ am_w32 (x3 + 2)) && decide (am_w32 (x3 + 2) < am_rd r482.2 (-4) 0)) <| am_g (decide (0 ≤ am_w32 (x3 + 3)) && decide (am_w32 (x3 + 3) < am_rd r482.2 (-4) 0)) <| am_g (am_ob x2 11) <| (am_Call d 270 [(2, x2), (0, am_rd r482.2 (-1) (am_w32 (x3 + 1))), (0, am_rd r482.2 (-1) (am_w32 (x3 + 2))), (0, am_rd r482.2 (-1) (am_w32 (x3 + 3)))] r482.2).bind fun r487 => if r482.1 = r487.1 then (am_Ex d 306 1065 [(2, -1), (2, x1), (2, x2), (0, x3)] [] r487.2) else (some (0, r487.2))) else if am_and (am_rd M (-1) x3) 63 = 32 then (am_g (decide (0 ≤ am_w32 (x3 + 1)) && decide (am_w32 (x3 + 1) < am_rd M (-4) 0)) <| am_g (am_ob x1 10) <| (am_Call d 141 [(2, x1), (0, am_rd M (-1) (am_w32 (x3 + 1)))] M).bind fun r492 => am_g (decide (0 ≤ am_w32 (x3 + 1)) && decide (am_w32 (x3 + 1) < am_rd r492.2 (-4) 0)) <| am_g (am_ob x2 11) <| (am_Call d 231 [(2, x2), (0, am_rd r492.2 (-1) (am_w32 (x3 + 1)))] r492.2).bind fun r495 => if r492.1 = r495.1 then (am_Ex d 306 1065 [(2, -1), (2, x1), (2, x2), (0, x3)] [] r495.2) else (some (0, r495.2))) else if am_and (am_rd M (-1) x3) 63 = 33 then (am_g (decide (0 ≤ am_w32 (x3 + 1)) && decide (am_w32 (x3 + 1) < am_rd M (-4) 0)) <| am_g (am_ob x1 10) <| (am_Call d 189 [(2, x1), (0, am_rd M (-1) (am_w32 (x3 + 1)))] M).bind fun r500 => am_g (decide (0 ≤ am_w32 (x3 + 1)) && decide (am_w32 (x3 + 1) < am_rd r500.2 (-4) 0)) <| am_g (am_ob x2 11) <| (am_Call d 232 [(2, x2), (0, am_rd r500.2 (-1) (am_w32 (x3 + 1)))] r500.2).bind fun r503 => if r500.1 = r503.1 then (am_Ex d 306 1065 [(2, -1), (2, x1), (2, x2), (0, x3)] [] r503.2) else (some (0, r503.2))) else if am_and (am_rd M (-1) x3) 63 = 34 then (am_g (decide (0 ≤ am_w32 (x3 + 1)) && decide (am_w32 (x3 + 1) < am_rd M (-4) 0)) <| am_g (decide (0 ≤ am_w32 (x3 + 2)) && decide (am_w32 (x3 + 2) < am_rd M (-4) 0)) <| am_g (decide (0 ≤ am_w32 (x3 + 3)) && decide (am_w32 (x3 + 3) < am_rd M (-4) 0)) <| am_g (am_ob x1 10) <| (am_Call d 245 [(2, x1), (0, am_rd M (-1) (am_w32 (x3 + 1))), (0, am_rd M (-1) (am_w32 (x3 + 2))), (0, am_rd M (-1) (am_w32 (x3 + 3)))] M).bind fun r510 => am_g (decide (0 ≤ am_w32 (x3 + 1)) && decide (am_w32 (x3 + 1) < am_rd r510.2 (-4) 0)) <| am_g (decide (0 ≤ am_w32 (x3 + 2)) && decide (am_w32 (x3 + 2) < am_rd r510.2 (-4) 0)) <| am_g (decide (0 ≤ am_w32 (x3 + 3)) && decide (am_w32 (x3 + 3) < am_rd r510.2 (-4) 0)) <| am_g (am_ob x2 11) <| (am_Call d 202 [(2, x2), (0, am_rd r510.2 (-1) (am_w32 (x3 + 1))), (0, am_rd r510.2 (-1) (am_w32 (x3 + 2))), (0, am_rd r510.2 (-1) (am_w32 (x3 + 3)))] r510.2).bind fun r515 => if am_cmp r510.1 r515.1 = 0 then (am_Ex d 306 1065 [(2, -1), (2, x1), (2, x2), (0, x3)] [] r515.2) else (some (0, r515.2))) else if am_and (am_rd M (-1) x3) 63 = 35 then (am_g (decide (0 ≤ am_w32 (x3 + 1)) && decide (am_w32 (x3 + 1) < am_rd M (-4) 0)) <| am_g (decide (0 ≤ am_w32 (x3 + 2)) && decide (am_w32 (x3 + 2) < am_rd M (-4) 0)) <| am_g (am_ob x1 10) <| (am_Call d 216 [(2, x1), (0, am_rd M (-1) (am_w32 (x3 + 1))), (0, am_rd M (-1) (am_w32 (x3 + 2)))] M).bind fun r521 => am_g (decide (0 ≤ am_w32 (x3 + 1)) && decide (am_w32 (x3 + 1) < am_rd r521.2 (-4) 0)) <| am_g (decide (0 ≤ am_w32 (x3 + 2)) && decide (am_w32 (x3 + 2) < am_rd r521.2 (-4) 0)) <| am_g (am_ob x2 11) <| (am_Call d 203 [(2, x2), (0, am_rd r521.2 (-1) (am_w32 (x3 + 1))), (0, am_rd r521.2 (-1) (am_w32 (x3 + 2)))] r521.2).bind fun r525 => if r521.1 = r525.1 then (am_Ex d 306 1065 [(2, -1), (2, x1), (2, x2), (0, x3)] [] r525.2) else (some (0, r525.2))) else if am_and (am_rd M (-1) x3) 63 = 36 then (am_g (decide (0 ≤ am_w32 (x3 + 1)) && decide (am_w32 (x3 + 1) < am_rd M (-4) 0)) <| am_g (am_ob x1 10) <| (am_Call d 279 [(2, x1), (0, am_rd M (-1) (am_w32 (x3 + 1)))] M).bind fun r530 => am_g (decide (0 ≤ am_w32 (x3 + 1)) && decide (am_w32 (x3 + 1) < am_rd r530.2 (-4) 0)) <| am_g (am_ob x2 11) <| (am_Call d 286 [(2, x2), (0, am_rd r530.2 (-1) (am_w32 (x3 + 1)))] r530.2).bind fun r533 => if r530.1 = r533.1 then (am_Ex d 306 1065 [(2, -1), (2, x1), (2, x2), (0, x3)] [] r533.2) else (some (0, r533.2))) else if am_and (am_rd M (-1) x3) 63 = 37 then (am_g (decide (0 ≤ am_w32 (x3 + 1)) && decide (am_w32 (x3 + 1) < am_rd M (-4) 0)) <| am_g (am_ob x1 10) <| (am_Call d 280 [(2, x1), (0, am_rd M (-1) (am_w32 (x3 + 1)))] M).bind fun r538 => am_g (decide (0 ≤ am_w32 (x3 + 1)) && decide (am_w32 (x3 + 1) < am_rd r538.2 (-4) 0)) <| am_g (am_ob x2 11) <| (am_Call d 287 [(2, x2), (0, am_rd r538.2 (-1) (am_w32 (x3 + 1)))] r538.2).bind fun r541 => if r538.1 = r541.1 then (am_Ex d 306 1065 [(2, -1), (2, x1), (2, x2), (0, x3)] [] r541.2) else (some (0, r541.2))) else if am_and (am_rd M (-1) x3) 63 = 38 then (am_g (am_ob x1 10) <| (am_Call d 190 [(2, x1)] M).bind fun r545 => am_g (am_ob x2 11) <| (am_Call d 167 [(2, x2)] r545.2).bind fun r547 => if r545.1 = r547.1 then (am_Ex d 306 1065 [(2, -1), (2, x1), (2, x2), (0, x3)] [] r547.2) else (some (0, r547.2))) else if am_and (am_rd M (-1) x3) 63 = 39 then (am_g (am_ob x1 10) <| (am_Call d 191 [(2, x1)] M).bind fun r551 => am_g (am_ob x2 11) <| (am_Call d 168 [(2, x2)] r551.2).bind fun r553 => if r551.1 = r553.1 then (am_Ex d 306 1065 [(2, -1), (2, x1), (2, x2), (0, x3)] [] r553.2) else (some (0, r553.2))) else if am_and (am_rd M (-1) x3) 63 = 40 then (am_g (decide (0 ≤ am_w32 (x3 + 1)) && decide (am_w32 (x3 + 1) < am_rd M (-4) 0)) <| am_g (am_ob x1 10) <| (am_Call d 63 [(2, x1), (0, am_rd M (-1) (am_w32 (x3 + 1)))] M).bind fun r558 => am_g (decide (0 ≤ am_w32 (x3 + 1)) && decide (am_w32 (x3 + 1) < am_rd r558.2 (-4) 0)) <| am_g (am_ob x2 11) <| (am_Call d 98 [(2, x2), (0, am_rd r558.2 (-1) (am_w32 (x3 + 1)))] r558.2).bind fun r561 => if r558.1 = r561.1 then (am_Ex d 306 1065 [(2, -1), (2, x1), (2, x2), (0, x3)] [] r561.2) else (some (0, r561.2))) else (am_Ex d 306 1065 [(2, -1), (2, x1), (2, x2), (0, x3)] [] M)) else (some (1, M))) := by
  refine (am_e0 rfl rfl).trans ?_
  refine (am_e0 rfl rfl).trans ?_
  refine (am_e6l rfl).trans ?_
  refine (am_e0 rfl rfl).trans ?_
  refine (am_e0 rfl rfl).trans ?_
  refine (am_i_gt rfl).trans (am_if_congr (fun c101 => ?_) (fun c101 => ?_))
  · refine (am_e0 rfl rfl).trans ?_
    refine (am_e0 rfl rfl).trans ?_
    refine (am_e6i rfl).trans (am_g_congr fun h102 => ?_)
    refine (am_e0 rfl rfl).trans ?_
    refine (am_e0 rfl rfl).trans ?_
    refine (am_tsw rfl).trans ?_
    refine (am_sw_c).trans (am_if_congr (fun c103 => ?_) (fun c103 => ?_))
    · refine (am_e0 rfl rfl).trans ?_
      refine (am_e0 rfl rfl).trans ?_
      refine (am_e0 rfl rfl).trans ?_
      refine (am_e0 rfl rfl).trans ?_
      refine (am_e0 rfl rfl).trans ?_
      refine (am_e6i rfl).trans (am_g_congr fun h104 => ?_)
      refine (am_cal3 (z := 136) (k := 2) (c := (am_ob x1 10)) rfl rfl rfl rfl rfl rfl rfl rfl).trans (am_g_congr fun h105 => ?_)
      refine am_bind_congr fun r106 => ?_
      show am_Ex d 306 30 [(2, -1), (2, x1), (2, x2), (0, x3)] [(0, r106.1)] r106.2 = _
      refine (am_e0 rfl rfl).trans ?_
      refine (am_e0 rfl rfl).trans ?_
      refine (am_e0 rfl rfl).trans ?_
      refine (am_e0 rfl rfl).trans ?_
      refine (am_e0 rfl rfl).trans ?_
      refine (am_e6i rfl).trans (am_g_congr fun h107 => ?_)
      refine (am_cal3 (z := 146) (k := 2) (c := (am_ob x2 11)) rfl rfl rfl rfl rfl rfl rfl rfl).trans (am_g_congr fun h108 => ?_)
      refine am_bind_congr fun r109 => ?_
      show am_Ex d 306 37 [(2, -1), (2, x1), (2, x2), (0, x3)] [(0, r109.1), (0, r106.1)] r109.2 = _
      refine (am_i_eq rfl).trans (am_if_congr (fun c110 => ?_) (fun c110 => ?_))
      · exact (am_e5 rfl).trans rfl
      · refine (am_e0 rfl rfl).trans ?_
        exact (am_e4i rfl rfl).trans rfl
    refine (am_sw_c).trans (am_if_congr (fun c111 => ?_) (fun c111 => ?_))
    · refine (am_e0 rfl rfl).trans ?_
      refine (am_e0 rfl rfl).trans ?_
      refine (am_e0 rfl rfl).trans ?_
      refine (am_e0 rfl rfl).trans ?_
      refine (am_e0 rfl rfl).trans ?_
      refine (am_e6i rfl).trans (am_g_congr fun h112 => ?_)
      refine (am_e0 rfl rfl).trans ?_
      refine (am_e0 rfl rfl).trans ?_
      refine (am_e0 rfl rfl).trans ?_
      refine (am_e0 rfl rfl).trans ?_
      refine (am_e6i rfl).trans (am_g_congr fun h113 => ?_)
      refine (am_cal3 (z := 182) (k := 3) (c := (am_ob x1 10)) rfl rfl rfl rfl rfl rfl rfl rfl).trans (am_g_congr fun h114 => ?_)
      refine am_bind_congr fun r115 => ?_
      show am_Ex d 306 52 [(2, -1), (2, x1), (2, x2), (0, x3)] [(0, r115.1)] r115.2 = _
      refine (am_e0 rfl rfl).trans ?_
      refine (am_e0 rfl rfl).trans ?_
      refine (am_e0 rfl rfl).trans ?_
      refine (am_e0 rfl rfl).trans ?_
      refine (am_e0 rfl rfl).trans ?_
      refine (am_e6i rfl).trans (am_g_congr fun h116 => ?_)
      refine (am_e0 rfl rfl).trans ?_
      refine (am_e0 rfl rfl).trans ?_
      refine (am_e0 rfl rfl).trans ?_
      refine (am_e0 rfl rfl).trans ?_
      refine (am_e6i rfl).trans (am_g_congr fun h117 => ?_)
      refine (am_cal3 (z := 192) (k := 3) (c := (am_ob x2 11)) rfl rfl rfl rfl rfl rfl rfl rfl).trans (am_g_congr fun h118 => ?_)
      refine am_bind_congr fun r119 => ?_
      show am_Ex d 306 64 [(2, -1), (2, x1), (2, x2), (0, x3)] [(0, r119.1), (0, r115.1)] r119.2 = _
      refine (am_i_eq rfl).trans (am_if_congr (fun c120 => ?_) (fun c120 => ?_))
      · exact (am_e5 rfl).trans rfl
      · refine (am_e0 rfl rfl).trans ?_
        exact (am_e4i rfl rfl).trans rfl
    refine (am_sw_c).trans (am_if_congr (fun c121 => ?_) (fun c121 => ?_))
    · refine (am_e0 rfl rfl).trans ?_
      refine (am_e0 rfl rfl).trans ?_
      refine (am_e0 rfl rfl).trans ?_
      refine (am_e0 rfl rfl).trans ?_
      refine (am_e0 rfl rfl).trans ?_
      refine (am_e6i rfl).trans (am_g_congr fun h122 => ?_)
      refine (am_cal3 (z := 137) (k := 2) (c := (am_ob x1 10)) rfl rfl rfl rfl rfl rfl rfl rfl).trans (am_g_congr fun h123 => ?_)
      refine am_bind_congr fun r124 => ?_
      show am_Ex d 306 74 [(2, -1), (2, x1), (2, x2), (0, x3)] [(0, r124.1)] r124.2 = _
      refine (am_e0 rfl rfl).trans ?_
      refine (am_e0 rfl rfl).trans ?_
      refine (am_e0 rfl rfl).trans ?_
      refine (am_e0 rfl rfl).trans ?_
      refine (am_e0 rfl rfl).trans ?_
      refine (am_e6i rfl).trans (am_g_congr fun h125 => ?_)
      refine (am_cal3 (z := 147) (k := 2) (c := (am_ob x2 11)) rfl rfl rfl rfl rfl rfl rfl rfl).trans (am_g_congr fun h126 => ?_)
      refine am_bind_congr fun r127 => ?_
      show am_Ex d 306 81 [(2, -1), (2, x1), (2, x2), (0, x3)] [(0, r127.1), (0, r124.1)] r127.2 = _
      refine (am_i_eq rfl).trans (am_if_congr (fun c128 => ?_) (fun c128 => ?_))
      · exact (am_e5 rfl).trans rfl
      · refine (am_e0 rfl rfl).trans ?_
        exact (am_e4i rfl rfl).trans rfl
    refine (am_sw_c).trans (am_if_congr (fun c129 => ?_) (fun c129 => ?_))
    · refine (am_e0 rfl rfl).trans ?_
      refine (am_e0 rfl rfl).trans ?_
      refine (am_e0 rfl rfl).trans ?_
      refine (am_e0 rfl rfl).trans ?_
      refine (am_e0 rfl rfl).trans ?_
      refine (am_e6i rfl).trans (am_g_congr fun h130 => ?_)
      refine (am_cal3 (z := 183) (k := 2) (c := (am_ob x1 10)) rfl rfl rfl rfl rfl rfl rfl rfl).trans (am_g_congr fun h131 => ?_)
      refine am_bind_congr fun r132 => ?_
      show am_Ex d 306 91 [(2, -1), (2, x1), (2, x2), (0, x3)] [(0, r132.1)] r132.2 = _
      refine (am_e0 rfl rfl).trans ?_
      refine (am_e0 rfl rfl).trans ?_
      refine (am_e0 rfl rfl).trans ?_
      refine (am_e0 rfl rfl).trans ?_
      refine (am_e0 rfl rfl).trans ?_
      refine (am_e6i rfl).trans (am_g_congr fun h133 => ?_)
      refine (am_cal3 (z := 193) (k := 2) (c := (am_ob x2 11)) rfl rfl rfl rfl rfl rfl rfl rfl).trans (am_g_congr fun h134 => ?_)
      refine am_bind_congr fun r135 => ?_
      show am_Ex d 306 98 [(2, -1), (2, x1), (2, x2), (0, x3)] [(0, r135.1), (0, r132.1)] r135.2 = _
      refine (am_i_eq rfl).trans (am_if_congr (fun c136 => ?_) (fun c136 => ?_))
      · exact (am_e5 rfl).trans rfl
      · refine (am_e0 rfl rfl).trans ?_
        exact (am_e4i rfl rfl).trans rfl
    refine (am_sw_c).trans (am_if_congr (fun c137 => ?_) (fun c137 => ?_))
    · refine (am_e0 rfl rfl).trans ?_
      refine (am_e0 rfl rfl).trans ?_
      refine (am_e0 rfl rfl).trans ?_
      refine (am_e0 rfl rfl).trans ?_
      refine (am_e0 rfl rfl).trans ?_
      refine (am_e6i rfl).trans (am_g_congr fun h138 => ?_)
      refine (am_cal3 (z := 59) (k := 2) (c := (am_ob x1 10)) rfl rfl rfl rfl rfl rfl rfl rfl).trans (am_g_congr fun h139 => ?_)
      refine am_bind_congr fun r140 => ?_
      show am_Ex d 306 108 [(2, -1), (2, x1), (2, x2), (0, x3)] [(0, r140.1)] r140.2 = _
      refine (am_e0 rfl rfl).trans ?_
      refine (am_e0 rfl rfl).trans ?_
      refine (am_e0 rfl rfl).trans ?_
      refine (am_e0 rfl rfl).trans ?_
      refine (am_e0 rfl rfl).trans ?_
      refine (am_e6i rfl).trans (am_g_congr fun h141 => ?_)
      refine (am_cal3 (z := 148) (k := 2) (c := (am_ob x2 11)) rfl rfl rfl rfl rfl rfl rfl rfl).trans (am_g_congr fun h142 => ?_)
      refine am_bind_congr fun r143 => ?_
      show am_Ex d 306 115 [(2, -1), (2, x1), (2, x2), (0, x3)] [(0, r143.1), (0, r140.1)] r143.2 = _
      refine (am_i_eq rfl).trans (am_if_congr (fun c144 => ?_) (fun c144 => ?_))
      · exact (am_e5 rfl).trans rfl
      · refine (am_e0 rfl rfl).trans ?_
        exact (am_e4i rfl rfl).trans rfl
    refine (am_sw_c).trans (am_if_congr (fun c145 => ?_) (fun c145 => ?_))
    · refine (am_e0 rfl rfl).trans ?_
      refine (am_e0 rfl rfl).trans ?_
      refine (am_e0 rfl rfl).trans ?_
      refine (am_e0 rfl rfl).trans ?_
      refine (am_e0 rfl rfl).trans ?_
      refine (am_e6i rfl).trans (am_g_congr fun h146 => ?_)
      refine (am_e0 rfl rfl).trans ?_
      refine (am_e0 rfl rfl).trans ?_
      refine (am_e0 rfl rfl).trans ?_
      refine (am_e0 rfl rfl).trans ?_
      refine (am_e6i rfl).trans (am_g_congr fun h147 => ?_)
      refine (am_e0 rfl rfl).trans ?_
      refine (am_e0 rfl rfl).trans ?_
      refine (am_e0 rfl rfl).trans ?_
      refine (am_e0 rfl rfl).trans ?_
      refine (am_e6i rfl).trans (am_g_congr fun h148 => ?_)
      refine (am_cal3 (z := 184) (k := 4) (c := (am_ob x1 10)) rfl rfl rfl rfl rfl rfl rfl rfl).trans (am_g_congr fun h149 => ?_)
      refine am_bind_congr fun r150 => ?_
      show am_Ex d 306 135 [(2, -1), (2, x1), (2, x2), (0, x3)] [(0, r150.1)] r150.2 = _
      refine (am_e0 rfl rfl).trans ?_
      refine (am_e0 rfl rfl).trans ?_
      refine (am_e0 rfl rfl).trans ?_
      refine (am_e0 rfl rfl).trans ?_
      refine (am_e0 rfl rfl).trans ?_
      refine (am_e6i rfl).trans (am_g_congr fun h151 => ?_)
      refine (am_e0 rfl rfl).trans ?_
      refine (am_e0 rfl rfl).trans ?_
      refine (am_e0 rfl rfl).trans ?_
      refine (am_e0 rfl rfl).trans ?_
      refine (am_e6i rfl).trans (am_g_congr fun h152 => ?_)
      refine (am_e0 rfl rfl).trans ?_
      refine (am_e0 rfl rfl).trans ?_
      refine (am_e0 rfl rfl).trans ?_
      refine (am_e0 rfl rfl).trans ?_
      refine (am_e6i rfl).trans (am_g_congr fun h153 => ?_)
      refine (am_cal3 (z := 253) (k := 4) (c := (am_ob x2 11)) rfl rfl rfl rfl rfl rfl rfl rfl).trans (am_g_congr fun h154 => ?_)
      refine am_bind_congr fun r155 => ?_
      show am_Ex d 306 152 [(2, -1), (2, x1), (2, x2), (0, x3)] [(0, r155.1), (0, r150.1)] r155.2 = _
      refine (am_i_eq rfl).trans (am_if_congr (fun c156 => ?_) (fun c156 => ?_))
      · exact (am_e5 rfl).trans rfl
      · refine (am_e0 rfl rfl).trans ?_
        exact (am_e4i rfl rfl).trans rfl
    refine (am_sw_c).trans (am_if_congr (fun c157 => ?_) (fun c157 => ?_))
    · refine (am_e0 rfl rfl).trans ?_
      refine (am_e0 rfl rfl).trans ?_
      refine (am_e0 rfl rfl).trans ?_
      refine (am_e0 rfl rfl).trans ?_
      refine (am_e0 rfl rfl).trans ?_
      refine (am_e6i rfl).trans (am_g_congr fun h158 => ?_)
      refine (am_e0 rfl rfl).trans ?_
      refine (am_e0 rfl rfl).trans ?_
      refine (am_e0 rfl rfl).trans ?_
      refine (am_e0 rfl rfl).trans ?_
      refine (am_e6i rfl).trans (am_g_congr fun h159 => ?_)
      refine (am_e0 rfl rfl).trans ?_
      refine (am_e0 rfl rfl).trans ?_
      refine (am_e0 rfl rfl).trans ?_
      refine (am_e0 rfl rfl).trans ?_
      refine (am_e6i rfl).trans (am_g_congr fun h160 => ?_)
      refine (am_cal3 (z := 242) (k := 4) (c := (am_ob x1 10)) rfl rfl rfl rfl rfl rfl rfl rfl).trans (am_g_congr fun h161 => ?_)
      refine am_bind_congr fun r162 => ?_
      show am_Ex d 306 172 [(2, -1), (2, x1), (2, x2), (0, x3)] [(0, r162.1)] r162.2 = _
      refine (am_e0 rfl rfl).trans ?_
      refine (am_e0 rfl rfl).trans ?_
      refine (am_e0 rfl rfl).trans ?_
      refine (am_e0 rfl rfl).trans ?_
      refine (am_e0 rfl rfl).trans ?_
      refine (am_e6i rfl).trans (am_g_congr fun h163 => ?_)
      refine (am_e0 rfl rfl).trans ?_
      refine (am_e0 rfl rfl).trans ?_
      refine (am_e0 rfl rfl).trans ?_
      refine (am_e0 rfl rfl).trans ?_
      refine (am_e6i rfl).trans (am_g_congr fun h164 => ?_)
      refine (am_e0 rfl rfl).trans ?_
      refine (am_e0 rfl rfl).trans ?_
      refine (am_e0 rfl rfl).trans ?_
      refine (am_e0 rfl rfl).trans ?_
      refine (am_e6i rfl).trans (am_g_congr fun h165 => ?_)
      refine (am_cal3 (z := 283) (k := 4) (c := (am_ob x2 11)) rfl rfl rfl rfl rfl rfl rfl rfl).trans (am_g_congr fun h166 => ?_)
      refine am_bind_congr fun r167 => ?_
      show am_Ex d 306 189 [(2, -1), (2, x1), (2, x2), (0, x3)] [(0, r167.1), (0, r162.1)] r167.2 = _
      refine (am_i_eq rfl).trans (am_if_congr (fun c168 => ?_) (fun c168 => ?_))
      · exact (am_e5 rfl).trans rfl
      · refine (am_e0 rfl rfl).trans ?_
        exact (am_e4i rfl rfl).trans rfl
    refine (am_sw_c).trans (am_if_congr (fun c169 => ?_) (fun c169 => ?_))
    · refine (am_e0 rfl rfl).trans ?_
      refine (am_e0 rfl rfl).trans ?_
      refine (am_e0 rfl rfl).trans ?_
      refine (am_e0 rfl rfl).trans ?_
      refine (am_e0 rfl rfl).trans ?_
      refine (am_e6i rfl).trans (am_g_congr fun h170 => ?_)
      refine (am_cal3 (z := 212) (k := 2) (c := (am_ob x1 10)) rfl rfl rfl rfl rfl rfl rfl rfl).trans (am_g_congr fun h171 => ?_)
      refine am_bind_congr fun r172 => ?_
      show am_Ex d 306 199 [(2, -1), (2, x1), (2, x2), (0, x3)] [(0, r172.1)] r172.2 = _
      refine (am_e0 rfl rfl).trans ?_
      refine (am_e0 rfl rfl).trans ?_
      refine (am_e0 rfl rfl).trans ?_
      refine (am_e0 rfl rfl).trans ?_
      refine (am_e0 rfl rfl).trans ?_
      refine (am_e6i rfl).trans (am_g_congr fun h173 => ?_)
      refine (am_cal3 (z := 226) (k := 2) (c := (am_ob x2 11)) rfl rfl rfl rfl rfl rfl rfl rfl).trans (am_g_congr fun h174 => ?_)
      refine am_bind_congr fun r175 => ?_
      show am_Ex d 306 206 [(2, -1), (2, x1), (2, x2), (0, x3)] [(0, r175.1), (0, r172.1)] r175.2 = _
      refine (am_i_eq rfl).trans (am_if_congr (fun c176 => ?_) (fun c176 => ?_))
      · exact (am_e5 rfl).trans rfl
      · refine (am_e0 rfl rfl).trans ?_
        exact (am_e4i rfl rfl).trans rfl
    refine (am_sw_c).trans (am_if_congr (fun c177 => ?_) (fun c177 => ?_))
    · refine (am_e0 rfl rfl).trans ?_
      refine (am_e0 rfl rfl).trans ?_
      refine (am_e0 rfl rfl).trans ?_
      refine (am_e0 rfl rfl).trans ?_
      refine (am_e0 rfl rfl).trans ?_
      refine (am_e6i rfl).trans (am_g_congr fun h178 => ?_)
      refine (am_e0 rfl rfl).trans ?_
      refine (am_e0 rfl rfl).trans ?_
      refine (am_e0 rfl rfl).trans ?_
      refine (am_e0 rfl rfl).trans ?_
      refine (am_e6i rfl).trans (am_g_congr fun h179 => ?_)
      refine (am_e0 rfl rfl).trans ?_
      refine (am_e0 rfl rfl).trans ?_
      refine (am_e0 rfl rfl).trans ?_
      refine (am_e0 rfl rfl).trans ?_
      refine (am_e6i rfl).trans (am_g_congr fun h180 => ?_)
      refine (am_z_eq rfl).trans (am_if_congr (fun c181 => ?_) (fun c181 => ?_))
      · refine (am_e0 rfl rfl).trans ?_
        refine (am_cal3 (z := 185) (k := 4) (c := (am_ob x1 10)) rfl rfl rfl rfl rfl rfl rfl rfl).trans (am_g_congr fun h182 => ?_)
        refine am_bind_congr fun r183 => ?_
        show am_Ex d 306 230 [(2, -1), (2, x1), (2, x2), (0, x3)] [(0, r183.1)] r183.2 = _
        refine (am_e0 rfl rfl).trans ?_
        refine (am_e0 rfl rfl).trans ?_
        refine (am_e0 rfl rfl).trans ?_
        refine (am_e0 rfl rfl).trans ?_
        refine (am_e0 rfl rfl).trans ?_
        refine (am_e6i rfl).trans (am_g_congr fun h184 => ?_)
        refine (am_e0 rfl rfl).trans ?_
        refine (am_e0 rfl rfl).trans ?_
        refine (am_e0 rfl rfl).trans ?_
        refine (am_e0 rfl rfl).trans ?_
        refine (am_e6i rfl).trans (am_g_congr fun h185 => ?_)
        refine (am_e0 rfl rfl).trans ?_
        refine (am_e0 rfl rfl).trans ?_
        refine (am_e0 rfl rfl).trans ?_
        refine (am_e0 rfl rfl).trans ?_
        refine (am_e6i rfl).trans (am_g_congr fun h186 => ?_)
        refine (am_z_eq rfl).trans (am_if_congr (fun c187 => ?_) (fun c187 => ?_))
        · refine (am_e0 rfl rfl).trans ?_
          refine (am_cal3 (z := 227) (k := 4) (c := (am_ob x2 11)) rfl rfl rfl rfl rfl rfl rfl rfl).trans (am_g_congr fun h188 => ?_)
          refine am_bind_congr fun r189 => ?_
          show am_Ex d 306 251 [(2, -1), (2, x1), (2, x2), (0, x3)] [(0, r189.1), (0, r183.1)] r189.2 = _
          refine (am_i_eq rfl).trans (am_if_congr (fun c190 => ?_) (fun c190 => ?_))
          · exact (am_e5 rfl).trans rfl
          · refine (am_e0 rfl rfl).trans ?_
            exact (am_e4i rfl rfl).trans rfl
        · refine (am_e0 rfl rfl).trans ?_
          refine (am_e1 rfl rfl).trans ?_
          refine (am_cal3 (z := 227) (k := 4) (c := (am_ob x2 11)) rfl rfl rfl rfl rfl rfl rfl rfl).trans (am_g_congr fun h191 => ?_)
          refine am_bind_congr fun r192 => ?_
          show am_Ex d 306 251 [(2, -1), (2, x1), (2, x2), (0, x3)] [(0, r192.1), (0, r183.1)] r192.2 = _
          refine (am_i_eq rfl).trans (am_if_congr (fun c193 => ?_) (fun c193 => ?_))
          · exact (am_e5 rfl).trans rfl
          · refine (am_e0 rfl rfl).trans ?_
            exact (am_e4i rfl rfl).trans rfl
      · refine (am_e0 rfl rfl).trans ?_
        refine (am_e1 rfl rfl).trans ?_
        refine (am_cal3 (z := 185) (k := 4) (c := (am_ob x1 10)) rfl rfl rfl rfl rfl rfl rfl rfl).trans (am_g_congr fun h194 => ?_)
        refine am_bind_congr fun r195 => ?_
        show am_Ex d 306 230 [(2, -1), (2, x1), (2, x2), (0, x3)] [(0, r195.1)] r195.2 = _
        refine (am_e0 rfl rfl).trans ?_
        refine (am_e0 rfl rfl).trans ?_
        refine (am_e0 rfl rfl).trans ?_
        refine (am_e0 rfl rfl).trans ?_
        refine (am_e0 rfl rfl).trans ?_
        refine (am_e6i rfl).trans (am_g_congr fun h196 => ?_)
        refine (am_e0 rfl rfl).trans ?_
        refine (am_e0 rfl rfl).trans ?_
        refine (am_e0 rfl rfl).trans ?_
        refine (am_e0 rfl rfl).trans ?_
        refine (am_e6i rfl).trans (am_g_congr fun h197 => ?_)
        refine (am_e0 rfl rfl).trans ?_
        refine (am_e0 rfl rfl).trans ?_
        refine (am_e0 rfl rfl).trans ?_
        refine (am_e0 rfl rfl).trans ?_
        refine (am_e6i rfl).trans (am_g_congr fun h198 => ?_)
        refine (am_z_eq rfl).trans (am_if_congr (fun c199 => ?_) (fun c199 => ?_))
        · refine (am_e0 rfl rfl).trans ?_
          refine (am_cal3 (z := 227) (k := 4) (c := (am_ob x2 11)) rfl rfl rfl rfl rfl rfl rfl rfl).trans (am_g_congr fun h200 => ?_)
          refine am_bind_congr fun r201 => ?_
          show am_Ex d 306 251 [(2, -1), (2, x1), (2, x2), (0, x3)] [(0, r201.1), (0, r195.1)] r201.2 = _
          refine (am_i_eq rfl).trans (am_if_congr (fun c202 => ?_) (fun c202 => ?_))
          · exact (am_e5 rfl).trans rfl
          · refine (am_e0 rfl rfl).trans ?_
            exact (am_e4i rfl rfl).trans rfl
        · refine (am_e0 rfl rfl).trans ?_
          refine (am_e1 rfl rfl).trans ?_
          refine (am_cal3 (z := 227) (k := 4) (c := (am_ob x2 11)) rfl rfl rfl rfl rfl rfl rfl rfl).trans (am_g_congr fun h203 => ?_)
          refine am_bind_congr fun r204 => ?_
          show am_Ex d 306 251 [(2, -1), (2, x1), (2, x2), (0, x3)] [(0, r204.1), (0, r195.1)] r204.2 = _
          refine (am_i_eq rfl).trans (am_if_congr (fun c205 => ?_) (fun c205 => ?_))
          · exact (am_e5 rfl).trans rfl
          · refine (am_e0 rfl rfl).trans ?_
            exact (am_e4i rfl rfl).trans rfl
    refine (am_sw_c).trans (am_if_congr (fun c206 => ?_) (fun c206 => ?_))
    · refine (am_e0 rfl rfl).trans ?_
      refine (am_e0 rfl rfl).trans ?_
      refine (am_e0 rfl rfl).trans ?_
      refine (am_e0 rfl rfl).trans ?_
      refine (am_e0 rfl rfl).trans ?_
      refine (am_e6i rfl).trans (am_g_congr fun h207 => ?_)
      refine (am_e0 rfl rfl).trans ?_
      refine (am_e0 rfl rfl).trans ?_
      refine (am_e0 rfl rfl).trans ?_
      refine (am_e0 rfl rfl).trans ?_
      refine (am_e6i rfl).trans (am_g_congr fun h208 => ?_)
      refine (am_cal3 (z := 186) (k := 3) (c := (am_ob x1 10)) rfl rfl rfl rfl rfl rfl rfl rfl).trans (am_g_congr fun h209 => ?_)
      refine am_bind_congr fun r210 => ?_
      show am_Ex d 306 266 [(2, -1), (2, x1), (2, x2), (0, x3)] [(0, r210.1)] r210.2 = _
      refine (am_e0 rfl rfl).trans ?_
      refine (am_e0 rfl rfl).trans ?_
      refine (am_e0 rfl rfl).trans ?_
      refine (am_e0 rfl rfl).trans ?_
      refine (am_e0 rfl rfl).trans ?_
      refine (am_e6i rfl).trans (am_g_congr fun h211 => ?_)
      refine (am_e0 rfl rfl).trans ?_
      refine (am_e0 rfl rfl).trans ?_
      refine (am_e0 rfl rfl).trans ?_
      refine (am_e0 rfl rfl).trans ?_
      refine (am_e6i rfl).trans (am_g_congr fun h212 => ?_)
      refine (am_cal3 (z := 228) (k := 3) (c := (am_ob x2 11)) rfl rfl rfl rfl rfl rfl rfl rfl).trans (am_g_congr fun h213 => ?_)
      refine am_bind_congr fun r214 => ?_
      show am_Ex d 306 278 [(2, -1), (2, x1), (2, x2), (0, x3)] [(0, r214.1), (0, r210.1)] r214.2 = _
      refine (am_i_eq rfl).trans (am_if_congr (fun c215 => ?_) (fun c215 => ?_))
      · exact (am_e5 rfl).trans rfl
      · refine (am_e0 rfl rfl).trans ?_
        exact (am_e4i rfl rfl).trans rfl
    refine (am_sw_c).trans (am_if_congr (fun c216 => ?_) (fun c216 => ?_))
    · refine (am_e0 rfl rfl).trans ?_
      refine (am_e0 rfl rfl).trans ?_
      refine (am_e0 rfl rfl).trans ?_
      refine (am_e0 rfl rfl).trans ?_
      refine (am_e0 rfl rfl).trans ?_
      refine (am_e6i rfl).trans (am_g_congr fun h217 => ?_)
      refine (am_e0 rfl rfl).trans ?_
      refine (am_e0 rfl rfl).trans ?_
      refine (am_e0 rfl rfl).trans ?_
      refine (am_e0 rfl rfl).trans ?_
      refine (am_e6i rfl).trans (am_g_congr fun h218 => ?_)
      refine (am_cal3 (z := 213) (k := 3) (c := (am_ob x1 10)) rfl rfl rfl rfl rfl rfl rfl rfl).trans (am_g_congr fun h219 => ?_)
      refine am_bind_congr fun r220 => ?_
      show am_Ex d 306 293 [(2, -1), (2, x1), (2, x2), (0, x3)] [(0, r220.1)] r220.2 = _
      refine (am_e0 rfl rfl).trans ?_
      refine (am_e0 rfl rfl).trans ?_
      refine (am_e0 rfl rfl).trans ?_
      refine (am_e0 rfl rfl).trans ?_
      refine (am_e0 rfl rfl).trans ?_
      refine (am_e6i rfl).trans (am_g_congr fun h221 => ?_)
      refine (am_e0 rfl rfl).trans ?_
      refine (am_e0 rfl rfl).trans ?_
      refine (am_e0 rfl rfl).trans ?_
      refine (am_e0 rfl rfl).trans ?_
      refine (am_e6i rfl).trans (am_g_congr fun h222 => ?_)
      refine (am_cal3 (z := 229) (k := 3) (c := (am_ob x2 11)) rfl rfl rfl rfl rfl rfl rfl rfl).trans (am_g_congr fun h223 => ?_)
      refine am_bind_congr fun r224 => ?_
      show am_Ex d 306 305 [(2, -1), (2, x1), (2, x2), (0, x3)] [(0, r224.1), (0, r220.1)] r224.2 = _
      refine (am_i_eq rfl).trans (am_if_congr (fun c225 => ?_) (fun c225 => ?_))
      · exact (am_e5 rfl).trans rfl
      · refine (am_e0 rfl rfl).trans ?_
        exact (am_e4i rfl rfl).trans rfl
    refine (am_sw_c).trans (am_if_congr (fun c226 => ?_) (fun c226 => ?_))
    · refine (am_e0 rfl rfl).trans ?_
      refine (am_e0 rfl rfl).trans ?_
      refine (am_e0 rfl rfl).trans ?_
      refine (am_e0 rfl rfl).trans ?_
      refine (am_e0 rfl rfl).trans ?_
      refine (am_e6i rfl).trans (am_g_congr fun h227 => ?_)
      refine (am_cal3 (z := 261) (k := 2) (c := (am_ob x1 10)) rfl rfl rfl rfl rfl rfl rfl rfl).trans (am_g_congr fun h228 => ?_)
      refine am_bind_congr fun r229 => ?_
      show am_Ex d 306 315 [(2, -1), (2, x1), (2, x2), (0, x3)] [(0, r229.1)] r229.2 = _
      refine (am_e0 rfl rfl).trans ?_
      refine (am_e0 rfl rfl).trans ?_
      refine (am_e0 rfl rfl).trans ?_
      refine (am_e0 rfl rfl).trans ?_
      refine (am_e0 rfl rfl).trans ?_
      refine (am_e6i rfl).trans (am_g_congr fun h230 => ?_)
      refine (am_cal3 (z := 284) (k := 2) (c := (am_ob x2 11)) rfl rfl rfl rfl rfl rfl rfl rfl).trans (am_g_congr fun h231 => ?_)
      refine am_bind_congr fun r232 => ?_
      show am_Ex d 306 322 [(2, -1), (2, x1), (2, x2), (0, x3)] [(0, r232.1), (0, r229.1)] r232.2 = _
      refine (am_i_eq rfl).trans (am_if_congr (fun c233 => ?_) (fun c233 => ?_))
      · exact (am_e5 rfl).trans rfl
      · refine (am_e0 rfl rfl).trans ?_
        exact (am_e4i rfl rfl).trans rfl
    refine (am_sw_c).trans (am_if_congr (fun c234 => ?_) (fun c234 => ?_))
    · refine (am_e0 rfl rfl).trans ?_
      refine (am_e0 rfl rfl).trans ?_
      refine (am_e0 rfl rfl).trans ?_
      refine (am_e0 rfl rfl).trans ?_
      refine (am_e0 rfl rfl).trans ?_
      refine (am_e6i rfl).trans (am_g_congr fun h235 => ?_)
      refine (am_cal3 (z := 289) (k := 2) (c := (am_ob x1 10)) rfl rfl rfl rfl rfl rfl rfl rfl).trans (am_g_congr fun h236 => ?_)
      refine am_bind_congr fun r237 => ?_
      show am_Ex d 306 332 [(2, -1), (2, x1), (2, x2), (0, x3)] [(0, r237.1)] r237.2 = _
      refine (am_e0 rfl rfl).trans ?_
      refine (am_e0 rfl rfl).trans ?_
      refine (am_e0 rfl rfl).trans ?_
      refine (am_e0 rfl rfl).trans ?_
      refine (am_e0 rfl rfl).trans ?_
      refine (am_e6i rfl).trans (am_g_congr fun h238 => ?_)
      refine (am_cal3 (z := 301) (k := 2) (c := (am_ob x2 11)) rfl rfl rfl rfl rfl rfl rfl rfl).trans (am_g_congr fun h239 => ?_)
      refine am_bind_congr fun r240 => ?_
      show am_Ex d 306 339 [(2, -1), (2, x1), (2, x2), (0, x3)] [(0, r240.1), (0, r237.1)] r240.2 = _
      refine (am_i_eq rfl).trans (am_if_congr (fun c241 => ?_) (fun c241 => ?_))
      · exact (am_e5 rfl).trans rfl
      · refine (am_e0 rfl rfl).trans ?_
        exact (am_e4i rfl rfl).trans rfl
    refine (am_sw_c).trans (am_if_congr (fun c242 => ?_) (fun c242 => ?_))
    · refine (am_e0 rfl rfl).trans ?_
      refine (am_e0 rfl rfl).trans ?_
      refine (am_e0 rfl rfl).trans ?_
      refine (am_e0 rfl rfl).trans ?_
      refine (am_e0 rfl rfl).trans ?_
      refine (am_e6i rfl).trans (am_g_congr fun h243 => ?_)
      refine (am_e0 rfl rfl).trans ?_
      refine (am_e0 rfl rfl).trans ?_
      refine (am_e0 rfl rfl).trans ?_
      refine (am_e0 rfl rfl).trans ?_
      refine (am_e6i rfl).trans (am_g_congr fun h244 => ?_)
      refine (am_cal3 (z := 290) (k := 3) (c := (am_ob x1 10)) rfl rfl rfl rfl rfl rfl rfl rfl).trans (am_g_congr fun h245 => ?_)
      refine am_bind_congr fun r246 => ?_
      show am_Ex d 306 354 [(2, -1), (2, x1), (2, x2), (0, x3)] [(0, r246.1)] r246.2 = _
      refine (am_e0 rfl rfl).trans ?_
      refine (am_e0 rfl rfl).trans ?_
      refine (am_e0 rfl rfl).trans ?_
      refine (am_e0 rfl rfl).trans ?_
      refine (am_e0 rfl rfl).trans ?_
      refine (am_e6i rfl).trans (am_g_congr fun h247 => ?_)
      refine (am_e0 rfl rfl).trans ?_
      refine (am_e0 rfl rfl).trans ?_
      refine (am_e0 rfl rfl).trans ?_
      refine (am_e0 rfl rfl).trans ?_
      refine (am_e6i rfl).trans (am_g_congr fun h248 => ?_)
      refine (am_cal3 (z := 303) (k := 3) (c := (am_ob x2 11)) rfl rfl rfl rfl rfl rfl rfl rfl).trans (am_g_congr fun h249 => ?_)
      refine am_bind_congr fun r250 => ?_
      show am_Ex d 306 366 [(2, -1), (2, x1), (2, x2), (0, x3)] [(0, r250.1), (0, r246.1)] r250.2 = _
      refine (am_i_eq rfl).trans (am_if_congr (fun c251 => ?_) (fun c251 => ?_))
      · exact (am_e5 rfl).trans rfl
      · refine (am_e0 rfl rfl).trans ?_
        exact (am_e4i rfl rfl).trans rfl
    refine (am_sw_c).trans (am_if_congr (fun c252 => ?_) (fun c252 => ?_))
    · refine (am_e0 rfl rfl).trans ?_
      refine (am_e0 rfl rfl).trans ?_
      refine (am_e0 rfl rfl).trans ?_
      refine (am_e0 rfl rfl).trans ?_
      refine (am_e0 rfl rfl).trans ?_
      refine (am_e6i rfl).trans (am_g_congr fun h253 => ?_)
      refine (am_e0 rfl rfl).trans ?_
      refine (am_e0 rfl rfl).trans ?_
      refine (am_e0 rfl rfl).trans ?_
      refine (am_e0 rfl rfl).trans ?_
      refine (am_e6i rfl).trans (am_g_congr fun h254 => ?_)
      refine (am_e0 rfl rfl).trans ?_
      refine (am_e0 rfl rfl).trans ?_
      refine (am_e0 rfl rfl).trans ?_
      refine (am_e0 rfl rfl).trans ?_
      refine (am_e6i rfl).trans (am_g_congr fun h255 => ?_)
      refine (am_e0 rfl rfl).trans ?_
      refine (am_e0 rfl rfl).trans ?_
      refine (am_e0 rfl rfl).trans ?_
      refine (am_e0 rfl rfl).trans ?_
      refine (am_e6i rfl).trans (am_g_congr fun h256 => ?_)
      refine (am_e0 rfl rfl).trans ?_
      refine (am_e0 rfl rfl).trans ?_
      refine (am_e0 rfl rfl).trans ?_
      refine (am_e0 rfl rfl).trans ?_
      refine (am_e6i rfl).trans (am_g_congr fun h257 => ?_)
      refine (am_cal3 (z := 138) (k := 6) (c := (am_ob x1 10)) rfl rfl rfl rfl rfl rfl rfl rfl).trans (am_g_congr fun h258 => ?_)
      refine am_bind_congr fun r259 => ?_
      show am_Ex d 306 396 [(2, -1), (2, x1), (2, x2), (0, x3)] [(0, r259.1)] r259.2 = _
      refine (am_e0 rfl rfl).trans ?_
      refine (am_e0 rfl rfl).trans ?_
      refine (am_e0 rfl rfl).trans ?_
      refine (am_e0 rfl rfl).trans ?_
      refine (am_e0 rfl rfl).trans ?_
      refine (am_e6i rfl).trans (am_g_congr fun h260 => ?_)
      refine (am_e0 rfl rfl).trans ?_
      refine (am_e0 rfl rfl).trans ?_
      refine (am_e0 rfl rfl).trans ?_
      refine (am_e0 rfl rfl).trans ?_
      refine (am_e6i rfl).trans (am_g_congr fun h261 => ?_)
      refine (am_e0 rfl rfl).trans ?_
      refine (am_e0 rfl rfl).trans ?_
      refine (am_e0 rfl rfl).trans ?_
      refine (am_e0 rfl rfl).trans ?_
      refine (am_e6i rfl).trans (am_g_congr fun h262 => ?_)
      refine (am_e0 rfl rfl).trans ?_
      refine (am_e0 rfl rfl).trans ?_
      refine (am_e0 rfl rfl).trans ?_
      refine (am_e0 rfl rfl).trans ?_
      refine (am_e6i rfl).trans (am_g_congr fun h263 => ?_)
      refine (am_e0 rfl rfl).trans ?_
      refine (am_e0 rfl rfl).trans ?_
      refine (am_e0 rfl rfl).trans ?_
      refine (am_e0 rfl rfl).trans ?_
      refine (am_e6i rfl).trans (am_g_congr fun h264 => ?_)
      refine (am_cal3 (z := 149) (k := 6) (c := (am_ob x2 11)) rfl rfl rfl rfl rfl rfl rfl rfl).trans (am_g_congr fun h265 => ?_)
      refine am_bind_congr fun r266 => ?_
      show am_Ex d 306 423 [(2, -1), (2, x1), (2, x2), (0, x3)] [(0, r266.1), (0, r259.1)] r266.2 = _
      refine (am_i_eq rfl).trans (am_if_congr (fun c267 => ?_) (fun c267 => ?_))
      · exact (am_e5 rfl).trans rfl
      · refine (am_e0 rfl rfl).trans ?_
        exact (am_e4i rfl rfl).trans rfl
    refine (am_sw_c).trans (am_if_congr (fun c268 => ?_) (fun c268 => ?_))
    · refine (am_e0 rfl rfl).trans ?_
      refine (am_e0 rfl rfl).trans ?_
      refine (am_e0 rfl rfl).trans ?_
      refine (am_e0 rfl rfl).trans ?_
      refine (am_e0 rfl rfl).trans ?_
      refine (am_e6i rfl).trans (am_g_congr fun h269 => ?_)
      refine (am_cal3 (z := 61) (k := 2) (c := (am_ob x1 10)) rfl rfl rfl rfl rfl rfl rfl rfl).trans (am_g_congr fun h270 => ?_)
      refine am_bind_congr fun r271 => ?_
      show am_Ex d 306 433 [(2, -1), (2, x1), (2, x2), (0, x3)] [(0, r271.1)] r271.2 = _
      refine (am_e0 rfl rfl).trans ?_
      refine (am_e0 rfl rfl).trans ?_
      refine (am_e0 rfl rfl).trans ?_
      refine (am_e0 rfl rfl).trans ?_
      refine (am_e0 rfl rfl).trans ?_
      refine (am_e6i rfl).trans (am_g_congr fun h272 => ?_)
      refine (am_cal3 (z := 150) (k := 2) (c := (am_ob x2 11)) rfl rfl rfl rfl rfl rfl rfl rfl).trans (am_g_congr fun h273 => ?_)
      refine am_bind_congr fun r274 => ?_
      show am_Ex d 306 440 [(2, -1), (2, x1), (2, x2), (0, x3)] [(0, r274.1), (0, r271.1)] r274.2 = _
      refine (am_i_eq rfl).trans (am_if_congr (fun c275 => ?_) (fun c275 => ?_))
      · exact (am_e5 rfl).trans rfl
      · refine (am_e0 rfl rfl).trans ?_
        exact (am_e4i rfl rfl).trans rfl
    refine (am_sw_c).trans (am_if_congr (fun c276 => ?_) (fun c276 => ?_))
    · refine (am_e0 rfl rfl).trans ?_
      refine (am_cal3 (z := 300) (k := 1) (c := (am_ob x1 10)) rfl rfl rfl rfl rfl rfl rfl rfl).trans (am_g_congr fun h277 => ?_)
      refine am_bind_congr fun r278 => ?_
      show am_Ex d 306 445 [(2, -1), (2, x1), (2, x2), (0, x3)] [(0, r278.1)] r278.2 = _
      refine (am_e0 rfl rfl).trans ?_
      refine (am_cal3 (z := 295) (k := 1) (c := (am_ob x2 11)) rfl rfl rfl rfl rfl rfl rfl rfl).trans (am_g_congr fun h279 => ?_)
      refine am_bind_congr fun r280 => ?_
      show am_Ex d 306 447 [(2, -1), (2, x1), (2, x2), (0, x3)] [(0, r280.1), (0, r278.1)] r280.2 = _
      refine (am_i_eq rfl).trans (am_if_congr (fun c281 => ?_) (fun c281 => ?_))
      · exact (am_e5 rfl).trans rfl
      · refine (am_e0 rfl rfl).trans ?_
        exact (am_e4i rfl rfl).trans rfl
    refine (am_sw_c).trans (am_if_congr (fun c282 => ?_) (fun c282 => ?_))
    · refine (am_e0 rfl rfl).trans ?_
      refine (am_e0 rfl rfl).trans ?_
      refine (am_e0 rfl rfl).trans ?_
      refine (am_e0 rfl rfl).trans ?_
      refine (am_e0 rfl rfl).trans ?_
      refine (am_e6i rfl).trans (am_g_congr fun h283 => ?_)
      refine (am_cal3 (z := 62) (k := 2) (c := (am_ob x1 10)) rfl rfl rfl rfl rfl rfl rfl rfl).trans (am_g_congr fun h284 => ?_)
      refine am_bind_congr fun r285 => ?_
      show am_Ex d 306 457 [(2, -1), (2, x1), (2, x2), (0, x3)] [(0, r285.1)] r285.2 = _
      refine (am_e0 rfl rfl).trans ?_
      refine (am_e0 rfl rfl).trans ?_
      refine (am_e0 rfl rfl).trans ?_
      refine (am_e0 rfl rfl).trans ?_
      refine (am_e0 rfl rfl).trans ?_
      refine (am_e6i rfl).trans (am_g_congr fun h286 => ?_)
      refine (am_cal3 (z := 83) (k := 2) (c := (am_ob x2 11)) rfl rfl rfl rfl rfl rfl rfl rfl).trans (am_g_congr fun h287 => ?_)
      refine am_bind_congr fun r288 => ?_
      show am_Ex d 306 464 [(2, -1), (2, x1), (2, x2), (0, x3)] [(0, r288.1), (0, r285.1)] r288.2 = _
      refine (am_i_eq rfl).trans (am_if_congr (fun c289 => ?_) (fun c289 => ?_))
      · exact (am_e5 rfl).trans rfl
      · refine (am_e0 rfl rfl).trans ?_
        exact (am_e4i rfl rfl).trans rfl
    refine (am_sw_c).trans (am_if_congr (fun c290 => ?_) (fun c290 => ?_))
    · refine (am_e0 rfl rfl).trans ?_
      refine (am_e0 rfl rfl).trans ?_
      refine (am_e0 rfl rfl).trans ?_
      refine (am_e0 rfl rfl).trans ?_
      refine (am_e0 rfl rfl).trans ?_
      refine (am_e6i rfl).trans (am_g_congr fun h291 => ?_)
      refine (am_cal3 (z := 139) (k := 2) (c := (am_ob x1 10)) rfl rfl rfl rfl rfl rfl rfl rfl).trans (am_g_congr fun h292 => ?_)
      refine am_bind_congr fun r293 => ?_
      show am_Ex d 306 474 [(2, -1), (2, x1), (2, x2), (0, x3)] [(0, r293.1)] r293.2 = _
      refine (am_e0 rfl rfl).trans ?_
      refine (am_e0 rfl rfl).trans ?_
      refine (am_e0 rfl rfl).trans ?_
      refine (am_e0 rfl rfl).trans ?_
      refine (am_e0 rfl rfl).trans ?_
      refine (am_e6i rfl).trans (am_g_congr fun h294 => ?_)
      refine (am_cal3 (z := 156) (k := 2) (c := (am_ob x2 11)) rfl rfl rfl rfl rfl rfl rfl rfl).trans (am_g_congr fun h295 => ?_)
      refine am_bind_congr fun r296 => ?_
      show am_Ex d 306 481 [(2, -1), (2, x1), (2, x2), (0, x3)] [(0, r296.1), (0, r293.1)] r296.2 = _
      refine (am_i_eq rfl).trans (am_if_congr (fun c297 => ?_) (fun c297 => ?_))
      · exact (am_e5 rfl).trans rfl
      · refine (am_e0 rfl rfl).trans ?_
        exact (am_e4i rfl rfl).trans rfl
    refine (am_sw_c).trans (am_if_congr (fun c298 => ?_) (fun c298 => ?_))
    · refine (am_e0 rfl rfl).trans ?_
      refine (am_e0 rfl rfl).trans ?_
      refine (am_e0 rfl rfl).trans ?_
      refine (am_e0 rfl rfl).trans ?_
      refine (am_e0 rfl rfl).trans ?_
      refine (am_e6i rfl).trans (am_g_congr fun h299 => ?_)
      refine (am_cal3 (z := 291) (k := 2) (c := (am_ob x1 10)) rfl rfl rfl rfl rfl rfl rfl rfl).trans (am_g_congr fun h300 => ?_)
      refine am_bind_congr fun r301 => ?_
      show am_Ex d 306 491 [(2, -1), (2, x1), (2, x2), (0, x3)] [(0, r301.1)] r301.2 = _
      refine (am_e0 rfl rfl).trans ?_
      refine (am_e0 rfl rfl).trans ?_
      refine (am_e0 rfl rfl).trans ?_
      refine (am_e0 rfl rfl).trans ?_
      refine (am_e0 rfl rfl).trans ?_
      refine (am_e6i rfl).trans (am_g_congr fun h302 => ?_)
      refine (am_cal3 (z := 305) (k := 2) (c := (am_ob x2 11)) rfl rfl rfl rfl rfl rfl rfl rfl).trans (am_g_congr fun h303 => ?_)
      refine am_bind_congr fun r304 => ?_
      show am_Ex d 306 498 [(2, -1), (2, x1), (2, x2), (0, x3)] [(0, r304.1), (0, r301.1)] r304.2 = _
      refine (am_i_eq rfl).trans (am_if_congr (fun c305 => ?_) (fun c305 => ?_))
      · exact (am_e5 rfl).trans rfl
      · refine (am_e0 rfl rfl).trans ?_
        exact (am_e4i rfl rfl).trans rfl
    refine (am_sw_c).trans (am_if_congr (fun c306 => ?_) (fun c306 => ?_))
    · refine (am_e0 rfl rfl).trans ?_
      refine (am_cal3 (z := 187) (k := 1) (c := (am_ob x1 10)) rfl rfl rfl rfl rfl rfl rfl rfl).trans (am_g_congr fun h307 => ?_)
      refine am_bind_congr fun r308 => ?_
      show am_Ex d 306 503 [(2, -1), (2, x1), (2, x2), (0, x3)] [(0, r308.1)] r308.2 = _
      refine (am_e0 rfl rfl).trans ?_
      refine (am_cal3 (z := 69) (k := 1) (c := (am_ob x2 11)) rfl rfl rfl rfl rfl rfl rfl rfl).trans (am_g_congr fun h309 => ?_)
      refine am_bind_congr fun r310 => ?_
      show am_Ex d 306 505 [(2, -1), (2, x1), (2, x2), (0, x3)] [(0, r310.1), (0, r308.1)] r310.2 = _
      refine (am_i_eq rfl).trans (am_if_congr (fun c311 => ?_) (fun c311 => ?_))
      · exact (am_e5 rfl).trans rfl
      · refine (am_e0 rfl rfl).trans ?_
        exact (am_e4i rfl rfl).trans rfl
    refine (am_sw_c).trans (am_if_congr (fun c312 => ?_) (fun c312 => ?_))
    · refine (am_e0 rfl rfl).trans ?_
      refine (am_e0 rfl rfl).trans ?_
      refine (am_e0 rfl rfl).trans ?_
      refine (am_e0 rfl rfl).trans ?_
      refine (am_e0 rfl rfl).trans ?_
      refine (am_e6i rfl).trans (am_g_congr fun h313 => ?_)
      refine (am_e0 rfl rfl).trans ?_
      refine (am_e0 rfl rfl).trans ?_
      refine (am_e0 rfl rfl).trans ?_
      refine (am_e0 rfl rfl).trans ?_
      refine (am_e6i rfl).trans (am_g_congr fun h314 => ?_)
      refine (am_cal3 (z := 243) (k := 3) (c := (am_ob x1 10)) rfl rfl rfl rfl rfl rfl rfl rfl).trans (am_g_congr fun h315 => ?_)
      refine am_bind_congr fun r316 => ?_
      show am_Ex d 306 520 [(2, -1), (2, x1), (2, x2), (0, x3)] [(0, r316.1)] r316.2 = _
      refine (am_e0 rfl rfl).trans ?_
      refine (am_e0 rfl rfl).trans ?_
      refine (am_e0 rfl rfl).trans ?_
      refine (am_e0 rfl rfl).trans ?_
      refine (am_e0 rfl rfl).trans ?_
      refine (am_e6i rfl).trans (am_g_congr fun h317 => ?_)
      refine (am_e0 rfl rfl).trans ?_
      refine (am_e0 rfl rfl).trans ?_
      refine (am_e0 rfl rfl).trans ?_
      refine (am_e0 rfl rfl).trans ?_
      refine (am_e6i rfl).trans (am_g_congr fun h318 => ?_)
      refine (am_cal3 (z := 267) (k := 3) (c := (am_ob x2 11)) rfl rfl rfl rfl rfl rfl rfl rfl).trans (am_g_congr fun h319 => ?_)
      refine am_bind_congr fun r320 => ?_
      show am_Ex d 306 532 [(2, -1), (2, x1), (2, x2), (0, x3)] [(0, r320.1), (0, r316.1)] r320.2 = _
      refine (am_i_eq rfl).trans (am_if_congr (fun c321 => ?_) (fun c321 => ?_))
      · exact (am_e5 rfl).trans rfl
      · refine (am_e0 rfl rfl).trans ?_
        exact (am_e4i rfl rfl).trans rfl
    refine (am_sw_c).trans (am_if_congr (fun c322 => ?_) (fun c322 => ?_))
    · refine (am_e0 rfl rfl).trans ?_
      refine (am_e0 rfl rfl).trans ?_
      refine (am_e0 rfl rfl).trans ?_
      refine (am_e0 rfl rfl).trans ?_
      refine (am_e0 rfl rfl).trans ?_
      refine (am_e6i rfl).trans (am_g_congr fun h323 => ?_)
      refine (am_e0 rfl rfl).trans ?_
      refine (am_e0 rfl rfl).trans ?_
      refine (am_e0 rfl rfl).trans ?_
      refine (am_e0 rfl rfl).trans ?_
      refine (am_e6i rfl).trans (am_g_congr fun h324 => ?_)
      refine (am_e0 rfl rfl).trans ?_
      refine (am_e0 rfl rfl).trans ?_
      refine (am_e0 rfl rfl).trans ?_
      refine (am_e0 rfl rfl).trans ?_
      refine (am_e6i rfl).trans (am_g_congr fun h325 => ?_)
      refine (am_cal3 (z := 214) (k := 4) (c := (am_ob x1 10)) rfl rfl rfl rfl rfl rfl rfl rfl).trans (am_g_congr fun h326 => ?_)
      refine am_bind_congr fun r327 => ?_
      show am_Ex d 306 552 [(2, -1), (2, x1), (2, x2), (0, x3)] [(0, r327.1)] r327.2 = _
      refine (am_e0 rfl rfl).trans ?_
      refine (am_e0 rfl rfl).trans ?_
      refine (am_e0 rfl rfl).trans ?_
      refine (am_e0 rfl rfl).trans ?_
      refine (am_e0 rfl rfl).trans ?_
      refine (am_e6i rfl).trans (am_g_congr fun h328 => ?_)
      refine (am_e0 rfl rfl).trans ?_
      refine (am_e0 rfl rfl).trans ?_
      refine (am_e0 rfl rfl).trans ?_
      refine (am_e0 rfl rfl).trans ?_
      refine (am_e6i rfl).trans (am_g_congr fun h329 => ?_)
      refine (am_e0 rfl rfl).trans ?_
      refine (am_e0 rfl rfl).trans ?_
      refine (am_e0 rfl rfl).trans ?_
      refine (am_e0 rfl rfl).trans ?_
      refine (am_e6i rfl).trans (am_g_congr fun h330 => ?_)
      refine (am_cal3 (z := 255) (k := 4) (c := (am_ob x2 11)) rfl rfl rfl rfl rfl rfl rfl rfl).trans (am_g_congr fun h331 => ?_)
      refine am_bind_congr fun r332 => ?_
      show am_Ex d 306 569 [(2, -1), (2, x1), (2, x2), (0, x3)] [(0, r332.1), (0, r327.1)] r332.2 = _
      refine (am_i_eq rfl).trans (am_if_congr (fun c333 => ?_) (fun c333 => ?_))
      · exact (am_e5 rfl).trans rfl
      · refine (am_e0 rfl rfl).trans ?_
        exact (am_e4i rfl rfl).trans rfl
    refine (am_sw_c).trans (am_if_congr (fun c334 => ?_) (fun c334 => ?_))
    · refine (am_e0 rfl rfl).trans ?_
      refine (am_e0 rfl rfl).trans ?_
      refine (am_e0 rfl rfl).trans ?_
      refine (am_e0 rfl rfl).trans ?_
      refine (am_e0 rfl rfl).trans ?_
      refine (am_e6i rfl).trans (am_g_congr fun h335 => ?_)
      refine (am_e0 rfl rfl).trans ?_
      refine (am_e0 rfl rfl).trans ?_
      refine (am_e0 rfl rfl).trans ?_
      refine (am_e0 rfl rfl).trans ?_
      refine (am_e6i rfl).trans (am_g_congr fun h336 => ?_)
      refine (am_cal3 (z := 188) (k := 3) (c := (am_ob x1 10)) rfl rfl rfl rfl rfl rfl rfl rfl).trans (am_g_congr fun h337 => ?_)
      refine am_bind_congr fun r338 => ?_
      show am_Ex d 306 584 [(2, -1), (2, x1), (2, x2), (0, x3)] [(0, r338.1)] r338.2 = _
      refine (am_e0 rfl rfl).trans ?_
      refine (am_e0 rfl rfl).trans ?_
      refine (am_e0 rfl rfl).trans ?_
      refine (am_e0 rfl rfl).trans ?_
      refine (am_e0 rfl rfl).trans ?_
      refine (am_e6i rfl).trans (am_g_congr fun h339 => ?_)
      refine (am_e0 rfl rfl).trans ?_
      refine (am_e0 rfl rfl).trans ?_
      refine (am_e0 rfl rfl).trans ?_
      refine (am_e0 rfl rfl).trans ?_
      refine (am_e6i rfl).trans (am_g_congr fun h340 => ?_)
      refine (am_cal3 (z := 198) (k := 3) (c := (am_ob x2 11)) rfl rfl rfl rfl rfl rfl rfl rfl).trans (am_g_congr fun h341 => ?_)
      refine am_bind_congr fun r342 => ?_
      show am_Ex d 306 596 [(2, -1), (2, x1), (2, x2), (0, x3)] [(0, r342.1), (0, r338.1)] r342.2 = _
      refine (am_i_eq rfl).trans (am_if_congr (fun c343 => ?_) (fun c343 => ?_))
      · exact (am_e5 rfl).trans rfl
      · refine (am_e0 rfl rfl).trans ?_
        exact (am_e4i rfl rfl).trans rfl
    refine (am_sw_c).trans (am_if_congr (fun c344 => ?_) (fun c344 => ?_))
    · refine (am_e0 rfl rfl).trans ?_
      refine (am_e0 rfl rfl).trans ?_
      refine (am_e0 rfl rfl).trans ?_
      refine (am_e0 rfl rfl).trans ?_
      refine (am_e0 rfl rfl).trans ?_
      refine (am_e6i rfl).trans (am_g_congr fun h345 => ?_)
      refine (am_e0 rfl rfl).trans ?_
      refine (am_e0 rfl rfl).trans ?_
      refine (am_e0 rfl rfl).trans ?_
      refine (am_e0 rfl rfl).trans ?_
      refine (am_e6i rfl).trans (am_g_congr fun h346 => ?_)
      refine (am_cal3 (z := 292) (k := 3) (c := (am_ob x1 10)) rfl rfl rfl rfl rfl rfl rfl rfl).trans (am_g_congr fun h347 => ?_)
      refine am_bind_congr fun r348 => ?_
      show am_Ex d 306 611 [(2, -1), (2, x1), (2, x2), (0, x3)] [(0, r348.1)] r348.2 = _
      refine (am_e0 rfl rfl).trans ?_
      refine (am_e0 rfl rfl).trans ?_
      refine (am_e0 rfl rfl).trans ?_
      refine (am_e0 rfl rfl).trans ?_
      refine (am_e0 rfl rfl).trans ?_
      refine (am_e6i rfl).trans (am_g_congr fun h349 => ?_)
      refine (am_e0 rfl rfl).trans ?_
      refine (am_e0 rfl rfl).trans ?_
      refine (am_e0 rfl rfl).trans ?_
      refine (am_e0 rfl rfl).trans ?_
      refine (am_e6i rfl).trans (am_g_congr fun h350 => ?_)
      refine (am_cal3 (z := 297) (k := 3) (c := (am_ob x2 11)) rfl rfl rfl rfl rfl rfl rfl rfl).trans (am_g_congr fun h351 => ?_)
      refine am_bind_congr fun r352 => ?_
      show am_Ex d 306 623 [(2, -1), (2, x1), (2, x2), (0, x3)] [(0, r352.1), (0, r348.1)] r352.2 = _
      refine (am_i_eq rfl).trans (am_if_congr (fun c353 => ?_) (fun c353 => ?_))
      · exact (am_e5 rfl).trans rfl
      · refine (am_e0 rfl rfl).trans ?_
        exact (am_e4i rfl rfl).trans rfl
    refine (am_sw_c).trans (am_if_congr (fun c354 => ?_) (fun c354 => ?_))
    · refine (am_e0 rfl rfl).trans ?_
      refine (am_e0 rfl rfl).trans ?_
      refine (am_e0 rfl rfl).trans ?_
      refine (am_e0 rfl rfl).trans ?_
      refine (am_e0 rfl rfl).trans ?_
      refine (am_e6i rfl).trans (am_g_congr fun h355 => ?_)
      refine (am_e0 rfl rfl).trans ?_
      refine (am_e0 rfl rfl).trans ?_
      refine (am_e0 rfl rfl).trans ?_
      refine (am_e0 rfl rfl).trans ?_
      refine (am_e6i rfl).trans (am_g_congr fun h356 => ?_)
      refine (am_cal3 (z := 293) (k := 3) (c := (am_ob x1 10)) rfl rfl rfl rfl rfl rfl rfl rfl).trans (am_g_congr fun h357 => ?_)
      refine am_bind_congr fun r358 => ?_
      show am_Ex d 306 638 [(2, -1), (2, x1), (2, x2), (0, x3)] [(0, r358.1)] r358.2 = _
      refine (am_e0 rfl rfl).trans ?_
      refine (am_e0 rfl rfl).trans ?_
      refine (am_e0 rfl rfl).trans ?_
      refine (am_e0 rfl rfl).trans ?_
      refine (am_e0 rfl rfl).trans ?_
      refine (am_e6i rfl).trans (am_g_congr fun h359 => ?_)
      refine (am_e0 rfl rfl).trans ?_
      refine (am_e0 rfl rfl).trans ?_
      refine (am_e0 rfl rfl).trans ?_
      refine (am_e0 rfl rfl).trans ?_
      refine (am_e6i rfl).trans (am_g_congr fun h360 => ?_)
      refine (am_cal3 (z := 298) (k := 3) (c := (am_ob x2 11)) rfl rfl rfl rfl rfl rfl rfl rfl).trans (am_g_congr fun h361 => ?_)
      refine am_bind_congr fun r362 => ?_
      show am_Ex d 306 650 [(2, -1), (2, x1), (2, x2), (0, x3)] [(0, r362.1), (0, r358.1)] r362.2 = _
      refine (am_i_eq rfl).trans (am_if_congr (fun c363 => ?_) (fun c363 => ?_))
      · exact (am_e5 rfl).trans rfl
      · refine (am_e0 rfl rfl).trans ?_
        exact (am_e4i rfl rfl).trans rfl
    refine (am_sw_c).trans (am_if_congr (fun c364 => ?_) (fun c364 => ?_))
    · refine (am_e0 rfl rfl).trans ?_
      refine (am_e0 rfl rfl).trans ?_
      refine (am_e0 rfl rfl).trans ?_
      refine (am_e0 rfl rfl).trans ?_
      refine (am_e0 rfl rfl).trans ?_
      refine (am_e6i rfl).trans (am_g_congr fun h365 => ?_)
      refine (am_e0 rfl rfl).trans ?_
      refine (am_e0 rfl rfl).trans ?_
      refine (am_e0 rfl rfl).trans ?_
      refine (am_e0 rfl rfl).trans ?_
      refine (am_e6i rfl).trans (am_g_congr fun h366 => ?_)
      refine (am_cal3 (z := 294) (k := 3) (c := (am_ob x1 10)) rfl rfl rfl rfl rfl rfl rfl rfl).trans (am_g_congr fun h367 => ?_)
      refine am_bind_congr fun r368 => ?_
      show am_Ex d 306 665 [(2, -1), (2, x1), (2, x2), (0, x3)] [(0, r368.1)] r368.2 = _
      refine (am_e0 rfl rfl).trans ?_
      refine (am_e0 rfl rfl).trans ?_
      refine (am_e0 rfl rfl).trans ?_
      refine (am_e0 rfl rfl).trans ?_
      refine (am_e0 rfl rfl).trans ?_
      refine (am_e6i rfl).trans (am_g_congr fun h369 => ?_)
      refine (am_e0 rfl rfl).trans ?_
      refine (am_e0 rfl rfl).trans ?_
      refine (am_e0 rfl rfl).trans ?_
      refine (am_e0 rfl rfl).trans ?_
      refine (am_e6i rfl).trans (am_g_congr fun h370 => ?_)
      refine (am_cal3 (z := 299) (k := 3) (c := (am_ob x2 11)) rfl rfl rfl rfl rfl rfl rfl rfl).trans (am_g_congr fun h371 => ?_)
      refine am_bind_congr fun r372 => ?_
      show am_Ex d 306 677 [(2, -1), (2, x1), (2, x2), (0, x3)] [(0, r372.1), (0, r368.1)] r372.2 = _
      refine (am_i_eq rfl).trans (am_if_congr (fun c373 => ?_) (fun c373 => ?_))
      · exact (am_e5 rfl).trans rfl
      · refine (am_e0 rfl rfl).trans ?_
        exact (am_e4i rfl rfl).trans rfl
    refine (am_sw_c).trans (am_if_congr (fun c374 => ?_) (fun c374 => ?_))
    · refine (am_e0 rfl rfl).trans ?_
      refine (am_e0 rfl rfl).trans ?_
      refine (am_e0 rfl rfl).trans ?_
      refine (am_e0 rfl rfl).trans ?_
      refine (am_e0 rfl rfl).trans ?_
      refine (am_e6i rfl).trans (am_g_congr fun h375 => ?_)
      refine (am_e0 rfl rfl).trans ?_
      refine (am_e0 rfl rfl).trans ?_
      refine (am_e0 rfl rfl).trans ?_
      refine (am_e0 rfl rfl).trans ?_
      refine (am_e6i rfl).trans (am_g_congr fun h376 => ?_)
      refine (am_e0 rfl rfl).trans ?_
      refine (am_e0 rfl rfl).trans ?_
      refine (am_e0 rfl rfl).trans ?_
      refine (am_e0 rfl rfl).trans ?_
      refine (am_e6i rfl).trans (am_g_congr fun h377 => ?_)
      refine (am_e0 rfl rfl).trans ?_
      refine (am_e0 rfl rfl).trans ?_
      refine (am_e0 rfl rfl).trans ?_
      refine (am_e0 rfl rfl).trans ?_
      refine (am_e6i rfl).trans (am_g_congr fun h378 => ?_)
      refine (am_e0 rfl rfl).trans ?_
      refine (am_e0 rfl rfl).trans ?_
      refine (am_e0 rfl rfl).trans ?_
      refine (am_e0 rfl rfl).trans ?_
      refine (am_e6i rfl).trans (am_g_congr fun h379 => ?_)
      refine (am_cal3 (z := 262) (k := 6) (c := (am_ob x1 10)) rfl rfl rfl rfl rfl rfl rfl rfl).trans (am_g_congr fun h380 => ?_)
      refine am_bind_congr fun r381 => ?_
      show am_Ex d 306 707 [(2, -1), (2, x1), (2, x2), (0, x3)] [(0, r381.1)] r381.2 = _
      refine (am_e0 rfl rfl).trans ?_
      refine (am_e0 rfl rfl).trans ?_
      refine (am_e0 rfl rfl).trans ?_
      refine (am_e0 rfl rfl).trans ?_
      refine (am_e0 rfl rfl).trans ?_
      refine (am_e6i rfl).trans (am_g_congr fun h382 => ?_)
      refine (am_e0 rfl rfl).trans ?_
      refine (am_e0 rfl rfl).trans ?_
      refine (am_e0 rfl rfl).trans ?_
      refine (am_e0 rfl rfl).trans ?_
      refine (am_e6i rfl).trans (am_g_congr fun h383 => ?_)
      refine (am_e0 rfl rfl).trans ?_
      refine (am_e0 rfl rfl).trans ?_
      refine (am_e0 rfl rfl).trans ?_
      refine (am_e0 rfl rfl).trans ?_
      refine (am_e6i rfl).trans (am_g_congr fun h384 => ?_)
      refine (am_e0 rfl rfl).trans ?_
      refine (am_e0 rfl rfl).trans ?_
      refine (am_e0 rfl rfl).trans ?_
      refine (am_e0 rfl rfl).trans ?_
      refine (am_e6i rfl).trans (am_g_congr fun h385 => ?_)
      refine (am_e0 rfl rfl).trans ?_
      refine (am_e0 rfl rfl).trans ?_
      refine (am_e0 rfl rfl).trans ?_
      refine (am_e0 rfl rfl).trans ?_
      refine (am_e6i rfl).trans (am_g_congr fun h386 => ?_)
      refine (am_cal3 (z := 285) (k := 6) (c := (am_ob x2 11)) rfl rfl rfl rfl rfl rfl rfl rfl).trans (am_g_congr fun h387 => ?_)
      refine am_bind_congr fun r388 => ?_
      show am_Ex d 306 734 [(2, -1), (2, x1), (2, x2), (0, x3)] [(0, r388.1), (0, r381.1)] r388.2 = _
      refine (am_i_eq rfl).trans (am_if_congr (fun c389 => ?_) (fun c389 => ?_))
      · exact (am_e5 rfl).trans rfl
      · refine (am_e0 rfl rfl).trans ?_
        exact (am_e4i rfl rfl).trans rfl
    refine (am_sw_c).trans (am_if_congr (fun c390 => ?_) (fun c390 => ?_))
    · refine (am_e0 rfl rfl).trans ?_
      refine (am_e0 rfl rfl).trans ?_
      refine (am_e0 rfl rfl).trans ?_
      refine (am_e0 rfl rfl).trans ?_
      refine (am_e0 rfl rfl).trans ?_
      refine (am_e6i rfl).trans (am_g_congr fun h391 => ?_)
      refine (am_e0 rfl rfl).trans ?_
      refine (am_e0 rfl rfl).trans ?_
      refine (am_e0 rfl rfl).trans ?_
      refine (am_e0 rfl rfl).trans ?_
      refine (am_e6i rfl).trans (am_g_congr fun h392 => ?_)
      refine (am_z_eq rfl).trans (am_if_congr (fun c393 => ?_) (fun c393 => ?_))
      · refine (am_e0 rfl rfl).trans ?_
        refine (am_cal3 (z := 140) (k := 3) (c := (am_ob x1 10)) rfl rfl rfl rfl rfl rfl rfl rfl).trans (am_g_congr fun h394 => ?_)
        refine am_bind_congr fun r395 => ?_
        show am_Ex d 306 753 [(2, -1), (2, x1), (2, x2), (0, x3)] [(0, r395.1)] r395.2 = _
        refine (am_e0 rfl rfl).trans ?_
        refine (am_e0 rfl rfl).trans ?_
        refine (am_e0 rfl rfl).trans ?_
        refine (am_e0 rfl rfl).trans ?_
        refine (am_e0 rfl rfl).trans ?_
        refine (am_e6i rfl).trans (am_g_congr fun h396 => ?_)
        refine (am_e0 rfl rfl).trans ?_
        refine (am_e0 rfl rfl).trans ?_
        refine (am_e0 rfl rfl).trans ?_
        refine (am_e0 rfl rfl).trans ?_
        refine (am_e6i rfl).trans (am_g_congr fun h397 => ?_)
        refine (am_z_eq rfl).trans (am_if_congr (fun c398 => ?_) (fun c398 => ?_))
        · refine (am_e0 rfl rfl).trans ?_
          refine (am_cal3 (z := 199) (k := 3) (c := (am_ob x2 11)) rfl rfl rfl rfl rfl rfl rfl rfl).trans (am_g_congr fun h399 => ?_)
          refine am_bind_congr fun r400 => ?_
          show am_Ex d 306 769 [(2, -1), (2, x1), (2, x2), (0, x3)] [(0, r400.1), (0, r395.1)] r400.2 = _
          refine (am_i_eq rfl).trans (am_if_congr (fun c401 => ?_) (fun c401 => ?_))
          · exact (am_e5 rfl).trans rfl
          · refine (am_e0 rfl rfl).trans ?_
            exact (am_e4i rfl rfl).trans rfl
        · refine (am_e0 rfl rfl).trans ?_
          refine (am_e1 rfl rfl).trans ?_
          refine (am_cal3 (z := 199) (k := 3) (c := (am_ob x2 11)) rfl rfl rfl rfl rfl rfl rfl rfl).trans (am_g_congr fun h402 => ?_)
          refine am_bind_congr fun r403 => ?_
          show am_Ex d 306 769 [(2, -1), (2, x1), (2, x2), (0, x3)] [(0, r403.1), (0, r395.1)] r403.2 = _
          refine (am_i_eq rfl).trans (am_if_congr (fun c404 => ?_) (fun c404 => ?_))
          · exact (am_e5 rfl).trans rfl
          · refine (am_e0 rfl rfl).trans ?_
            exact (am_e4i rfl rfl).trans rfl
      · refine (am_e0 rfl rfl).trans ?_
        refine (am_e1 rfl rfl).trans ?_
        refine (am_cal3 (z := 140) (k := 3) (c := (am_ob x1 10)) rfl rfl rfl rfl rfl rfl rfl rfl).trans (am_g_congr fun h405 => ?_)
        refine am_bind_congr fun r406 => ?_
        show am_Ex d 306 753 [(2, -1), (2, x1), (2, x2), (0, x3)] [(0, r406.1)] r406.2 = _
        refine (am_e0 rfl rfl).trans ?_
        refine (am_e0 rfl rfl).trans ?_
        refine (am_e0 rfl rfl).trans ?_
        refine (am_e0 rfl rfl).trans ?_
        refine (am_e0 rfl rfl).trans ?_
        refine (am_e6i rfl).trans (am_g_congr fun h407 => ?_)
        refine (am_e0 rfl rfl).trans ?_
        refine (am_e0 rfl rfl).trans ?_
        refine (am_e0 rfl rfl).trans ?_
        refine (am_e0 rfl rfl).trans ?_
        refine (am_e6i rfl).trans (am_g_congr fun h408 => ?_)
        refine (am_z_eq rfl).trans (am_if_congr (fun c409 => ?_) (fun c409 => ?_))
        · refine (am_e0 rfl rfl).trans ?_
          refine (am_cal3 (z := 199) (k := 3) (c := (am_ob x2 11)) rfl rfl rfl rfl rfl rfl rfl rfl).trans (am_g_congr fun h410 => ?_)
          refine am_bind_congr fun r411 => ?_
          show am_Ex d 306 769 [(2, -1), (2, x1), (2, x2), (0, x3)] [(0, r411.1), (0, r406.1)] r411.2 = _
          refine (am_i_eq rfl).trans (am_if_congr (fun c412 => ?_) (fun c412 => ?_))
          · exact (am_e5 rfl).trans rfl
          · refine (am_e0 rfl rfl).trans ?_
            exact (am_e4i rfl rfl).trans rfl
        · refine (am_e0 rfl rfl).trans ?_
          refine (am_e1 rfl rfl).trans ?_
          refine (am_cal3 (z := 199) (k := 3) (c := (am_ob x2 11)) rfl rfl rfl rfl rfl rfl rfl rfl).trans (am_g_congr fun h413 => ?_)
          refine am_bind_congr fun r414 => ?_
          show am_Ex d 306 769 [(2, -1), (2, x1), (2, x2), (0, x3)] [(0, r414.1), (0, r406.1)] r414.2 = _
          refine (am_i_eq rfl).trans (am_if_congr (fun c415 => ?_) (fun c415 => ?_))
          · exact (am_e5 rfl).trans rfl
          · refine (am_e0 rfl rfl).trans ?_
            exact (am_e4i rfl rfl).trans rfl
    refine (am_sw_c).trans (am_if_congr (fun c416 => ?_) (fun c416 => ?_))
    · refine (am_e0 rfl rfl).trans ?_
      refine (am_e0 rfl rfl).trans ?_
      refine (am_e0 rfl rfl).trans ?_
      refine (am_e0 rfl rfl).trans ?_
      refine (am_e0 rfl rfl).trans ?_
      refine (am_e6i rfl).trans (am_g_congr fun h417 => ?_)
      refine (am_z_eq rfl).trans (am_if_congr (fun c418 => ?_) (fun c418 => ?_))
      · refine (am_e0 rfl rfl).trans ?_
        refine (am_e0 rfl rfl).trans ?_
        refine (am_e0 rfl rfl).trans ?_
        refine (am_e0 rfl rfl).trans ?_
        refine (am_e0 rfl rfl).trans ?_
        refine (am_e6i rfl).trans (am_g_congr fun h419 => ?_)
        refine (am_cal3 (z := 215) (k := 3) (c := (am_ob x1 10)) rfl rfl rfl rfl rfl rfl rfl rfl).trans (am_g_congr fun h420 => ?_)
        refine am_bind_congr fun r421 => ?_
        show am_Ex d 306 788 [(2, -1), (2, x1), (2, x2), (0, x3)] [(0, r421.1)] r421.2 = _
        refine (am_e0 rfl rfl).trans ?_
        refine (am_e0 rfl rfl).trans ?_
        refine (am_e0 rfl rfl).trans ?_
        refine (am_e0 rfl rfl).trans ?_
        refine (am_e0 rfl rfl).trans ?_
        refine (am_e6i rfl).trans (am_g_congr fun h422 => ?_)
        refine (am_z_eq rfl).trans (am_if_congr (fun c423 => ?_) (fun c423 => ?_))
        · refine (am_e0 rfl rfl).trans ?_
          refine (am_e0 rfl rfl).trans ?_
          refine (am_e0 rfl rfl).trans ?_
          refine (am_e0 rfl rfl).trans ?_
          refine (am_e0 rfl rfl).trans ?_
          refine (am_e6i rfl).trans (am_g_congr fun h424 => ?_)
          refine (am_cal3 (z := 230) (k := 3) (c := (am_ob x2 11)) rfl rfl rfl rfl rfl rfl rfl rfl).trans (am_g_congr fun h425 => ?_)
          refine am_bind_congr fun r426 => ?_
          show am_Ex d 306 804 [(2, -1), (2, x1), (2, x2), (0, x3)] [(0, r426.1), (0, r421.1)] r426.2 = _
          refine (am_i_eq rfl).trans (am_if_congr (fun c427 => ?_) (fun c427 => ?_))
          · exact (am_e5 rfl).trans rfl
          · refine (am_e0 rfl rfl).trans ?_
            exact (am_e4i rfl rfl).trans rfl
        · refine (am_e0 rfl rfl).trans ?_
          refine (am_e1 rfl rfl).trans ?_
          refine (am_e0 rfl rfl).trans ?_
          refine (am_e0 rfl rfl).trans ?_
          refine (am_e0 rfl rfl).trans ?_
          refine (am_e0 rfl rfl).trans ?_
          refine (am_e6i rfl).trans (am_g_congr fun h428 => ?_)
          refine (am_cal3 (z := 230) (k := 3) (c := (am_ob x2 11)) rfl rfl rfl rfl rfl rfl rfl rfl).trans (am_g_congr fun h429 => ?_)
          refine am_bind_congr fun r430 => ?_
          show am_Ex d 306 804 [(2, -1), (2, x1), (2, x2), (0, x3)] [(0, r430.1), (0, r421.1)] r430.2 = _
          refine (am_i_eq rfl).trans (am_if_congr (fun c431 => ?_) (fun c431 => ?_))
          · exact (am_e5 rfl).trans rfl
          · refine (am_e0 rfl rfl).trans ?_
            exact (am_e4i rfl rfl).trans rfl
      · refine (am_e0 rfl rfl).trans ?_
        refine (am_e1 rfl rfl).trans ?_
        refine (am_e0 rfl rfl).trans ?_
        refine (am_e0 rfl rfl).trans ?_
        refine (am_e0 rfl rfl).trans ?_
        refine (am_e0 rfl rfl).trans ?_
        refine (am_e6i rfl).trans (am_g_congr fun h432 => ?_)
        refine (am_cal3 (z := 215) (k := 3) (c := (am_ob x1 10)) rfl rfl rfl rfl rfl rfl rfl rfl).trans (am_g_congr fun h433 => ?_)
        refine am_bind_congr fun r434 => ?_
        show am_Ex d 306 788 [(2, -1), (2, x1), (2, x2), (0, x3)] [(0, r434.1)] r434.2 = _
        refine (am_e0 rfl rfl).trans ?_
        refine (am_e0 rfl rfl).trans ?_
        refine (am_e0 rfl rfl).trans ?_
        refine (am_e0 rfl rfl).trans ?_
        refine (am_e0 rfl rfl).trans ?_
        refine (am_e6i rfl).trans (am_g_congr fun h435 => ?_)
        refine (am_z_eq rfl).trans (am_if_congr (fun c436 => ?_) (fun c436 => ?_))
        · refine (am_e0 rfl rfl).trans ?_
          refine (am_e0 rfl rfl).trans ?_
          refine (am_e0 rfl rfl).trans ?_
          refine (am_e0 rfl rfl).trans ?_
          refine (am_e0 rfl rfl).trans ?_
          refine (am_e6i rfl).trans (am_g_congr fun h437 => ?_)
          refine (am_cal3 (z := 230) (k := 3) (c := (am_ob x2 11)) rfl rfl rfl rfl rfl rfl rfl rfl).trans (am_g_congr fun h438 => ?_)
          refine am_bind_congr fun r439 => ?_
          show am_Ex d 306 804 [(2, -1), (2, x1), (2, x2), (0, x3)] [(0, r439.1), (0, r434.1)] r439.2 = _
          refine (am_i_eq rfl).trans (am_if_congr (fun c440 => ?_) (fun c440 => ?_))
          · exact (am_e5 rfl).trans rfl
          · refine (am_e0 rfl rfl).trans ?_
            exact (am_e4i rfl rfl).trans rfl
        · refine (am_e0 rfl rfl).trans ?_
          refine (am_e1 rfl rfl).trans ?_
          refine (am_e0 rfl rfl).trans ?_
          refine (am_e0 rfl rfl).trans ?_
          refine (am_e0 rfl rfl).trans ?_
          refine (am_e0 rfl rfl).trans ?_
          refine (am_e6i rfl).trans (am_g_congr fun h441 => ?_)
          refine (am_cal3 (z := 230) (k := 3) (c := (am_ob x2 11)) rfl rfl rfl rfl rfl rfl rfl rfl).trans (am_g_congr fun h442 => ?_)
          refine am_bind_congr fun r443 => ?_
          show am_Ex d 306 804 [(2, -1), (2, x1), (2, x2), (0, x3)] [(0, r443.1), (0, r434.1)] r443.2 = _
          refine (am_i_eq rfl).trans (am_if_congr (fun c444 => ?_) (fun c444 => ?_))
          · exact (am_e5 rfl).trans rfl
          · refine (am_e0 rfl rfl).trans ?_
            exact (am_e4i rfl rfl).trans rfl
    refine (am_sw_c).trans (am_if_congr (fun c445 => ?_) (fun c445 => ?_))
    · refine (am_e0 rfl rfl).trans ?_
      refine (am_e0 rfl rfl).trans ?_
      refine (am_e0 rfl rfl).trans ?_
      refine (am_e0 rfl rfl).trans ?_
      refine (am_e0 rfl rfl).trans ?_
      refine (am_e6i rfl).trans (am_g_congr fun h446 => ?_)
      refine (am_e0 rfl rfl).trans ?_
      refine (am_e0 rfl rfl).trans ?_
      refine (am_e0 rfl rfl).trans ?_
      refine (am_e0 rfl rfl).trans ?_
      refine (am_e6i rfl).trans (am_g_congr fun h447 => ?_)
      refine (am_e0 rfl rfl).trans ?_
      refine (am_e0 rfl rfl).trans ?_
      refine (am_e0 rfl rfl).trans ?_
      refine (am_e0 rfl rfl).trans ?_
      refine (am_e6i rfl).trans (am_g_congr fun h448 => ?_)
      refine (am_e0 rfl rfl).trans ?_
      refine (am_e0 rfl rfl).trans ?_
      refine (am_e0 rfl rfl).trans ?_
      refine (am_e0 rfl rfl).trans ?_
      refine (am_e6i rfl).trans (am_g_congr fun h449 => ?_)
      refine (am_z_eq rfl).trans (am_if_congr (fun c450 => ?_) (fun c450 => ?_))
      · refine (am_e0 rfl rfl).trans ?_
        refine (am_cal3 (z := 263) (k := 5) (c := (am_ob x1 10)) rfl rfl rfl rfl rfl rfl rfl rfl).trans (am_g_congr fun h451 => ?_)
        refine am_bind_congr fun r452 => ?_
        show am_Ex d 306 833 [(2, -1), (2, x1), (2, x2), (0, x3)] [(1, r452.1)] r452.2 = _
        refine (am_e0 rfl rfl).trans ?_
        refine (am_e0 rfl rfl).trans ?_
        refine (am_e0 rfl rfl).trans ?_
        refine (am_e0 rfl rfl).trans ?_
        refine (am_e0 rfl rfl).trans ?_
        refine (am_e6i rfl).trans (am_g_congr fun h453 => ?_)
        refine (am_e0 rfl rfl).trans ?_
        refine (am_e0 rfl rfl).trans ?_
        refine (am_e0 rfl rfl).trans ?_
        refine (am_e0 rfl rfl).trans ?_
        refine (am_e6i rfl).trans (am_g_congr fun h454 => ?_)
        refine (am_e0 rfl rfl).trans ?_
        refine (am_e0 rfl rfl).trans ?_
        refine (am_e0 rfl rfl).trans ?_
        refine (am_e0 rfl rfl).trans ?_
        refine (am_e6i rfl).trans (am_g_congr fun h455 => ?_)
        refine (am_e0 rfl rfl).trans ?_
        refine (am_e0 rfl rfl).trans ?_
        refine (am_e0 rfl rfl).trans ?_
        refine (am_e0 rfl rfl).trans ?_
        refine (am_e6i rfl).trans (am_g_congr fun h456 => ?_)
        refine (am_z_eq rfl).trans (am_if_congr (fun c457 => ?_) (fun c457 => ?_))
        · refine (am_e0 rfl rfl).trans ?_
          refine (am_cal3 (z := 269) (k := 5) (c := (am_ob x2 11)) rfl rfl rfl rfl rfl rfl rfl rfl).trans (am_g_congr fun h458 => ?_)
          refine am_bind_congr fun r459 => ?_
          show am_Ex d 306 859 [(2, -1), (2, x1), (2, x2), (0, x3)] [(1, r459.1), (1, r452.1)] r459.2 = _
          refine (am_e0 rfl rfl).trans ?_
          refine (am_z_eq rfl).trans (am_if_congr (fun c460 => ?_) (fun c460 => ?_))
          · exact (am_e5 rfl).trans rfl
          · refine (am_e0 rfl rfl).trans ?_
            exact (am_e4i rfl rfl).trans rfl
        · refine (am_e0 rfl rfl).trans ?_
          refine (am_e1 rfl rfl).trans ?_
          refine (am_cal3 (z := 269) (k := 5) (c := (am_ob x2 11)) rfl rfl rfl rfl rfl rfl rfl rfl).trans (am_g_congr fun h461 => ?_)
          refine am_bind_congr fun r462 => ?_
          show am_Ex d 306 859 [(2, -1), (2, x1), (2, x2), (0, x3)] [(1, r462.1), (1, r452.1)] r462.2 = _
          refine (am_e0 rfl rfl).trans ?_
          refine (am_z_eq rfl).trans (am_if_congr (fun c463 => ?_) (fun c463 => ?_))
          · exact (am_e5 rfl).trans rfl
          · refine (am_e0 rfl rfl).trans ?_
            exact (am_e4i rfl rfl).trans rfl
      · refine (am_e0 rfl rfl).trans ?_
        refine (am_e1 rfl rfl).trans ?_
        refine (am_cal3 (z := 263) (k := 5) (c := (am_ob x1 10)) rfl rfl rfl rfl rfl rfl rfl rfl).trans (am_g_congr fun h464 => ?_)
        refine am_bind_congr fun r465 => ?_
        show am_Ex d 306 833 [(2, -1), (2, x1), (2, x2), (0, x3)] [(1, r465.1)] r465.2 = _
        refine (am_e0 rfl rfl).trans ?_
        refine (am_e0 rfl rfl).trans ?_
        refine (am_e0 rfl rfl).trans ?_
        refine (am_e0 rfl rfl).trans ?_
        refine (am_e0 rfl rfl).trans ?_
        refine (am_e6i rfl).trans (am_g_congr fun h466 => ?_)
        refine (am_e0 rfl rfl).trans ?_
        refine (am_e0 rfl rfl).trans ?_
        refine (am_e0 rfl rfl).trans ?_
        refine (am_e0 rfl rfl).trans ?_
        refine (am_e6i rfl).trans (am_g_congr fun h467 => ?_)
        refine (am_e0 rfl rfl).trans ?_
        refine (am_e0 rfl rfl).trans ?_
        refine (am_e0 rfl rfl).trans ?_
        refine (am_e0 rfl rfl).trans ?_
        refine (am_e6i rfl).trans (am_g_congr fun h468 => ?_)
        refine (am_e0 rfl rfl).trans ?_
        refine (am_e0 rfl rfl).trans ?_
        refine (am_e0 rfl rfl).trans ?_
        refine (am_e0 rfl rfl).trans ?_
        refine (am_e6i rfl).trans (am_g_congr fun h469 => ?_)
        refine (am_z_eq rfl).trans (am_if_congr (fun c470 => ?_) (fun c470 => ?_))
        · refine (am_e0 rfl rfl).trans ?_
          refine (am_cal3 (z := 269) (k := 5) (c := (am_ob x2 11)) rfl rfl rfl rfl rfl rfl rfl rfl).trans (am_g_congr fun h471 => ?_)
          refine am_bind_congr fun r472 => ?_
          show am_Ex d 306 859 [(2, -1), (2, x1), (2, x2), (0, x3)] [(1, r472.1), (1, r465.1)] r472.2 = _
          refine (am_e0 rfl rfl).trans ?_
          refine (am_z_eq rfl).trans (am_if_congr (fun c473 => ?_) (fun c473 => ?_))
          · exact (am_e5 rfl).trans rfl
          · refine (am_e0 rfl rfl).trans ?_
            exact (am_e4i rfl rfl).trans rfl
        · refine (am_e0 rfl rfl).trans ?_
          refine (am_e1 rfl rfl).trans ?_
          refine (am_cal3 (z := 269) (k := 5) (c := (am_ob x2 11)) rfl rfl rfl rfl rfl rfl rfl rfl).trans (am_g_congr fun h474 => ?_)
          refine am_bind_congr fun r475 => ?_
          show am_Ex d 306 859 [(2, -1), (2, x1), (2, x2), (0, x3)] [(1, r475.1), (1, r465.1)] r475.2 = _
          refine (am_e0 rfl rfl).trans ?_
          refine (am_z_eq rfl).trans (am_if_congr (fun c476 => ?_) (fun c476 => ?_))
          · exact (am_e5 rfl).trans rfl
          · refine (am_e0 rfl rfl).trans ?_
            exact (am_e4i rfl rfl).trans rfl
    refine (am_sw_c).trans (am_if_congr (fun c477 => ?_) (fun c477 => ?_))
    · refine (am_e0 rfl rfl).trans ?_
      refine (am_e0 rfl rfl).trans ?_
      refine (am_e0 rfl rfl).trans ?_
      refine (am_e0 rfl rfl).trans ?_
      refine (am_e0 rfl rfl).trans ?_
      refine (am_e6i rfl).trans (am_g_congr fun h478 => ?_)
      refine (am_e0 rfl rfl).trans ?_
      refine (am_e0 rfl rfl).trans ?_
      refine (am_e0 rfl rfl).trans ?_
      refine (am_e0 rfl rfl).trans ?_
      refine (am_e6i rfl).trans (am_g_congr fun h479 => ?_)
      refine (am_e0 rfl rfl).trans ?_
      refine (am_e0 rfl rfl).trans ?_
      refine (am_e0 rfl rfl).trans ?_
      refine (am_e0 rfl rfl).trans ?_
      refine (am_e6i rfl).trans (am_g_congr fun h480 => ?_)
      refine (am_cal3 (z := 244) (k := 4) (c := (am_ob x1 10)) rfl rfl rfl rfl rfl rfl rfl rfl).trans (am_g_congr fun h481 => ?_)
      refine am_bind_congr fun r482 => ?_
      show am_Ex d 306 880 [(2, -1), (2, x1), (2, x2), (0, x3)] [(0, r482.1)] r482.2 = _
      refine (am_e0 rfl rfl).trans ?_
      refine (am_e0 rfl rfl).trans ?_
      refine (am_e0 rfl rfl).trans ?_
      refine (am_e0 rfl rfl).trans ?_
      refine (am_e0 rfl rfl).trans ?_
      refine (am_e6i rfl).trans (am_g_congr fun h483 => ?_)
      refine (am_e0 rfl rfl).trans ?_
      refine (am_e0 rfl rfl).trans ?_
      refine (am_e0 rfl rfl).trans ?_
      refine (am_e0 rfl rfl).trans ?_
      refine (am_e6i rfl).trans (am_g_congr fun h484 => ?_)
      refine (am_e0 rfl rfl).trans ?_
      refine (am_e0 rfl rfl).trans ?_
      refine (am_e0 rfl rfl).trans ?_
      refine (am_e0 rfl rfl).trans ?_
      refine (am_e6i rfl).trans (am_g_congr fun h485 => ?_)
      refine (am_cal3 (z := 270) (k := 4) (c := (am_ob x2 11)) rfl rfl rfl rfl rfl rfl rfl rfl).trans (am_g_congr fun h486 => ?_)
      refine am_bind_congr fun r487 => ?_
      show am_Ex d 306 897 [(2, -1), (2, x1), (2, x2), (0, x3)] [(0, r487.1), (0, r482.1)] r487.2 = _
      refine (am_i_eq rfl).trans (am_if_congr (fun c488 => ?_) (fun c488 => ?_))
      · exact (am_e5 rfl).trans rfl
      · refine (am_e0 rfl rfl).trans ?_
        exact (am_e4i rfl rfl).trans rfl
    refine (am_sw_c).trans (am_if_congr (fun c489 => ?_) (fun c489 => ?_))
    · refine (am_e0 rfl rfl).trans ?_
      refine (am_e0 rfl rfl).trans ?_
      refine (am_e0 rfl rfl).trans ?_
      refine (am_e0 rfl rfl).trans ?_
      refine (am_e0 rfl rfl).trans ?_
      refine (am_e6i rfl).trans (am_g_congr fun h490 => ?_)
      refine (am_cal3 (z := 141) (k := 2) (c := (am_ob x1 10)) rfl rfl rfl rfl rfl rfl rfl rfl).trans (am_g_congr fun h491 => ?_)
      refine am_bind_congr fun r492 => ?_
      show am_Ex d 306 907 [(2, -1), (2, x1), (2, x2), (0, x3)] [(0, r492.1)] r492.2 = _
      refine (am_e0 rfl rfl).trans ?_
      refine (am_e0 rfl rfl).trans ?_
      refine (am_e0 rfl rfl).trans ?_
      refine (am_e0 rfl rfl).trans ?_
      refine (am_e0 rfl rfl).trans ?_
      refine (am_e6i rfl).trans (am_g_congr fun h493 => ?_)
      refine (am_cal3 (z := 231) (k := 2) (c := (am_ob x2 11)) rfl rfl rfl rfl rfl rfl rfl rfl).trans (am_g_congr fun h494 => ?_)
      refine am_bind_congr fun r495 => ?_
      show am_Ex d 306 914 [(2, -1), (2, x1), (2, x2), (0, x3)] [(0, r495.1), (0, r492.1)] r495.2 = _
      refine (am_i_eq rfl).trans (am_if_congr (fun c496 => ?_) (fun c496 => ?_))
      · exact (am_e5 rfl).trans rfl
      · refine (am_e0 rfl rfl).trans ?_
        exact (am_e4i rfl rfl).trans rfl
    refine (am_sw_c).trans (am_if_congr (fun c497 => ?_) (fun c497 => ?_))
    · refine (am_e0 rfl rfl).trans ?_
      refine (am_e0 rfl rfl).trans ?_
      refine (am_e0 rfl rfl).trans ?_
      refine (am_e0 rfl rfl).trans ?_
      refine (am_e0 rfl rfl).trans ?_
      refine (am_e6i rfl).trans (am_g_congr fun h498 => ?_)
      refine (am_cal3 (z := 189) (k := 2) (c := (am_ob x1 10)) rfl rfl rfl rfl rfl rfl rfl rfl).trans (am_g_congr fun h499 => ?_)
      refine am_bind_congr fun r500 => ?_
      show am_Ex d 306 924 [(2, -1), (2, x1), (2, x2), (0, x3)] [(0, r500.1)] r500.2 = _
      refine (am_e0 rfl rfl).trans ?_
      refine (am_e0 rfl rfl).trans ?_
      refine (am_e0 rfl rfl).trans ?_
      refine (am_e0 rfl rfl).trans ?_
      refine (am_e0 rfl rfl).trans ?_
      refine (am_e6i rfl).trans (am_g_congr fun h501 => ?_)
      refine (am_cal3 (z := 232) (k := 2) (c := (am_ob x2 11)) rfl rfl rfl rfl rfl rfl rfl rfl).trans (am_g_congr fun h502 => ?_)
      refine am_bind_congr fun r503 => ?_
      show am_Ex d 306 931 [(2, -1), (2, x1), (2, x2), (0, x3)] [(0, r503.1), (0, r500.1)] r503.2 = _
      refine (am_i_eq rfl).trans (am_if_congr (fun c504 => ?_) (fun c504 => ?_))
      · exact (am_e5 rfl).trans rfl
      · refine (am_e0 rfl rfl).trans ?_
        exact (am_e4i rfl rfl).trans rfl
    refine (am_sw_c).trans (am_if_congr (fun c505 => ?_) (fun c505 => ?_))
    · refine (am_e0 rfl rfl).trans ?_
      refine (am_e0 rfl rfl).trans ?_
      refine (am_e0 rfl rfl).trans ?_
      refine (am_e0 rfl rfl).trans ?_
      refine (am_e0 rfl rfl).trans ?_
      refine (am_e6i rfl).trans (am_g_congr fun h506 => ?_)
      refine (am_e0 rfl rfl).trans ?_
      refine (am_e0 rfl rfl).trans ?_
      refine (am_e0 rfl rfl).trans ?_
      refine (am_e0 rfl rfl).trans ?_
      refine (am_e6i rfl).trans (am_g_congr fun h507 => ?_)
      refine (am_e0 rfl rfl).trans ?_
      refine (am_e0 rfl rfl).trans ?_
      refine (am_e0 rfl rfl).trans ?_
      refine (am_e0 rfl rfl).trans ?_
      refine (am_e6i rfl).trans (am_g_congr fun h508 => ?_)
      refine (am_cal3 (z := 245) (k := 4) (c := (am_ob x1 10)) rfl rfl rfl rfl rfl rfl rfl rfl).trans (am_g_congr fun h509 => ?_)
      refine am_bind_congr fun r510 => ?_
      show am_Ex d 306 951 [(2, -1), (2, x1), (2, x2), (0, x3)] [(1, r510.1)] r510.2 = _
      refine (am_e0 rfl rfl).trans ?_
      refine (am_e0 rfl rfl).trans ?_
      refine (am_e0 rfl rfl).trans ?_
      refine (am_e0 rfl rfl).trans ?_
      refine (am_e0 rfl rfl).trans ?_
      refine (am_e6i rfl).trans (am_g_congr fun h511 => ?_)
      refine (am_e0 rfl rfl).trans ?_
      refine (am_e0 rfl rfl).trans ?_
      refine (am_e0 rfl rfl).trans ?_
      refine (am_e0 rfl rfl).trans ?_
      refine (am_e6i rfl).trans (am_g_congr fun h512 => ?_)
      refine (am_e0 rfl rfl).trans ?_
      refine (am_e0 rfl rfl).trans ?_
      refine (am_e0 rfl rfl).trans ?_
      refine (am_e0 rfl rfl).trans ?_
      refine (am_e6i rfl).trans (am_g_congr fun h513 => ?_)
      refine (am_cal3 (z := 202) (k := 4) (c := (am_ob x2 11)) rfl rfl rfl rfl rfl rfl rfl rfl).trans (am_g_congr fun h514 => ?_)
      refine am_bind_congr fun r515 => ?_
      show am_Ex d 306 968 [(2, -1), (2, x1), (2, x2), (0, x3)] [(1, r515.1), (1, r510.1)] r515.2 = _
      refine (am_e0 rfl rfl).trans ?_
      refine (am_z_eq rfl).trans (am_if_congr (fun c516 => ?_) (fun c516 => ?_))
      · exact (am_e5 rfl).trans rfl
      · refine (am_e0 rfl rfl).trans ?_
        exact (am_e4i rfl rfl).trans rfl
    refine (am_sw_c).trans (am_if_congr (fun c517 => ?_) (fun c517 => ?_))
    · refine (am_e0 rfl rfl).trans ?_
      refine (am_e0 rfl rfl).trans ?_
      refine (am_e0 rfl rfl).trans ?_
      refine (am_e0 rfl rfl).trans ?_
      refine (am_e0 rfl rfl).trans ?_
      refine (am_e6i rfl).trans (am_g_congr fun h518 => ?_)
      refine (am_e0 rfl rfl).trans ?_
      refine (am_e0 rfl rfl).trans ?_
      refine (am_e0 rfl rfl).trans ?_
      refine (am_e0 rfl rfl).trans ?_
      refine (am_e6i rfl).trans (am_g_congr fun h519 => ?_)
      refine (am_cal3 (z := 216) (k := 3) (c := (am_ob x1 10)) rfl rfl rfl rfl rfl rfl rfl rfl).trans (am_g_congr fun h520 => ?_)
      refine am_bind_congr fun r521 => ?_
      show am_Ex d 306 984 [(2, -1), (2, x1), (2, x2), (0, x3)] [(0, r521.1)] r521.2 = _
      refine (am_e0 rfl rfl).trans ?_
      refine (am_e0 rfl rfl).trans ?_
      refine (am_e0 rfl rfl).trans ?_
      refine (am_e0 rfl rfl).trans ?_
      refine (am_e0 rfl rfl).trans ?_
      refine (am_e6i rfl).trans (am_g_congr fun h522 => ?_)
      refine (am_e0 rfl rfl).trans ?_
      refine (am_e0 rfl rfl).trans ?_
      refine (am_e0 rfl rfl).trans ?_
      refine (am_e0 rfl rfl).trans ?_
      refine (am_e6i rfl).trans (am_g_congr fun h523 => ?_)
      refine (am_cal3 (z := 203) (k := 3) (c := (am_ob x2 11)) rfl rfl rfl rfl rfl rfl rfl rfl).trans (am_g_congr fun h524 => ?_)
      refine am_bind_congr fun r525 => ?_
      show am_Ex d 306 996 [(2, -1), (2, x1), (2, x2), (0, x3)] [(0, r525.1), (0, r521.1)] r525.2 = _
      refine (am_i_eq rfl).trans (am_if_congr (fun c526 => ?_) (fun c526 => ?_))
      · exact (am_e5 rfl).trans rfl
      · refine (am_e0 rfl rfl).trans ?_
        exact (am_e4i rfl rfl).trans rfl
    refine (am_sw_c).trans (am_if_congr (fun c527 => ?_) (fun c527 => ?_))
    · refine (am_e0 rfl rfl).trans ?_
      refine (am_e0 rfl rfl).trans ?_
      refine (am_e0 rfl rfl).trans ?_
      refine (am_e0 rfl rfl).trans ?_
      refine (am_e0 rfl rfl).trans ?_
      refine (am_e6i rfl).trans (am_g_congr fun h528 => ?_)
      refine (am_cal3 (z := 279) (k := 2) (c := (am_ob x1 10)) rfl rfl rfl rfl rfl rfl rfl rfl).trans (am_g_congr fun h529 => ?_)
      refine am_bind_congr fun r530 => ?_
      show am_Ex d 306 1006 [(2, -1), (2, x1), (2, x2), (0, x3)] [(0, r530.1)] r530.2 = _
      refine (am_e0 rfl rfl).trans ?_
      refine (am_e0 rfl rfl).trans ?_
      refine (am_e0 rfl rfl).trans ?_
      refine (am_e0 rfl rfl).trans ?_
      refine (am_e0 rfl rfl).trans ?_
      refine (am_e6i rfl).trans (am_g_congr fun h531 => ?_)
      refine (am_cal3 (z := 286) (k := 2) (c := (am_ob x2 11)) rfl rfl rfl rfl rfl rfl rfl rfl).trans (am_g_congr fun h532 => ?_)
      refine am_bind_congr fun r533 => ?_
      show am_Ex d 306 1013 [(2, -1), (2, x1), (2, x2), (0, x3)] [(0, r533.1), (0, r530.1)] r533.2 = _
      refine (am_i_eq rfl).trans (am_if_congr (fun c534 => ?_) (fun c534 => ?_))
      · exact (am_e5 rfl).trans rfl
      · refine (am_e0 rfl rfl).trans ?_
        exact (am_e4i rfl rfl).trans rfl
    refine (am_sw_c).trans (am_if_congr (fun c535 => ?_) (fun c535 => ?_))
    · refine (am_e0 rfl rfl).trans ?_
      refine (am_e0 rfl rfl).trans ?_
      refine (am_e0 rfl rfl).trans ?_
      refine (am_e0 rfl rfl).trans ?_
      refine (am_e0 rfl rfl).trans ?_
      refine (am_e6i rfl).trans (am_g_congr fun h536 => ?_)
      refine (am_cal3 (z := 280) (k := 2) (c := (am_ob x1 10)) rfl rfl rfl rfl rfl rfl rfl rfl).trans (am_g_congr fun h537 => ?_)
      refine am_bind_congr fun r538 => ?_
      show am_Ex d 306 1023 [(2, -1), (2, x1), (2, x2), (0, x3)] [(0, r538.1)] r538.2 = _
      refine (am_e0 rfl rfl).trans ?_
      refine (am_e0 rfl rfl).trans ?_
      refine (am_e0 rfl rfl).trans ?_
      refine (am_e0 rfl rfl).trans ?_
      refine (am_e0 rfl rfl).trans ?_
      refine (am_e6i rfl).trans (am_g_congr fun h539 => ?_)
      refine (am_cal3 (z := 287) (k := 2) (c := (am_ob x2 11)) rfl rfl rfl rfl rfl rfl rfl rfl).trans (am_g_congr fun h540 => ?_)
      refine am_bind_congr fun r541 => ?_
      show am_Ex d 306 1030 [(2, -1), (2, x1), (2, x2), (0, x3)] [(0, r541.1), (0, r538.1)] r541.2 = _
      refine (am_i_eq rfl).trans (am_if_congr (fun c542 => ?_) (fun c542 => ?_))
      · exact (am_e5 rfl).trans rfl
      · refine (am_e0 rfl rfl).trans ?_
        exact (am_e4i rfl rfl).trans rfl
    refine (am_sw_c).trans (am_if_congr (fun c543 => ?_) (fun c543 => ?_))
    · refine (am_e0 rfl rfl).trans ?_
      refine (am_cal3 (z := 190) (k := 1) (c := (am_ob x1 10)) rfl rfl rfl rfl rfl rfl rfl rfl).trans (am_g_congr fun h544 => ?_)
      refine am_bind_congr fun r545 => ?_
      show am_Ex d 306 1035 [(2, -1), (2, x1), (2, x2), (0, x3)] [(0, r545.1)] r545.2 = _
      refine (am_e0 rfl rfl).trans ?_
      refine (am_cal3 (z := 167) (k := 1) (c := (am_ob x2 11)) rfl rfl rfl rfl rfl rfl rfl rfl).trans (am_g_congr fun h546 => ?_)
      refine am_bind_congr fun r547 => ?_
      show am_Ex d 306 1037 [(2, -1), (2, x1), (2, x2), (0, x3)] [(0, r547.1), (0, r545.1)] r547.2 = _
      refine (am_i_eq rfl).trans (am_if_congr (fun c548 => ?_) (fun c548 => ?_))
      · exact (am_e5 rfl).trans rfl
      · refine (am_e0 rfl rfl).trans ?_
        exact (am_e4i rfl rfl).trans rfl
    refine (am_sw_c).trans (am_if_congr (fun c549 => ?_) (fun c549 => ?_))
    · refine (am_e0 rfl rfl).trans ?_
      refine (am_cal3 (z := 191) (k := 1) (c := (am_ob x1 10)) rfl rfl rfl rfl rfl rfl rfl rfl).trans (am_g_congr fun h550 => ?_)
      refine am_bind_congr fun r551 => ?_
      show am_Ex d 306 1042 [(2, -1), (2, x1), (2, x2), (0, x3)] [(0, r551.1)] r551.2 = _
      refine (am_e0 rfl rfl).trans ?_
      refine (am_cal3 (z := 168) (k := 1) (c := (am_ob x2 11)) rfl rfl rfl rfl rfl rfl rfl rfl).trans (am_g_congr fun h552 => ?_)
      refine am_bind_congr fun r553 => ?_
      show am_Ex d 306 1044 [(2, -1), (2, x1), (2, x2), (0, x3)] [(0, r553.1), (0, r551.1)] r553.2 = _
      refine (am_i_eq rfl).trans (am_if_congr (fun c554 => ?_) (fun c554 => ?_))
      · exact (am_e5 rfl).trans rfl
      · refine (am_e0 rfl rfl).trans ?_
        exact (am_e4i rfl rfl).trans rfl
    refine (am_sw_c).trans (am_if_congr (fun c555 => ?_) (fun c555 => ?_))
    · refine (am_e0 rfl rfl).trans ?_
      refine (am_e0 rfl rfl).trans ?_
      refine (am_e0 rfl rfl).trans ?_
      refine (am_e0 rfl rfl).trans ?_
      refine (am_e0 rfl rfl).trans ?_
      refine (am_e6i rfl).trans (am_g_congr fun h556 => ?_)
      refine (am_cal3 (z := 63) (k := 2) (c := (am_ob x1 10)) rfl rfl rfl rfl rfl rfl rfl rfl).trans (am_g_congr fun h557 => ?_)
      refine am_bind_congr fun r558 => ?_
      show am_Ex d 306 1054 [(2, -1), (2, x1), (2, x2), (0, x3)] [(0, r558.1)] r558.2 = _
      refine (am_e0 rfl rfl).trans ?_
      refine (am_e0 rfl rfl).trans ?_
      refine (am_e0 rfl rfl).trans ?_
      refine (am_e0 rfl rfl).trans ?_
      refine (am_e0 rfl rfl).trans ?_
      refine (am_e6i rfl).trans (am_g_congr fun h559 => ?_)
      refine (am_cal3 (z := 98) (k := 2) (c := (am_ob x2 11)) rfl rfl rfl rfl rfl rfl rfl rfl).trans (am_g_congr fun h560 => ?_)
      refine am_bind_congr fun r561 => ?_
      show am_Ex d 306 1061 [(2, -1), (2, x1), (2, x2), (0, x3)] [(0, r561.1), (0, r558.1)] r561.2 = _
      refine (am_i_eq rfl).trans (am_if_congr (fun c562 => ?_) (fun c562 => ?_))
      · exact (am_e5 rfl).trans rfl
      · refine (am_e0 rfl rfl).trans ?_
        exact (am_e4i rfl rfl).trans rfl
    refine (am_sw_n).trans ?_
    exact (am_e5 rfl).trans rfl
  · refine (am_e0 rfl rfl).trans ?_
    exact (am_e4i rfl rfl).trans rfl
set_option maxRecDepth 10000 in
theorem aq_306_1065 (d : Nat) (x1 x2 x3 : Int) (M : am_M) : am_Ex d 306 1065 [(2, -1), (2, x1), (2, x2), (0, x3)] [] M = (am_let (am_w32 (x3 + 6)) fun v101 => am_Ex d 306 11 [(2, -1), (2, x1), (2, x2), (0, v101)] [] M) := by
  refine (am_e0 rfl rfl).trans ?_
  refine am_lets (L := fun v101 => [(2, -1), (2, x1), (2, x2), (0, v101)]) (fun v101 => ?_)
  refine (am_e1 rfl rfl).trans ?_
  exact (am_e5 rfl).trans rfl
