/-! rows of the methods 286 .. 305 -/
set_option maxRecDepth 100000 in
theorem am_wl286 : ∀ w ∈ am_ewA (am_nm 286).cls (am_prog 286), w ∈ am_G := by
  have e : am_ewA (am_nm 286).cls (am_prog 286) = [am_u1387, am_u1857, am_u1197, am_u1861, am_u1637, am_u1637, am_u1865, am_u1865] := rfl
  rw [e]
  exact List.forall_mem_cons.mpr ⟨am_v1387, List.forall_mem_cons.mpr ⟨am_v1857, List.forall_mem_cons.mpr ⟨am_v1197, List.forall_mem_cons.mpr ⟨am_v1861, List.forall_mem_cons.mpr ⟨am_v1637, List.forall_mem_cons.mpr ⟨am_v1637, List.forall_mem_cons.mpr ⟨am_v1865, List.forall_mem_cons.mpr ⟨am_v1865, fun _ h => absurd h List.not_mem_nil⟩⟩⟩⟩⟩⟩⟩⟩
theorem am_be286_0 : (List.range' 0 59).all (am_eb 286) = true := by decide +kernel
theorem am_ok286 (i : Nat) : am_eOk 286 i := by
  have hy : 286 < am_law → am_cP 286 := fun _ => am_cms 286 (by decide)
  have hw : ∀ w ∈ am_ewE (am_nm 286).cls (am_at 286 i), w ∈ am_G := fun w h => am_wl286 w (am_ewA_in h)
  refine am_e_ok hy hw ?_
  by_cases h0 : i < 59
  · exact List.all_eq_true.mp am_be286_0 i (List.mem_range'_1.mpr ⟨by omega, by omega⟩)
  exact am_eb_out (am_len_out (n := 59) (by decide) (by omega))
set_option maxRecDepth 100000 in
theorem am_wl287 : ∀ w ∈ am_ewA (am_nm 287).cls (am_prog 287), w ∈ am_G := by
  have e : am_ewA (am_nm 287).cls (am_prog 287) = [am_u1365, am_u1857, am_u1197, am_u1637, am_u1861, am_u1869] := rfl
  rw [e]
  exact List.forall_mem_cons.mpr ⟨am_v1365, List.forall_mem_cons.mpr ⟨am_v1857, List.forall_mem_cons.mpr ⟨am_v1197, List.forall_mem_cons.mpr ⟨am_v1637, List.forall_mem_cons.mpr ⟨am_v1861, List.forall_mem_cons.mpr ⟨am_v1869, fun _ h => absurd h List.not_mem_nil⟩⟩⟩⟩⟩⟩
theorem am_be287_0 : (List.range' 0 44).all (am_eb 287) = true := by decide +kernel
theorem am_ok287 (i : Nat) : am_eOk 287 i := by
  have hy : 287 < am_law → am_cP 287 := fun _ => am_cms 287 (by decide)
  have hw : ∀ w ∈ am_ewE (am_nm 287).cls (am_at 287 i), w ∈ am_G := fun w h => am_wl287 w (am_ewA_in h)
  refine am_e_ok hy hw ?_
  by_cases h0 : i < 44
  · exact List.all_eq_true.mp am_be287_0 i (List.mem_range'_1.mpr ⟨by omega, by omega⟩)
  exact am_eb_out (am_len_out (n := 44) (by decide) (by omega))
set_option maxRecDepth 100000 in
theorem am_wl288 : ∀ w ∈ am_ewA (am_nm 288).cls (am_prog 288), w ∈ am_G := by
  have e : am_ewA (am_nm 288).cls (am_prog 288) = [am_u236, am_u238, am_u240, am_u235, am_u235, am_u671, am_u675, am_u233, am_u232, am_u807, am_u811, am_u238] := rfl
  rw [e]
  exact List.forall_mem_cons.mpr ⟨am_v236, List.forall_mem_cons.mpr ⟨am_v238, List.forall_mem_cons.mpr ⟨am_v240, List.forall_mem_cons.mpr ⟨am_v235, List.forall_mem_cons.mpr ⟨am_v235, List.forall_mem_cons.mpr ⟨am_v671, List.forall_mem_cons.mpr ⟨am_v675, List.forall_mem_cons.mpr ⟨am_v233, List.forall_mem_cons.mpr ⟨am_v232, List.forall_mem_cons.mpr ⟨am_v807, List.forall_mem_cons.mpr ⟨am_v811, List.forall_mem_cons.mpr ⟨am_v238, fun _ h => absurd h List.not_mem_nil⟩⟩⟩⟩⟩⟩⟩⟩⟩⟩⟩⟩
theorem am_be288_0 : (List.range' 0 56).all (am_eb 288) = true := by decide +kernel
theorem am_ok288 (i : Nat) : am_eOk 288 i := by
  have hy : 288 < am_law → am_cP 288 := fun _ => am_cms 288 (by decide)
  have hw : ∀ w ∈ am_ewE (am_nm 288).cls (am_at 288 i), w ∈ am_G := fun w h => am_wl288 w (am_ewA_in h)
  refine am_e_ok hy hw ?_
  by_cases h0 : i < 56
  · exact List.all_eq_true.mp am_be288_0 i (List.mem_range'_1.mpr ⟨by omega, by omega⟩)
  exact am_eb_out (am_len_out (n := 56) (by decide) (by omega))
set_option maxRecDepth 100000 in
theorem am_wl289 : ∀ w ∈ am_ewA (am_nm 289).cls (am_prog 289), w ∈ am_G := by
  have e : am_ewA (am_nm 289).cls (am_prog 289) = [am_u342, am_u116, am_u616, am_u342, am_u340, am_u52, am_u631] := rfl
  rw [e]
  exact List.forall_mem_cons.mpr ⟨am_v342, List.forall_mem_cons.mpr ⟨am_v116, List.forall_mem_cons.mpr ⟨am_v616, List.forall_mem_cons.mpr ⟨am_v342, List.forall_mem_cons.mpr ⟨am_v340, List.forall_mem_cons.mpr ⟨am_v52, List.forall_mem_cons.mpr ⟨am_v631, fun _ h => absurd h List.not_mem_nil⟩⟩⟩⟩⟩⟩⟩
theorem am_be289_0 : (List.range' 0 27).all (am_eb 289) = true := by decide +kernel
theorem am_ok289 (i : Nat) : am_eOk 289 i := by
  have hy : 289 < am_law → am_cP 289 := fun _ => am_cms 289 (by decide)
  have hw : ∀ w ∈ am_ewE (am_nm 289).cls (am_at 289 i), w ∈ am_G := fun w h => am_wl289 w (am_ewA_in h)
  refine am_e_ok hy hw ?_
  by_cases h0 : i < 27
  · exact List.all_eq_true.mp am_be289_0 i (List.mem_range'_1.mpr ⟨by omega, by omega⟩)
  exact am_eb_out (am_len_out (n := 27) (by decide) (by omega))
set_option maxRecDepth 100000 in
theorem am_wl290 : ∀ w ∈ am_ewA (am_nm 290).cls (am_prog 290), w ∈ am_G := by
  have e : am_ewA (am_nm 290).cls (am_prog 290) = [am_u340, am_u52, am_u340, am_u48, am_u344, am_u342, am_u458, am_u342, am_u119, am_u351, am_u342, am_u639, am_u342, am_u340, am_u52, am_u631] := rfl
  rw [e]
  exact List.forall_mem_cons.mpr ⟨am_v340, List.forall_mem_cons.mpr ⟨am_v52, List.forall_mem_cons.mpr ⟨am_v340, List.forall_mem_cons.mpr ⟨am_v48, List.forall_mem_cons.mpr ⟨am_v344, List.forall_mem_cons.mpr ⟨am_v342, List.forall_mem_cons.mpr ⟨am_v458, List.forall_mem_cons.mpr ⟨am_v342, List.forall_mem_cons.mpr ⟨am_v119, List.forall_mem_cons.mpr ⟨am_v351, List.forall_mem_cons.mpr ⟨am_v342, List.forall_mem_cons.mpr ⟨am_v639, List.forall_mem_cons.mpr ⟨am_v342, List.forall_mem_cons.mpr ⟨am_v340, List.forall_mem_cons.mpr ⟨am_v52, List.forall_mem_cons.mpr ⟨am_v631, fun _ h => absurd h List.not_mem_nil⟩⟩⟩⟩⟩⟩⟩⟩⟩⟩⟩⟩⟩⟩⟩⟩
theorem am_be290_0 : (List.range' 0 57).all (am_eb 290) = true := by decide +kernel
theorem am_ok290 (i : Nat) : am_eOk 290 i := by
  have hy : 290 < am_law → am_cP 290 := fun _ => am_cms 290 (by decide)
  have hw : ∀ w ∈ am_ewE (am_nm 290).cls (am_at 290 i), w ∈ am_G := fun w h => am_wl290 w (am_ewA_in h)
  refine am_e_ok hy hw ?_
  by_cases h0 : i < 57
  · exact List.all_eq_true.mp am_be290_0 i (List.mem_range'_1.mpr ⟨by omega, by omega⟩)
  exact am_eb_out (am_len_out (n := 57) (by decide) (by omega))
set_option maxRecDepth 100000 in
theorem am_wl291 : ∀ w ∈ am_ewA (am_nm 291).cls (am_prog 291), w ∈ am_G := by
  have e : am_ewA (am_nm 291).cls (am_prog 291) = [am_u340, am_u885, am_u346, am_u346, am_u346, am_u155, am_u893, am_u897, am_u616, am_u901] := rfl
  rw [e]
  exact List.forall_mem_cons.mpr ⟨am_v340, List.forall_mem_cons.mpr ⟨am_v885, List.forall_mem_cons.mpr ⟨am_v346, List.forall_mem_cons.mpr ⟨am_v346, List.forall_mem_cons.mpr ⟨am_v346, List.forall_mem_cons.mpr ⟨am_v155, List.forall_mem_cons.mpr ⟨am_v893, List.forall_mem_cons.mpr ⟨am_v897, List.forall_mem_cons.mpr ⟨am_v616, List.forall_mem_cons.mpr ⟨am_v901, fun _ h => absurd h List.not_mem_nil⟩⟩⟩⟩⟩⟩⟩⟩⟩⟩
theorem am_be291_0 : (List.range' 0 62).all (am_eb 291) = true := by decide +kernel
theorem am_ok291 (i : Nat) : am_eOk 291 i := by
  have hy : 291 < am_law → am_cP 291 := fun _ => am_cms 291 (by decide)
  have hw : ∀ w ∈ am_ewE (am_nm 291).cls (am_at 291 i), w ∈ am_G := fun w h => am_wl291 w (am_ewA_in h)
  refine am_e_ok hy hw ?_
  by_cases h0 : i < 62
  · exact List.all_eq_true.mp am_be291_0 i (List.mem_range'_1.mpr ⟨by omega, by omega⟩)
  exact am_eb_out (am_len_out (n := 62) (by decide) (by omega))
set_option maxRecDepth 100000 in
theorem am_wl292 : ∀ w ∈ am_ewA (am_nm 292).cls (am_prog 292), w ∈ am_G := by
  have e : am_ewA (am_nm 292).cls (am_prog 292) = [am_u340, am_u543, am_u352, am_u957] := rfl
  rw [e]
  exact List.forall_mem_cons.mpr ⟨am_v340, List.forall_mem_cons.mpr ⟨am_v543, List.forall_mem_cons.mpr ⟨am_v352, List.forall_mem_cons.mpr ⟨am_v957, fun _ h => absurd h List.not_mem_nil⟩⟩⟩⟩
theorem am_be292_0 : (List.range' 0 20).all (am_eb 292) = true := by decide +kernel
theorem am_ok292 (i : Nat) : am_eOk 292 i := by
  have hy : 292 < am_law → am_cP 292 := fun _ => am_cms 292 (by decide)
  have hw : ∀ w ∈ am_ewE (am_nm 292).cls (am_at 292 i), w ∈ am_G := fun w h => am_wl292 w (am_ewA_in h)
  refine am_e_ok hy hw ?_
  by_cases h0 : i < 20
  · exact List.all_eq_true.mp am_be292_0 i (List.mem_range'_1.mpr ⟨by omega, by omega⟩)
  exact am_eb_out (am_len_out (n := 20) (by decide) (by omega))
set_option maxRecDepth 100000 in
theorem am_wl293 : ∀ w ∈ am_ewA (am_nm 293).cls (am_prog 293), w ∈ am_G := by
  have e : am_ewA (am_nm 293).cls (am_prog 293) = [am_u340, am_u543, am_u352, am_u968] := rfl
  rw [e]
  exact List.forall_mem_cons.mpr ⟨am_v340, List.forall_mem_cons.mpr ⟨am_v543, List.forall_mem_cons.mpr ⟨am_v352, List.forall_mem_cons.mpr ⟨am_v968, fun _ h => absurd h List.not_mem_nil⟩⟩⟩⟩
theorem am_be293_0 : (List.range' 0 20).all (am_eb 293) = true := by decide +kernel
theorem am_ok293 (i : Nat) : am_eOk 293 i := by
  have hy : 293 < am_law → am_cP 293 := fun _ => am_cms 293 (by decide)
  have hw : ∀ w ∈ am_ewE (am_nm 293).cls (am_at 293 i), w ∈ am_G := fun w h => am_wl293 w (am_ewA_in h)
  refine am_e_ok hy hw ?_
  by_cases h0 : i < 20
  · exact List.all_eq_true.mp am_be293_0 i (List.mem_range'_1.mpr ⟨by omega, by omega⟩)
  exact am_eb_out (am_len_out (n := 20) (by decide) (by omega))
set_option maxRecDepth 100000 in
theorem am_wl294 : ∀ w ∈ am_ewA (am_nm 294).cls (am_prog 294), w ∈ am_G := by
  have e : am_ewA (am_nm 294).cls (am_prog 294) = [am_u340, am_u438, am_u352, am_u977] := rfl
  rw [e]
  exact List.forall_mem_cons.mpr ⟨am_v340, List.forall_mem_cons.mpr ⟨am_v438, List.forall_mem_cons.mpr ⟨am_v352, List.forall_mem_cons.mpr ⟨am_v977, fun _ h => absurd h List.not_mem_nil⟩⟩⟩⟩
theorem am_be294_0 : (List.range' 0 14).all (am_eb 294) = true := by decide +kernel
theorem am_ok294 (i : Nat) : am_eOk 294 i := by
  have hy : 294 < am_law → am_cP 294 := fun _ => am_cms 294 (by decide)
  have hw : ∀ w ∈ am_ewE (am_nm 294).cls (am_at 294 i), w ∈ am_G := fun w h => am_wl294 w (am_ewA_in h)
  refine am_e_ok hy hw ?_
  by_cases h0 : i < 14
  · exact List.all_eq_true.mp am_be294_0 i (List.mem_range'_1.mpr ⟨by omega, by omega⟩)
  exact am_eb_out (am_len_out (n := 14) (by decide) (by omega))
set_option maxRecDepth 100000 in
theorem am_wl295 : ∀ w ∈ am_ewA (am_nm 295).cls (am_prog 295), w ∈ am_G := by
  have e : am_ewA (am_nm 295).cls (am_prog 295) = [am_u1197, am_u1200, am_u1211, am_u1200, am_u1212, am_u1216, am_u1217, am_u1218, am_u1219, am_u1222, am_u1225, am_u1226, am_u1233, am_u1415, am_u1216, am_u1225, am_u1214, am_u1225, am_u1456, am_u1476, am_u1503, am_u1529, am_u1533, am_u1216, am_u1201, am_u1217, am_u1202, am_u1216, am_u1197, am_u1203, am_u1226, am_u1226, am_u1204, am_u1228, am_u1205, am_u1229, am_u1206, am_u1230, am_u1207, am_u1231, am_u1208, am_u1232, am_u1233, am_u1209, am_u1234, am_u1210, am_u1235, am_u1197] := rfl
  rw [e]
  exact List.forall_mem_cons.mpr ⟨am_v1197, List.forall_mem_cons.mpr ⟨am_v1200, List.forall_mem_cons.mpr ⟨am_v1211, List.forall_mem_cons.mpr ⟨am_v1200, List.forall_mem_cons.mpr ⟨am_v1212, List.forall_mem_cons.mpr ⟨am_v1216, List.forall_mem_cons.mpr ⟨am_v1217, List.forall_mem_cons.mpr ⟨am_v1218, List.forall_mem_cons.mpr ⟨am_v1219, List.forall_mem_cons.mpr ⟨am_v1222, List.forall_mem_cons.mpr ⟨am_v1225, List.forall_mem_cons.mpr ⟨am_v1226, List.forall_mem_cons.mpr ⟨am_v1233, List.forall_mem_cons.mpr ⟨am_v1415, List.forall_mem_cons.mpr ⟨am_v1216, List.forall_mem_cons.mpr ⟨am_v1225, List.forall_mem_cons.mpr ⟨am_v1214, List.forall_mem_cons.mpr ⟨am_v1225, List.forall_mem_cons.mpr ⟨am_v1456, List.forall_mem_cons.mpr ⟨am_v1476, List.forall_mem_cons.mpr ⟨am_v1503, List.forall_mem_cons.mpr ⟨am_v1529, List.forall_mem_cons.mpr ⟨am_v1533, List.forall_mem_cons.mpr ⟨am_v1216, List.forall_mem_cons.mpr ⟨am_v1201, List.forall_mem_cons.mpr ⟨am_v1217, List.forall_mem_cons.mpr ⟨am_v1202, List.forall_mem_cons.mpr ⟨am_v1216, List.forall_mem_cons.mpr ⟨am_v1197, List.forall_mem_cons.mpr ⟨am_v1203, List.forall_mem_cons.mpr ⟨am_v1226, List.forall_mem_cons.mpr ⟨am_v1226, List.forall_mem_cons.mpr ⟨am_v1204, List.forall_mem_cons.mpr ⟨am_v1228, List.forall_mem_cons.mpr ⟨am_v1205, List.forall_mem_cons.mpr ⟨am_v1229, List.forall_mem_cons.mpr ⟨am_v1206, List.forall_mem_cons.mpr ⟨am_v1230, List.forall_mem_cons.mpr ⟨am_v1207, List.forall_mem_cons.mpr ⟨am_v1231, List.forall_mem_cons.mpr ⟨am_v1208, List.forall_mem_cons.mpr ⟨am_v1232, List.forall_mem_cons.mpr ⟨am_v1233, List.forall_mem_cons.mpr ⟨am_v1209, List.forall_mem_cons.mpr ⟨am_v1234, List.forall_mem_cons.mpr ⟨am_v1210, List.forall_mem_cons.mpr ⟨am_v1235, List.forall_mem_cons.mpr ⟨am_v1197, fun _ h => absurd h List.not_mem_nil⟩⟩⟩⟩⟩⟩⟩⟩⟩⟩⟩⟩⟩⟩⟩⟩⟩⟩⟩⟩⟩⟩⟩⟩⟩⟩⟩⟩⟩⟩⟩⟩⟩⟩⟩⟩⟩⟩⟩⟩⟩⟩⟩⟩⟩⟩⟩⟩
theorem am_be295_0 : (List.range' 0 64).all (am_eb 295) = true := by decide +kernel
theorem am_be295_1 : (List.range' 64 64).all (am_eb 295) = true := by decide +kernel
theorem am_be295_2 : (List.range' 128 64).all (am_eb 295) = true := by decide +kernel
theorem am_be295_3 : (List.range' 192 23).all (am_eb 295) = true := by decide +kernel
theorem am_ok295 (i : Nat) : am_eOk 295 i := by
  have hy : 295 < am_law → am_cP 295 := fun _ => am_cms 295 (by decide)
  have hw : ∀ w ∈ am_ewE (am_nm 295).cls (am_at 295 i), w ∈ am_G := fun w h => am_wl295 w (am_ewA_in h)
  refine am_e_ok hy hw ?_
  by_cases h0 : i < 64
  · exact List.all_eq_true.mp am_be295_0 i (List.mem_range'_1.mpr ⟨by omega, by omega⟩)
  by_cases h1 : i < 128
  · exact List.all_eq_true.mp am_be295_1 i (List.mem_range'_1.mpr ⟨by omega, by omega⟩)
  by_cases h2 : i < 192
  · exact List.all_eq_true.mp am_be295_2 i (List.mem_range'_1.mpr ⟨by omega, by omega⟩)
  by_cases h3 : i < 215
  · exact List.all_eq_true.mp am_be295_3 i (List.mem_range'_1.mpr ⟨by omega, by omega⟩)
  exact am_eb_out (am_len_out (n := 215) (by decide) (by omega))
set_option maxRecDepth 100000 in
theorem am_wl296 : ∀ w ∈ am_ewA (am_nm 296).cls (am_prog 296), w ∈ am_G := by
  have e : am_ewA (am_nm 296).cls (am_prog 296) = [am_u1573, am_u1577, am_u1640] := rfl
  rw [e]
  exact List.forall_mem_cons.mpr ⟨am_v1573, List.forall_mem_cons.mpr ⟨am_v1577, List.forall_mem_cons.mpr ⟨am_v1640, fun _ h => absurd h List.not_mem_nil⟩⟩⟩
theorem am_be296_0 : (List.range' 0 8).all (am_eb 296) = true := by decide +kernel
theorem am_ok296 (i : Nat) : am_eOk 296 i := by
  have hy : 296 < am_law → am_cP 296 := fun _ => am_cms 296 (by decide)
  have hw : ∀ w ∈ am_ewE (am_nm 296).cls (am_at 296 i), w ∈ am_G := fun w h => am_wl296 w (am_ewA_in h)
  refine am_e_ok hy hw ?_
  by_cases h0 : i < 8
  · exact List.all_eq_true.mp am_be296_0 i (List.mem_range'_1.mpr ⟨by omega, by omega⟩)
  exact am_eb_out (am_len_out (n := 8) (by decide) (by omega))
set_option maxRecDepth 100000 in
theorem am_wl297 : ∀ w ∈ am_ewA (am_nm 297).cls (am_prog 297), w ∈ am_G := by
  have e : am_ewA (am_nm 297).cls (am_prog 297) = [am_u1365, am_u1660, am_u1573, am_u1577, am_u1629] := rfl
  rw [e]
  exact List.forall_mem_cons.mpr ⟨am_v1365, List.forall_mem_cons.mpr ⟨am_v1660, List.forall_mem_cons.mpr ⟨am_v1573, List.forall_mem_cons.mpr ⟨am_v1577, List.forall_mem_cons.mpr ⟨am_v1629, fun _ h => absurd h List.not_mem_nil⟩⟩⟩⟩⟩
theorem am_be297_0 : (List.range' 0 29).all (am_eb 297) = true := by decide +kernel
theorem am_ok297 (i : Nat) : am_eOk 297 i := by
  have hy : 297 < am_law → am_cP 297 := fun _ => am_cms 297 (by decide)
  have hw : ∀ w ∈ am_ewE (am_nm 297).cls (am_at 297 i), w ∈ am_G := fun w h => am_wl297 w (am_ewA_in h)
  refine am_e_ok hy hw ?_
  by_cases h0 : i < 29
  · exact List.all_eq_true.mp am_be297_0 i (List.mem_range'_1.mpr ⟨by omega, by omega⟩)
  exact am_eb_out (am_len_out (n := 29) (by decide) (by omega))
set_option maxRecDepth 100000 in
theorem am_wl298 : ∀ w ∈ am_ewA (am_nm 298).cls (am_prog 298), w ∈ am_G := by
  have e : am_ewA (am_nm 298).cls (am_prog 298) = [am_u1365, am_u1660, am_u1573, am_u1243, am_u1577] := rfl
  rw [e]
  exact List.forall_mem_cons.mpr ⟨am_v1365, List.forall_mem_cons.mpr ⟨am_v1660, List.forall_mem_cons.mpr ⟨am_v1573, List.forall_mem_cons.mpr ⟨am_v1243, List.forall_mem_cons.mpr ⟨am_v1577, fun _ h => absurd h List.not_mem_nil⟩⟩⟩⟩⟩
theorem am_be298_0 : (List.range' 0 35).all (am_eb 298) = true := by decide +kernel
theorem am_ok298 (i : Nat) : am_eOk 298 i := by
  have hy : 298 < am_law → am_cP 298 := fun _ => am_cms 298 (by decide)
  have hw : ∀ w ∈ am_ewE (am_nm 298).cls (am_at 298 i), w ∈ am_G := fun w h => am_wl298 w (am_ewA_in h)
  refine am_e_ok hy hw ?_
  by_cases h0 : i < 35
  · exact List.all_eq_true.mp am_be298_0 i (List.mem_range'_1.mpr ⟨by omega, by omega⟩)
  exact am_eb_out (am_len_out (n := 35) (by decide) (by omega))
set_option maxRecDepth 100000 in
theorem am_wl299 : ∀ w ∈ am_ewA (am_nm 299).cls (am_prog 299), w ∈ am_G := by
  have e : am_ewA (am_nm 299).cls (am_prog 299) = [am_u1660, am_u1372, am_u1573, am_u1633, am_u1243, am_u1577, am_u1633] := rfl
  rw [e]
  exact List.forall_mem_cons.mpr ⟨am_v1660, List.forall_mem_cons.mpr ⟨am_v1372, List.forall_mem_cons.mpr ⟨am_v1573, List.forall_mem_cons.mpr ⟨am_v1633, List.forall_mem_cons.mpr ⟨am_v1243, List.forall_mem_cons.mpr ⟨am_v1577, List.forall_mem_cons.mpr ⟨am_v1633, fun _ h => absurd h List.not_mem_nil⟩⟩⟩⟩⟩⟩⟩
theorem am_be299_0 : (List.range' 0 46).all (am_eb 299) = true := by decide +kernel
theorem am_ok299 (i : Nat) : am_eOk 299 i := by
  have hy : 299 < am_law → am_cP 299 := fun _ => am_cms 299 (by decide)
  have hw : ∀ w ∈ am_ewE (am_nm 299).cls (am_at 299 i), w ∈ am_G := fun w h => am_wl299 w (am_ewA_in h)
  refine am_e_ok hy hw ?_
  by_cases h0 : i < 46
  · exact List.all_eq_true.mp am_be299_0 i (List.mem_range'_1.mpr ⟨by omega, by omega⟩)
  exact am_eb_out (am_len_out (n := 46) (by decide) (by omega))
set_option maxRecDepth 100000 in
theorem am_wl300 : ∀ w ∈ am_ewA (am_nm 300).cls (am_prog 300), w ∈ am_G := by
  have e : am_ewA (am_nm 300).cls (am_prog 300) = [am_u340, am_u64, am_u346, am_u349, am_u347, am_u348, am_u346, am_u667, am_u348, am_u340, am_u64] := rfl
  rw [e]
  exact List.forall_mem_cons.mpr ⟨am_v340, List.forall_mem_cons.mpr ⟨am_v64, List.forall_mem_cons.mpr ⟨am_v346, List.forall_mem_cons.mpr ⟨am_v349, List.forall_mem_cons.mpr ⟨am_v347, List.forall_mem_cons.mpr ⟨am_v348, List.forall_mem_cons.mpr ⟨am_v346, List.forall_mem_cons.mpr ⟨am_v667, List.forall_mem_cons.mpr ⟨am_v348, List.forall_mem_cons.mpr ⟨am_v340, List.forall_mem_cons.mpr ⟨am_v64, fun _ h => absurd h List.not_mem_nil⟩⟩⟩⟩⟩⟩⟩⟩⟩⟩⟩
theorem am_be300_0 : (List.range' 0 41).all (am_eb 300) = true := by decide +kernel
theorem am_ok300 (i : Nat) : am_eOk 300 i := by
  have hy : 300 < am_law → am_cP 300 := fun _ => am_cms 300 (by decide)
  have hw : ∀ w ∈ am_ewE (am_nm 300).cls (am_at 300 i), w ∈ am_G := fun w h => am_wl300 w (am_ewA_in h)
  refine am_e_ok hy hw ?_
  by_cases h0 : i < 41
  · exact List.all_eq_true.mp am_be300_0 i (List.mem_range'_1.mpr ⟨by omega, by omega⟩)
  exact am_eb_out (am_len_out (n := 41) (by decide) (by omega))
set_option maxRecDepth 100000 in
theorem am_wl301 : ∀ w ∈ am_ewA (am_nm 301).cls (am_prog 301), w ∈ am_G := by
  have e : am_ewA (am_nm 301).cls (am_prog 301) = [am_u1365, am_u1197, am_u1565, am_u1569, am_u1644] := rfl
  rw [e]
  exact List.forall_mem_cons.mpr ⟨am_v1365, List.forall_mem_cons.mpr ⟨am_v1197, List.forall_mem_cons.mpr ⟨am_v1565, List.forall_mem_cons.mpr ⟨am_v1569, List.forall_mem_cons.mpr ⟨am_v1644, fun _ h => absurd h List.not_mem_nil⟩⟩⟩⟩⟩
theorem am_be301_0 : (List.range' 0 31).all (am_eb 301) = true := by decide +kernel
theorem am_ok301 (i : Nat) : am_eOk 301 i := by
  have hy : 301 < am_law → am_cP 301 := fun _ => am_cms 301 (by decide)
  have hw : ∀ w ∈ am_ewE (am_nm 301).cls (am_at 301 i), w ∈ am_G := fun w h => am_wl301 w (am_ewA_in h)
  refine am_e_ok hy hw ?_
  by_cases h0 : i < 31
  · exact List.all_eq_true.mp am_be301_0 i (List.mem_range'_1.mpr ⟨by omega, by omega⟩)
  exact am_eb_out (am_len_out (n := 31) (by decide) (by omega))
set_option maxRecDepth 100000 in
theorem am_wl302 : ∀ w ∈ am_ewA (am_nm 302).cls (am_prog 302), w ∈ am_G := by
  have e : am_ewA (am_nm 302).cls (am_prog 302) = [am_u1720, am_u1197, am_u1569, am_u1197, am_u1720, am_u1656, am_u1688, am_u1197, am_u1720, am_u1720, am_u1652, am_u1664, am_u1656, am_u1672, am_u1656, am_u1197, am_u1197] := rfl
  rw [e]
  exact List.forall_mem_cons.mpr ⟨am_v1720, List.forall_mem_cons.mpr ⟨am_v1197, List.forall_mem_cons.mpr ⟨am_v1569, List.forall_mem_cons.mpr ⟨am_v1197, List.forall_mem_cons.mpr ⟨am_v1720, List.forall_mem_cons.mpr ⟨am_v1656, List.forall_mem_cons.mpr ⟨am_v1688, List.forall_mem_cons.mpr ⟨am_v1197, List.forall_mem_cons.mpr ⟨am_v1720, List.forall_mem_cons.mpr ⟨am_v1720, List.forall_mem_cons.mpr ⟨am_v1652, List.forall_mem_cons.mpr ⟨am_v1664, List.forall_mem_cons.mpr ⟨am_v1656, List.forall_mem_cons.mpr ⟨am_v1672, List.forall_mem_cons.mpr ⟨am_v1656, List.forall_mem_cons.mpr ⟨am_v1197, List.forall_mem_cons.mpr ⟨am_v1197, fun _ h => absurd h List.not_mem_nil⟩⟩⟩⟩⟩⟩⟩⟩⟩⟩⟩⟩⟩⟩⟩⟩⟩
theorem am_be302_0 : (List.range' 0 64).all (am_eb 302) = true := by decide +kernel
theorem am_be302_1 : (List.range' 64 41).all (am_eb 302) = true := by decide +kernel
theorem am_ok302 (i : Nat) : am_eOk 302 i := by
  have hy : 302 < am_law → am_cP 302 := fun _ => am_cms 302 (by decide)
  have hw : ∀ w ∈ am_ewE (am_nm 302).cls (am_at 302 i), w ∈ am_G := fun w h => am_wl302 w (am_ewA_in h)
  refine am_e_ok hy hw ?_
  by_cases h0 : i < 64
  · exact List.all_eq_true.mp am_be302_0 i (List.mem_range'_1.mpr ⟨by omega, by omega⟩)
  by_cases h1 : i < 105
  · exact List.all_eq_true.mp am_be302_1 i (List.mem_range'_1.mpr ⟨by omega, by omega⟩)
  exact am_eb_out (am_len_out (n := 105) (by decide) (by omega))
set_option maxRecDepth 100000 in
theorem am_wl303 : ∀ w ∈ am_ewA (am_nm 303).cls (am_prog 303), w ∈ am_G := by
  have e : am_ewA (am_nm 303).cls (am_prog 303) = [am_u1365, am_u1365, am_u1197, am_u1197, am_u1565, am_u1197, am_u1716, am_u1644] := rfl
  rw [e]
  exact List.forall_mem_cons.mpr ⟨am_v1365, List.forall_mem_cons.mpr ⟨am_v1365, List.forall_mem_cons.mpr ⟨am_v1197, List.forall_mem_cons.mpr ⟨am_v1197, List.forall_mem_cons.mpr ⟨am_v1565, List.forall_mem_cons.mpr ⟨am_v1197, List.forall_mem_cons.mpr ⟨am_v1716, List.forall_mem_cons.mpr ⟨am_v1644, fun _ h => absurd h List.not_mem_nil⟩⟩⟩⟩⟩⟩⟩⟩
theorem am_be303_0 : (List.range' 0 47).all (am_eb 303) = true := by decide +kernel
theorem am_ok303 (i : Nat) : am_eOk 303 i := by
  have hy : 303 < am_law → am_cP 303 := fun _ => am_cms 303 (by decide)
  have hw : ∀ w ∈ am_ewE (am_nm 303).cls (am_at 303 i), w ∈ am_G := fun w h => am_wl303 w (am_ewA_in h)
  refine am_e_ok hy hw ?_
  by_cases h0 : i < 47
  · exact List.all_eq_true.mp am_be303_0 i (List.mem_range'_1.mpr ⟨by omega, by omega⟩)
  exact am_eb_out (am_len_out (n := 47) (by decide) (by omega))
set_option maxRecDepth 100000 in
theorem am_wl304 : ∀ w ∈ am_ewA (am_nm 304).cls (am_prog 304), w ∈ am_G := by
  have e : am_ewA (am_nm 304).cls (am_prog 304) = [am_u1739] := rfl
  rw [e]
  exact List.forall_mem_cons.mpr ⟨am_v1739, fun _ h => absurd h List.not_mem_nil⟩
theorem am_be304_0 : (List.range' 0 17).all (am_eb 304) = true := by decide +kernel
theorem am_ok304 (i : Nat) : am_eOk 304 i := by
  have hy : 304 < am_law → am_cP 304 := fun _ => am_cms 304 (by decide)
  have hw : ∀ w ∈ am_ewE (am_nm 304).cls (am_at 304 i), w ∈ am_G := fun w h => am_wl304 w (am_ewA_in h)
  refine am_e_ok hy hw ?_
  by_cases h0 : i < 17
  · exact List.all_eq_true.mp am_be304_0 i (List.mem_range'_1.mpr ⟨by omega, by omega⟩)
  exact am_eb_out (am_len_out (n := 17) (by decide) (by omega))
set_option maxRecDepth 100000 in
theorem am_wl305 : ∀ w ∈ am_ewA (am_nm 305).cls (am_prog 305), w ∈ am_G := by
  have e : am_ewA (am_nm 305).cls (am_prog 305) = [am_u1197, am_u1365, am_u1203, am_u1206, am_u1207, am_u1204, am_u1208, am_u1728, am_u1208, am_u1729, am_u1730, am_u1660, am_u1197, am_u1376, am_u1731, am_u1732, am_u1733, am_u1734, am_u1735] := rfl
  rw [e]
  exact List.forall_mem_cons.mpr ⟨am_v1197, List.forall_mem_cons.mpr ⟨am_v1365, List.forall_mem_cons.mpr ⟨am_v1203, List.forall_mem_cons.mpr ⟨am_v1206, List.forall_mem_cons.mpr ⟨am_v1207, List.forall_mem_cons.mpr ⟨am_v1204, List.forall_mem_cons.mpr ⟨am_v1208, List.forall_mem_cons.mpr ⟨am_v1728, List.forall_mem_cons.mpr ⟨am_v1208, List.forall_mem_cons.mpr ⟨am_v1729, List.forall_mem_cons.mpr ⟨am_v1730, List.forall_mem_cons.mpr ⟨am_v1660, List.forall_mem_cons.mpr ⟨am_v1197, List.forall_mem_cons.mpr ⟨am_v1376, List.forall_mem_cons.mpr ⟨am_v1731, List.forall_mem_cons.mpr ⟨am_v1732, List.forall_mem_cons.mpr ⟨am_v1733, List.forall_mem_cons.mpr ⟨am_v1734, List.forall_mem_cons.mpr ⟨am_v1735, fun _ h => absurd h List.not_mem_nil⟩⟩⟩⟩⟩⟩⟩⟩⟩⟩⟩⟩⟩⟩⟩⟩⟩⟩⟩
theorem am_be305_0 : (List.range' 0 64).all (am_eb 305) = true := by decide +kernel
theorem am_be305_1 : (List.range' 64 64).all (am_eb 305) = true := by decide +kernel
theorem am_be305_2 : (List.range' 128 19).all (am_eb 305) = true := by decide +kernel
theorem am_ok305 (i : Nat) : am_eOk 305 i := by
  have hy : 305 < am_law → am_cP 305 := fun _ => am_cms 305 (by decide)
  have hw : ∀ w ∈ am_ewE (am_nm 305).cls (am_at 305 i), w ∈ am_G := fun w h => am_wl305 w (am_ewA_in h)
  refine am_e_ok hy hw ?_
  by_cases h0 : i < 64
  · exact List.all_eq_true.mp am_be305_0 i (List.mem_range'_1.mpr ⟨by omega, by omega⟩)
  by_cases h1 : i < 128
  · exact List.all_eq_true.mp am_be305_1 i (List.mem_range'_1.mpr ⟨by omega, by omega⟩)
  by_cases h2 : i < 147
  · exact List.all_eq_true.mp am_be305_2 i (List.mem_range'_1.mpr ⟨by omega, by omega⟩)
  exact am_eb_out (am_len_out (n := 147) (by decide) (by omega))
