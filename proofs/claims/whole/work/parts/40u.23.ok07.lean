/-! rows of the methods 259 .. 285 -/
set_option maxRecDepth 100000 in
theorem am_wl259 : ∀ w ∈ am_ewA (am_nm 259).cls (am_prog 259), w ∈ am_G := by
  have e : am_ewA (am_nm 259).cls (am_prog 259) = [am_u1136, am_u305, am_u50, am_u1140, am_u1144] := rfl
  rw [e]
  exact List.forall_mem_cons.mpr ⟨am_v1136, List.forall_mem_cons.mpr ⟨am_v305, List.forall_mem_cons.mpr ⟨am_v50, List.forall_mem_cons.mpr ⟨am_v1140, List.forall_mem_cons.mpr ⟨am_v1144, fun _ h => absurd h List.not_mem_nil⟩⟩⟩⟩⟩
theorem am_be259_0 : (List.range' 0 38).all (am_eb 259) = true := by decide +kernel
theorem am_ok259 (i : Nat) : am_eOk 259 i := by
  have hy : 259 < am_law → am_cP 259 := fun _ => am_cms 259 (by decide)
  have hw : ∀ w ∈ am_ewE (am_nm 259).cls (am_at 259 i), w ∈ am_G := fun w h => am_wl259 w (am_ewA_in h)
  refine am_e_ok hy hw ?_
  by_cases h0 : i < 38
  · exact List.all_eq_true.mp am_be259_0 i (List.mem_range'_1.mpr ⟨by omega, by omega⟩)
  exact am_eb_out (am_len_out (n := 38) (by decide) (by omega))
set_option maxRecDepth 100000 in
theorem am_wl260 : ∀ w ∈ am_ewA (am_nm 260).cls (am_prog 260), w ∈ am_G := by
  have e : am_ewA (am_nm 260).cls (am_prog 260) = [am_u1136, am_u305, am_u50, am_u1079, am_u305, am_u1140, am_u1152, am_u1164] := rfl
  rw [e]
  exact List.forall_mem_cons.mpr ⟨am_v1136, List.forall_mem_cons.mpr ⟨am_v305, List.forall_mem_cons.mpr ⟨am_v50, List.forall_mem_cons.mpr ⟨am_v1079, List.forall_mem_cons.mpr ⟨am_v305, List.forall_mem_cons.mpr ⟨am_v1140, List.forall_mem_cons.mpr ⟨am_v1152, List.forall_mem_cons.mpr ⟨am_v1164, fun _ h => absurd h List.not_mem_nil⟩⟩⟩⟩⟩⟩⟩⟩
theorem am_be260_0 : (List.range' 0 32).all (am_eb 260) = true := by decide +kernel
theorem am_ok260 (i : Nat) : am_eOk 260 i := by
  have hy : 260 < am_law → am_cP 260 := fun _ => am_cms 260 (by decide)
  have hw : ∀ w ∈ am_ewE (am_nm 260).cls (am_at 260 i), w ∈ am_G := fun w h => am_wl260 w (am_ewA_in h)
  refine am_e_ok hy hw ?_
  by_cases h0 : i < 32
  · exact List.all_eq_true.mp am_be260_0 i (List.mem_range'_1.mpr ⟨by omega, by omega⟩)
  exact am_eb_out (am_len_out (n := 32) (by decide) (by omega))
set_option maxRecDepth 100000 in
theorem am_wl261 : ∀ w ∈ am_ewA (am_nm 261).cls (am_prog 261), w ∈ am_G := by
  have e : am_ewA (am_nm 261).cls (am_prog 261) = [am_u340, am_u543, am_u342, am_u490, am_u344, am_u342, am_u458, am_u351, am_u342, am_u593] := rfl
  rw [e]
  exact List.forall_mem_cons.mpr ⟨am_v340, List.forall_mem_cons.mpr ⟨am_v543, List.forall_mem_cons.mpr ⟨am_v342, List.forall_mem_cons.mpr ⟨am_v490, List.forall_mem_cons.mpr ⟨am_v344, List.forall_mem_cons.mpr ⟨am_v342, List.forall_mem_cons.mpr ⟨am_v458, List.forall_mem_cons.mpr ⟨am_v351, List.forall_mem_cons.mpr ⟨am_v342, List.forall_mem_cons.mpr ⟨am_v593, fun _ h => absurd h List.not_mem_nil⟩⟩⟩⟩⟩⟩⟩⟩⟩⟩
theorem am_be261_0 : (List.range' 0 25).all (am_eb 261) = true := by decide +kernel
theorem am_ok261 (i : Nat) : am_eOk 261 i := by
  have hy : 261 < am_law → am_cP 261 := fun _ => am_cms 261 (by decide)
  have hw : ∀ w ∈ am_ewE (am_nm 261).cls (am_at 261 i), w ∈ am_G := fun w h => am_wl261 w (am_ewA_in h)
  refine am_e_ok hy hw ?_
  by_cases h0 : i < 25
  · exact List.all_eq_true.mp am_be261_0 i (List.mem_range'_1.mpr ⟨by omega, by omega⟩)
  exact am_eb_out (am_len_out (n := 25) (by decide) (by omega))
set_option maxRecDepth 100000 in
theorem am_wl262 : ∀ w ∈ am_ewA (am_nm 262).cls (am_prog 262), w ∈ am_G := by
  have e : am_ewA (am_nm 262).cls (am_prog 262) = [am_u340, am_u543, am_u342, am_u490, am_u352, am_u986, am_u352, am_u992] := rfl
  rw [e]
  exact List.forall_mem_cons.mpr ⟨am_v340, List.forall_mem_cons.mpr ⟨am_v543, List.forall_mem_cons.mpr ⟨am_v342, List.forall_mem_cons.mpr ⟨am_v490, List.forall_mem_cons.mpr ⟨am_v352, List.forall_mem_cons.mpr ⟨am_v986, List.forall_mem_cons.mpr ⟨am_v352, List.forall_mem_cons.mpr ⟨am_v992, fun _ h => absurd h List.not_mem_nil⟩⟩⟩⟩⟩⟩⟩⟩
theorem am_be262_0 : (List.range' 0 52).all (am_eb 262) = true := by decide +kernel
theorem am_ok262 (i : Nat) : am_eOk 262 i := by
  have hy : 262 < am_law → am_cP 262 := fun _ => am_cms 262 (by decide)
  have hw : ∀ w ∈ am_ewE (am_nm 262).cls (am_at 262 i), w ∈ am_G := fun w h => am_wl262 w (am_ewA_in h)
  refine am_e_ok hy hw ?_
  by_cases h0 : i < 52
  · exact List.all_eq_true.mp am_be262_0 i (List.mem_range'_1.mpr ⟨by omega, by omega⟩)
  exact am_eb_out (am_len_out (n := 52) (by decide) (by omega))
set_option maxRecDepth 100000 in
theorem am_wl263 : ∀ w ∈ am_ewA (am_nm 263).cls (am_prog 263), w ∈ am_G := by
  have e : am_ewA (am_nm 263).cls (am_prog 263) = [am_u340, am_u543, am_u1047, am_u353, am_u1048] := rfl
  rw [e]
  exact List.forall_mem_cons.mpr ⟨am_v340, List.forall_mem_cons.mpr ⟨am_v543, List.forall_mem_cons.mpr ⟨am_v1047, List.forall_mem_cons.mpr ⟨am_v353, List.forall_mem_cons.mpr ⟨am_v1048, fun _ h => absurd h List.not_mem_nil⟩⟩⟩⟩⟩
theorem am_be263_0 : (List.range' 0 26).all (am_eb 263) = true := by decide +kernel
theorem am_ok263 (i : Nat) : am_eOk 263 i := by
  have hy : 263 < am_law → am_cP 263 := fun _ => am_cms 263 (by decide)
  have hw : ∀ w ∈ am_ewE (am_nm 263).cls (am_at 263 i), w ∈ am_G := fun w h => am_wl263 w (am_ewA_in h)
  refine am_e_ok hy hw ?_
  by_cases h0 : i < 26
  · exact List.all_eq_true.mp am_be263_0 i (List.mem_range'_1.mpr ⟨by omega, by omega⟩)
  exact am_eb_out (am_len_out (n := 26) (by decide) (by omega))
set_option maxRecDepth 100000 in
theorem am_wl264 : ∀ w ∈ am_ewA (am_nm 264).cls (am_prog 264), w ∈ am_G := by
  have e : am_ewA (am_nm 264).cls (am_prog 264) = [am_u1227, am_u1545, am_u1545, am_u1227, am_u1549, am_u1549, am_u1549, am_u1549, am_u1549, am_u1230, am_u1226, am_u1231, am_u1226, am_u1232, am_u1226] := rfl
  rw [e]
  exact List.forall_mem_cons.mpr ⟨am_v1227, List.forall_mem_cons.mpr ⟨am_v1545, List.forall_mem_cons.mpr ⟨am_v1545, List.forall_mem_cons.mpr ⟨am_v1227, List.forall_mem_cons.mpr ⟨am_v1549, List.forall_mem_cons.mpr ⟨am_v1549, List.forall_mem_cons.mpr ⟨am_v1549, List.forall_mem_cons.mpr ⟨am_v1549, List.forall_mem_cons.mpr ⟨am_v1549, List.forall_mem_cons.mpr ⟨am_v1230, List.forall_mem_cons.mpr ⟨am_v1226, List.forall_mem_cons.mpr ⟨am_v1231, List.forall_mem_cons.mpr ⟨am_v1226, List.forall_mem_cons.mpr ⟨am_v1232, List.forall_mem_cons.mpr ⟨am_v1226, fun _ h => absurd h List.not_mem_nil⟩⟩⟩⟩⟩⟩⟩⟩⟩⟩⟩⟩⟩⟩⟩
theorem am_be264_0 : (List.range' 0 64).all (am_eb 264) = true := by decide +kernel
theorem am_be264_1 : (List.range' 64 11).all (am_eb 264) = true := by decide +kernel
theorem am_ok264 (i : Nat) : am_eOk 264 i := by
  have hy : 264 < am_law → am_cP 264 := fun _ => am_cms 264 (by decide)
  have hw : ∀ w ∈ am_ewE (am_nm 264).cls (am_at 264 i), w ∈ am_G := fun w h => am_wl264 w (am_ewA_in h)
  refine am_e_ok hy hw ?_
  by_cases h0 : i < 64
  · exact List.all_eq_true.mp am_be264_0 i (List.mem_range'_1.mpr ⟨by omega, by omega⟩)
  by_cases h1 : i < 75
  · exact List.all_eq_true.mp am_be264_1 i (List.mem_range'_1.mpr ⟨by omega, by omega⟩)
  exact am_eb_out (am_len_out (n := 75) (by decide) (by omega))
set_option maxRecDepth 100000 in
theorem am_wl265 : ∀ w ∈ am_ewA (am_nm 265).cls (am_prog 265), w ∈ am_G := by
  have e : am_ewA (am_nm 265).cls (am_prog 265) = [am_u1629, am_u1637, am_u1243, am_u1197] := rfl
  rw [e]
  exact List.forall_mem_cons.mpr ⟨am_v1629, List.forall_mem_cons.mpr ⟨am_v1637, List.forall_mem_cons.mpr ⟨am_v1243, List.forall_mem_cons.mpr ⟨am_v1197, fun _ h => absurd h List.not_mem_nil⟩⟩⟩⟩
theorem am_be265_0 : (List.range' 0 20).all (am_eb 265) = true := by decide +kernel
theorem am_ok265 (i : Nat) : am_eOk 265 i := by
  have hy : 265 < am_law → am_cP 265 := fun _ => am_cms 265 (by decide)
  have hw : ∀ w ∈ am_ewE (am_nm 265).cls (am_at 265 i), w ∈ am_G := fun w h => am_wl265 w (am_ewA_in h)
  refine am_e_ok hy hw ?_
  by_cases h0 : i < 20
  · exact List.all_eq_true.mp am_be265_0 i (List.mem_range'_1.mpr ⟨by omega, by omega⟩)
  exact am_eb_out (am_len_out (n := 20) (by decide) (by omega))
set_option maxRecDepth 100000 in
theorem am_wl266 : ∀ w ∈ am_ewA (am_nm 266).cls (am_prog 266), w ∈ am_G := by
  have e : am_ewA (am_nm 266).cls (am_prog 266) = [am_u1573, am_u1676, am_u1640] := rfl
  rw [e]
  exact List.forall_mem_cons.mpr ⟨am_v1573, List.forall_mem_cons.mpr ⟨am_v1676, List.forall_mem_cons.mpr ⟨am_v1640, fun _ h => absurd h List.not_mem_nil⟩⟩⟩
theorem am_be266_0 : (List.range' 0 10).all (am_eb 266) = true := by decide +kernel
theorem am_ok266 (i : Nat) : am_eOk 266 i := by
  have hy : 266 < am_law → am_cP 266 := fun _ => am_cms 266 (by decide)
  have hw : ∀ w ∈ am_ewE (am_nm 266).cls (am_at 266 i), w ∈ am_G := fun w h => am_wl266 w (am_ewA_in h)
  refine am_e_ok hy hw ?_
  by_cases h0 : i < 10
  · exact List.all_eq_true.mp am_be266_0 i (List.mem_range'_1.mpr ⟨by omega, by omega⟩)
  exact am_eb_out (am_len_out (n := 10) (by decide) (by omega))
set_option maxRecDepth 100000 in
theorem am_wl267 : ∀ w ∈ am_ewA (am_nm 267).cls (am_prog 267), w ∈ am_G := by
  have e : am_ewA (am_nm 267).cls (am_prog 267) = [am_u1660, am_u1573, am_u1197, am_u1629, am_u1241, am_u1242, am_u1243] := rfl
  rw [e]
  exact List.forall_mem_cons.mpr ⟨am_v1660, List.forall_mem_cons.mpr ⟨am_v1573, List.forall_mem_cons.mpr ⟨am_v1197, List.forall_mem_cons.mpr ⟨am_v1629, List.forall_mem_cons.mpr ⟨am_v1241, List.forall_mem_cons.mpr ⟨am_v1242, List.forall_mem_cons.mpr ⟨am_v1243, fun _ h => absurd h List.not_mem_nil⟩⟩⟩⟩⟩⟩⟩
theorem am_be267_0 : (List.range' 0 38).all (am_eb 267) = true := by decide +kernel
theorem am_ok267 (i : Nat) : am_eOk 267 i := by
  have hy : 267 < am_law → am_cP 267 := fun _ => am_cms 267 (by decide)
  have hw : ∀ w ∈ am_ewE (am_nm 267).cls (am_at 267 i), w ∈ am_G := fun w h => am_wl267 w (am_ewA_in h)
  refine am_e_ok hy hw ?_
  by_cases h0 : i < 38
  · exact List.all_eq_true.mp am_be267_0 i (List.mem_range'_1.mpr ⟨by omega, by omega⟩)
  exact am_eb_out (am_len_out (n := 38) (by decide) (by omega))
set_option maxRecDepth 100000 in
theorem am_wl268 : ∀ w ∈ am_ewA (am_nm 268).cls (am_prog 268), w ∈ am_G := by
  have e : am_ewA (am_nm 268).cls (am_prog 268) = [am_u1573, am_u1245, am_u1245, am_u1676, am_u1581, am_u1244, am_u1244, am_u1629, am_u1637] := rfl
  rw [e]
  exact List.forall_mem_cons.mpr ⟨am_v1573, List.forall_mem_cons.mpr ⟨am_v1245, List.forall_mem_cons.mpr ⟨am_v1245, List.forall_mem_cons.mpr ⟨am_v1676, List.forall_mem_cons.mpr ⟨am_v1581, List.forall_mem_cons.mpr ⟨am_v1244, List.forall_mem_cons.mpr ⟨am_v1244, List.forall_mem_cons.mpr ⟨am_v1629, List.forall_mem_cons.mpr ⟨am_v1637, fun _ h => absurd h List.not_mem_nil⟩⟩⟩⟩⟩⟩⟩⟩⟩
theorem am_be268_0 : (List.range' 0 40).all (am_eb 268) = true := by decide +kernel
theorem am_ok268 (i : Nat) : am_eOk 268 i := by
  have hy : 268 < am_law → am_cP 268 := fun _ => am_cms 268 (by decide)
  have hw : ∀ w ∈ am_ewE (am_nm 268).cls (am_at 268 i), w ∈ am_G := fun w h => am_wl268 w (am_ewA_in h)
  refine am_e_ok hy hw ?_
  by_cases h0 : i < 40
  · exact List.all_eq_true.mp am_be268_0 i (List.mem_range'_1.mpr ⟨by omega, by omega⟩)
  exact am_eb_out (am_len_out (n := 40) (by decide) (by omega))
set_option maxRecDepth 100000 in
theorem am_wl269 : ∀ w ∈ am_ewA (am_nm 269).cls (am_prog 269), w ∈ am_G := by
  have e : am_ewA (am_nm 269).cls (am_prog 269) = [am_u1660, am_u1365, am_u1365, am_u1796, am_u1573, am_u1629, am_u1797, am_u1197, am_u1197, am_u1376, am_u1197, am_u1798] := rfl
  rw [e]
  exact List.forall_mem_cons.mpr ⟨am_v1660, List.forall_mem_cons.mpr ⟨am_v1365, List.forall_mem_cons.mpr ⟨am_v1365, List.forall_mem_cons.mpr ⟨am_v1796, List.forall_mem_cons.mpr ⟨am_v1573, List.forall_mem_cons.mpr ⟨am_v1629, List.forall_mem_cons.mpr ⟨am_v1797, List.forall_mem_cons.mpr ⟨am_v1197, List.forall_mem_cons.mpr ⟨am_v1197, List.forall_mem_cons.mpr ⟨am_v1376, List.forall_mem_cons.mpr ⟨am_v1197, List.forall_mem_cons.mpr ⟨am_v1798, fun _ h => absurd h List.not_mem_nil⟩⟩⟩⟩⟩⟩⟩⟩⟩⟩⟩⟩
theorem am_be269_0 : (List.range' 0 64).all (am_eb 269) = true := by decide +kernel
theorem am_be269_1 : (List.range' 64 45).all (am_eb 269) = true := by decide +kernel
theorem am_ok269 (i : Nat) : am_eOk 269 i := by
  have hy : 269 < am_law → am_cP 269 := fun _ => am_cms 269 (by decide)
  have hw : ∀ w ∈ am_ewE (am_nm 269).cls (am_at 269 i), w ∈ am_G := fun w h => am_wl269 w (am_ewA_in h)
  refine am_e_ok hy hw ?_
  by_cases h0 : i < 64
  · exact List.all_eq_true.mp am_be269_0 i (List.mem_range'_1.mpr ⟨by omega, by omega⟩)
  by_cases h1 : i < 109
  · exact List.all_eq_true.mp am_be269_1 i (List.mem_range'_1.mpr ⟨by omega, by omega⟩)
  exact am_eb_out (am_len_out (n := 109) (by decide) (by omega))
set_option maxRecDepth 100000 in
theorem am_wl270 : ∀ w ∈ am_ewA (am_nm 270).cls (am_prog 270), w ∈ am_G := by
  have e : am_ewA (am_nm 270).cls (am_prog 270) = [am_u1660, am_u1660, am_u1573, am_u1629, am_u1629, am_u1197] := rfl
  rw [e]
  exact List.forall_mem_cons.mpr ⟨am_v1660, List.forall_mem_cons.mpr ⟨am_v1660, List.forall_mem_cons.mpr ⟨am_v1573, List.forall_mem_cons.mpr ⟨am_v1629, List.forall_mem_cons.mpr ⟨am_v1629, List.forall_mem_cons.mpr ⟨am_v1197, fun _ h => absurd h List.not_mem_nil⟩⟩⟩⟩⟩⟩
theorem am_be270_0 : (List.range' 0 59).all (am_eb 270) = true := by decide +kernel
theorem am_ok270 (i : Nat) : am_eOk 270 i := by
  have hy : 270 < am_law → am_cP 270 := fun _ => am_cms 270 (by decide)
  have hw : ∀ w ∈ am_ewE (am_nm 270).cls (am_at 270 i), w ∈ am_G := fun w h => am_wl270 w (am_ewA_in h)
  refine am_e_ok hy hw ?_
  by_cases h0 : i < 59
  · exact List.all_eq_true.mp am_be270_0 i (List.mem_range'_1.mpr ⟨by omega, by omega⟩)
  exact am_eb_out (am_len_out (n := 59) (by decide) (by omega))
set_option maxRecDepth 100000 in
theorem am_wl271 : ∀ w ∈ am_ewA (am_nm 271).cls (am_prog 271), w ∈ am_G := by
  have e : am_ewA (am_nm 271).cls (am_prog 271) = [am_u1573, am_u1197, am_u1250, am_u1629] := rfl
  rw [e]
  exact List.forall_mem_cons.mpr ⟨am_v1573, List.forall_mem_cons.mpr ⟨am_v1197, List.forall_mem_cons.mpr ⟨am_v1250, List.forall_mem_cons.mpr ⟨am_v1629, fun _ h => absurd h List.not_mem_nil⟩⟩⟩⟩
theorem am_be271_0 : (List.range' 0 21).all (am_eb 271) = true := by decide +kernel
theorem am_ok271 (i : Nat) : am_eOk 271 i := by
  have hy : 271 < am_law → am_cP 271 := fun _ => am_cms 271 (by decide)
  have hw : ∀ w ∈ am_ewE (am_nm 271).cls (am_at 271 i), w ∈ am_G := fun w h => am_wl271 w (am_ewA_in h)
  refine am_e_ok hy hw ?_
  by_cases h0 : i < 21
  · exact List.all_eq_true.mp am_be271_0 i (List.mem_range'_1.mpr ⟨by omega, by omega⟩)
  exact am_eb_out (am_len_out (n := 21) (by decide) (by omega))
set_option maxRecDepth 100000 in
theorem am_wl272 : ∀ w ∈ am_ewA (am_nm 272).cls (am_prog 272), w ∈ am_G := by
  have e : am_ewA (am_nm 272).cls (am_prog 272) = [am_u643, am_u113, am_u196, am_u51, am_u646, am_u196, am_u51, am_u643, am_u196, am_u46, am_u643, am_u643, am_u625, am_u647, am_u648, am_u649, am_u650, am_u537, am_u538] := rfl
  rw [e]
  exact List.forall_mem_cons.mpr ⟨am_v643, List.forall_mem_cons.mpr ⟨am_v113, List.forall_mem_cons.mpr ⟨am_v196, List.forall_mem_cons.mpr ⟨am_v51, List.forall_mem_cons.mpr ⟨am_v646, List.forall_mem_cons.mpr ⟨am_v196, List.forall_mem_cons.mpr ⟨am_v51, List.forall_mem_cons.mpr ⟨am_v643, List.forall_mem_cons.mpr ⟨am_v196, List.forall_mem_cons.mpr ⟨am_v46, List.forall_mem_cons.mpr ⟨am_v643, List.forall_mem_cons.mpr ⟨am_v643, List.forall_mem_cons.mpr ⟨am_v625, List.forall_mem_cons.mpr ⟨am_v647, List.forall_mem_cons.mpr ⟨am_v648, List.forall_mem_cons.mpr ⟨am_v649, List.forall_mem_cons.mpr ⟨am_v650, List.forall_mem_cons.mpr ⟨am_v537, List.forall_mem_cons.mpr ⟨am_v538, fun _ h => absurd h List.not_mem_nil⟩⟩⟩⟩⟩⟩⟩⟩⟩⟩⟩⟩⟩⟩⟩⟩⟩⟩⟩
theorem am_be272_0 : (List.range' 0 64).all (am_eb 272) = true := by decide +kernel
theorem am_be272_1 : (List.range' 64 31).all (am_eb 272) = true := by decide +kernel
theorem am_ok272 (i : Nat) : am_eOk 272 i := by
  have hy : 272 < am_law → am_cP 272 := fun _ => am_cms 272 (by decide)
  have hw : ∀ w ∈ am_ewE (am_nm 272).cls (am_at 272 i), w ∈ am_G := fun w h => am_wl272 w (am_ewA_in h)
  refine am_e_ok hy hw ?_
  by_cases h0 : i < 64
  · exact List.all_eq_true.mp am_be272_0 i (List.mem_range'_1.mpr ⟨by omega, by omega⟩)
  by_cases h1 : i < 95
  · exact List.all_eq_true.mp am_be272_1 i (List.mem_range'_1.mpr ⟨by omega, by omega⟩)
  exact am_eb_out (am_len_out (n := 95) (by decide) (by omega))
set_option maxRecDepth 100000 in
theorem am_wl273 : ∀ w ∈ am_ewA (am_nm 273).cls (am_prog 273), w ∈ am_G := by
  have e : am_ewA (am_nm 273).cls (am_prog 273) = [am_u278, am_u275, am_u961, am_u277, am_u278, am_u962, am_u276, am_u278, am_u963] := rfl
  rw [e]
  exact List.forall_mem_cons.mpr ⟨am_v278, List.forall_mem_cons.mpr ⟨am_v275, List.forall_mem_cons.mpr ⟨am_v961, List.forall_mem_cons.mpr ⟨am_v277, List.forall_mem_cons.mpr ⟨am_v278, List.forall_mem_cons.mpr ⟨am_v962, List.forall_mem_cons.mpr ⟨am_v276, List.forall_mem_cons.mpr ⟨am_v278, List.forall_mem_cons.mpr ⟨am_v963, fun _ h => absurd h List.not_mem_nil⟩⟩⟩⟩⟩⟩⟩⟩⟩
theorem am_be273_0 : (List.range' 0 29).all (am_eb 273) = true := by decide +kernel
theorem am_ok273 (i : Nat) : am_eOk 273 i := by
  have hy : 273 < am_law → am_cP 273 := fun _ => am_cms 273 (by decide)
  have hw : ∀ w ∈ am_ewE (am_nm 273).cls (am_at 273 i), w ∈ am_G := fun w h => am_wl273 w (am_ewA_in h)
  refine am_e_ok hy hw ?_
  by_cases h0 : i < 29
  · exact List.all_eq_true.mp am_be273_0 i (List.mem_range'_1.mpr ⟨by omega, by omega⟩)
  exact am_eb_out (am_len_out (n := 29) (by decide) (by omega))
set_option maxRecDepth 100000 in
theorem am_wl274 : ∀ w ∈ am_ewA (am_nm 274).cls (am_prog 274), w ∈ am_G := by
  have e : am_ewA (am_nm 274).cls (am_prog 274) = [am_u278, am_u275, am_u961, am_u278, am_u972, am_u277, am_u278, am_u962] := rfl
  rw [e]
  exact List.forall_mem_cons.mpr ⟨am_v278, List.forall_mem_cons.mpr ⟨am_v275, List.forall_mem_cons.mpr ⟨am_v961, List.forall_mem_cons.mpr ⟨am_v278, List.forall_mem_cons.mpr ⟨am_v972, List.forall_mem_cons.mpr ⟨am_v277, List.forall_mem_cons.mpr ⟨am_v278, List.forall_mem_cons.mpr ⟨am_v962, fun _ h => absurd h List.not_mem_nil⟩⟩⟩⟩⟩⟩⟩⟩
theorem am_be274_0 : (List.range' 0 31).all (am_eb 274) = true := by decide +kernel
theorem am_ok274 (i : Nat) : am_eOk 274 i := by
  have hy : 274 < am_law → am_cP 274 := fun _ => am_cms 274 (by decide)
  have hw : ∀ w ∈ am_ewE (am_nm 274).cls (am_at 274 i), w ∈ am_G := fun w h => am_wl274 w (am_ewA_in h)
  refine am_e_ok hy hw ?_
  by_cases h0 : i < 31
  · exact List.all_eq_true.mp am_be274_0 i (List.mem_range'_1.mpr ⟨by omega, by omega⟩)
  exact am_eb_out (am_len_out (n := 31) (by decide) (by omega))
set_option maxRecDepth 100000 in
theorem am_wl275 : ∀ w ∈ am_ewA (am_nm 275).cls (am_prog 275), w ∈ am_G := by
  have e : am_ewA (am_nm 275).cls (am_prog 275) = [am_u278, am_u275, am_u961, am_u276, am_u278, am_u981, am_u278, am_u972, am_u277, am_u278, am_u962, am_u276, am_u278, am_u981] := rfl
  rw [e]
  exact List.forall_mem_cons.mpr ⟨am_v278, List.forall_mem_cons.mpr ⟨am_v275, List.forall_mem_cons.mpr ⟨am_v961, List.forall_mem_cons.mpr ⟨am_v276, List.forall_mem_cons.mpr ⟨am_v278, List.forall_mem_cons.mpr ⟨am_v981, List.forall_mem_cons.mpr ⟨am_v278, List.forall_mem_cons.mpr ⟨am_v972, List.forall_mem_cons.mpr ⟨am_v277, List.forall_mem_cons.mpr ⟨am_v278, List.forall_mem_cons.mpr ⟨am_v962, List.forall_mem_cons.mpr ⟨am_v276, List.forall_mem_cons.mpr ⟨am_v278, List.forall_mem_cons.mpr ⟨am_v981, fun _ h => absurd h List.not_mem_nil⟩⟩⟩⟩⟩⟩⟩⟩⟩⟩⟩⟩⟩⟩
theorem am_be275_0 : (List.range' 0 54).all (am_eb 275) = true := by decide +kernel
theorem am_ok275 (i : Nat) : am_eOk 275 i := by
  have hy : 275 < am_law → am_cP 275 := fun _ => am_cms 275 (by decide)
  have hw : ∀ w ∈ am_ewE (am_nm 275).cls (am_at 275 i), w ∈ am_G := fun w h => am_wl275 w (am_ewA_in h)
  refine am_e_ok hy hw ?_
  by_cases h0 : i < 54
  · exact List.all_eq_true.mp am_be275_0 i (List.mem_range'_1.mpr ⟨by omega, by omega⟩)
  exact am_eb_out (am_len_out (n := 54) (by decide) (by omega))
set_option maxRecDepth 100000 in
theorem am_wl276 : ∀ w ∈ am_ewA (am_nm 276).cls (am_prog 276), w ∈ am_G := by
  have e : am_ewA (am_nm 276).cls (am_prog 276) = [am_u232, am_u679, am_u679, am_u682, am_u737, am_u741, am_u741, am_u744, am_u737, am_u748, am_u737, am_u737] := rfl
  rw [e]
  exact List.forall_mem_cons.mpr ⟨am_v232, List.forall_mem_cons.mpr ⟨am_v679, List.forall_mem_cons.mpr ⟨am_v679, List.forall_mem_cons.mpr ⟨am_v682, List.forall_mem_cons.mpr ⟨am_v737, List.forall_mem_cons.mpr ⟨am_v741, List.forall_mem_cons.mpr ⟨am_v741, List.forall_mem_cons.mpr ⟨am_v744, List.forall_mem_cons.mpr ⟨am_v737, List.forall_mem_cons.mpr ⟨am_v748, List.forall_mem_cons.mpr ⟨am_v737, List.forall_mem_cons.mpr ⟨am_v737, fun _ h => absurd h List.not_mem_nil⟩⟩⟩⟩⟩⟩⟩⟩⟩⟩⟩⟩
theorem am_be276_0 : (List.range' 0 64).all (am_eb 276) = true := by decide +kernel
theorem am_be276_1 : (List.range' 64 62).all (am_eb 276) = true := by decide +kernel
theorem am_ok276 (i : Nat) : am_eOk 276 i := by
  have hy : 276 < am_law → am_cP 276 := fun _ => am_cms 276 (by decide)
  have hw : ∀ w ∈ am_ewE (am_nm 276).cls (am_at 276 i), w ∈ am_G := fun w h => am_wl276 w (am_ewA_in h)
  refine am_e_ok hy hw ?_
  by_cases h0 : i < 64
  · exact List.all_eq_true.mp am_be276_0 i (List.mem_range'_1.mpr ⟨by omega, by omega⟩)
  by_cases h1 : i < 126
  · exact List.all_eq_true.mp am_be276_1 i (List.mem_range'_1.mpr ⟨by omega, by omega⟩)
  exact am_eb_out (am_len_out (n := 126) (by decide) (by omega))
set_option maxRecDepth 100000 in
theorem am_wl277 : ∀ w ∈ am_ewA (am_nm 277).cls (am_prog 277), w ∈ am_G := by
  have e : am_ewA (am_nm 277).cls (am_prog 277) = [am_u342, am_u116, am_u620, am_u344, am_u342, am_u458, am_u351, am_u342, am_u340, am_u52, am_u621] := rfl
  rw [e]
  exact List.forall_mem_cons.mpr ⟨am_v342, List.forall_mem_cons.mpr ⟨am_v116, List.forall_mem_cons.mpr ⟨am_v620, List.forall_mem_cons.mpr ⟨am_v344, List.forall_mem_cons.mpr ⟨am_v342, List.forall_mem_cons.mpr ⟨am_v458, List.forall_mem_cons.mpr ⟨am_v351, List.forall_mem_cons.mpr ⟨am_v342, List.forall_mem_cons.mpr ⟨am_v340, List.forall_mem_cons.mpr ⟨am_v52, List.forall_mem_cons.mpr ⟨am_v621, fun _ h => absurd h List.not_mem_nil⟩⟩⟩⟩⟩⟩⟩⟩⟩⟩⟩
theorem am_be277_0 : (List.range' 0 37).all (am_eb 277) = true := by decide +kernel
theorem am_ok277 (i : Nat) : am_eOk 277 i := by
  have hy : 277 < am_law → am_cP 277 := fun _ => am_cms 277 (by decide)
  have hw : ∀ w ∈ am_ewE (am_nm 277).cls (am_at 277 i), w ∈ am_G := fun w h => am_wl277 w (am_ewA_in h)
  refine am_e_ok hy hw ?_
  by_cases h0 : i < 37
  · exact List.all_eq_true.mp am_be277_0 i (List.mem_range'_1.mpr ⟨by omega, by omega⟩)
  exact am_eb_out (am_len_out (n := 37) (by decide) (by omega))
set_option maxRecDepth 100000 in
theorem am_wl278 : ∀ w ∈ am_ewA (am_nm 278).cls (am_prog 278), w ∈ am_G := by
  have e : am_ewA (am_nm 278).cls (am_prog 278) = [am_u897, am_u897, am_u897, am_u893, am_u905, am_u906, am_u907, am_u342, am_u555, am_u908, am_u909, am_u910, am_u911] := rfl
  rw [e]
  exact List.forall_mem_cons.mpr ⟨am_v897, List.forall_mem_cons.mpr ⟨am_v897, List.forall_mem_cons.mpr ⟨am_v897, List.forall_mem_cons.mpr ⟨am_v893, List.forall_mem_cons.mpr ⟨am_v905, List.forall_mem_cons.mpr ⟨am_v906, List.forall_mem_cons.mpr ⟨am_v907, List.forall_mem_cons.mpr ⟨am_v342, List.forall_mem_cons.mpr ⟨am_v555, List.forall_mem_cons.mpr ⟨am_v908, List.forall_mem_cons.mpr ⟨am_v909, List.forall_mem_cons.mpr ⟨am_v910, List.forall_mem_cons.mpr ⟨am_v911, fun _ h => absurd h List.not_mem_nil⟩⟩⟩⟩⟩⟩⟩⟩⟩⟩⟩⟩⟩
theorem am_be278_0 : (List.range' 0 64).all (am_eb 278) = true := by decide +kernel
theorem am_be278_1 : (List.range' 64 21).all (am_eb 278) = true := by decide +kernel
theorem am_ok278 (i : Nat) : am_eOk 278 i := by
  have hy : 278 < am_law → am_cP 278 := fun _ => am_cms 278 (by decide)
  have hw : ∀ w ∈ am_ewE (am_nm 278).cls (am_at 278 i), w ∈ am_G := fun w h => am_wl278 w (am_ewA_in h)
  refine am_e_ok hy hw ?_
  by_cases h0 : i < 64
  · exact List.all_eq_true.mp am_be278_0 i (List.mem_range'_1.mpr ⟨by omega, by omega⟩)
  by_cases h1 : i < 85
  · exact List.all_eq_true.mp am_be278_1 i (List.mem_range'_1.mpr ⟨by omega, by omega⟩)
  exact am_eb_out (am_len_out (n := 85) (by decide) (by omega))
set_option maxRecDepth 100000 in
theorem am_wl279 : ∀ w ∈ am_ewA (am_nm 279).cls (am_prog 279), w ∈ am_G := by
  have e : am_ewA (am_nm 279).cls (am_prog 279) = [am_u340, am_u418, am_u353, am_u1132] := rfl
  rw [e]
  exact List.forall_mem_cons.mpr ⟨am_v340, List.forall_mem_cons.mpr ⟨am_v418, List.forall_mem_cons.mpr ⟨am_v353, List.forall_mem_cons.mpr ⟨am_v1132, fun _ h => absurd h List.not_mem_nil⟩⟩⟩⟩
theorem am_be279_0 : (List.range' 0 12).all (am_eb 279) = true := by decide +kernel
theorem am_ok279 (i : Nat) : am_eOk 279 i := by
  have hy : 279 < am_law → am_cP 279 := fun _ => am_cms 279 (by decide)
  have hw : ∀ w ∈ am_ewE (am_nm 279).cls (am_at 279 i), w ∈ am_G := fun w h => am_wl279 w (am_ewA_in h)
  refine am_e_ok hy hw ?_
  by_cases h0 : i < 12
  · exact List.all_eq_true.mp am_be279_0 i (List.mem_range'_1.mpr ⟨by omega, by omega⟩)
  exact am_eb_out (am_len_out (n := 12) (by decide) (by omega))
set_option maxRecDepth 100000 in
theorem am_wl280 : ∀ w ∈ am_ewA (am_nm 280).cls (am_prog 280), w ∈ am_G := by
  have e : am_ewA (am_nm 280).cls (am_prog 280) = [am_u353, am_u1160] := rfl
  rw [e]
  exact List.forall_mem_cons.mpr ⟨am_v353, List.forall_mem_cons.mpr ⟨am_v1160, fun _ h => absurd h List.not_mem_nil⟩⟩
theorem am_be280_0 : (List.range' 0 14).all (am_eb 280) = true := by decide +kernel
theorem am_ok280 (i : Nat) : am_eOk 280 i := by
  have hy : 280 < am_law → am_cP 280 := fun _ => am_cms 280 (by decide)
  have hw : ∀ w ∈ am_ewE (am_nm 280).cls (am_at 280 i), w ∈ am_G := fun w h => am_wl280 w (am_ewA_in h)
  refine am_e_ok hy hw ?_
  by_cases h0 : i < 14
  · exact List.all_eq_true.mp am_be280_0 i (List.mem_range'_1.mpr ⟨by omega, by omega⟩)
  exact am_eb_out (am_len_out (n := 14) (by decide) (by omega))
set_option maxRecDepth 100000 in
theorem am_wl281 : ∀ w ∈ am_ewA (am_nm 281).cls (am_prog 281), w ∈ am_G := by
  have e : am_ewA (am_nm 281).cls (am_prog 281) = [am_u1214, am_u1215, am_u1468, am_u1215, am_u1227, am_u1227, am_u1227, am_u1537, am_u1468, am_u1226, am_u1468, am_u1216, am_u1228, am_u1226, am_u1227, am_u1229, am_u1226, am_u1233, am_u1415, am_u1227, am_u1227, am_u1472, am_u1227, am_u1225, am_u1541, am_u1216, am_u1499, am_u1468, am_u1216, am_u1525] := rfl
  rw [e]
  exact List.forall_mem_cons.mpr ⟨am_v1214, List.forall_mem_cons.mpr ⟨am_v1215, List.forall_mem_cons.mpr ⟨am_v1468, List.forall_mem_cons.mpr ⟨am_v1215, List.forall_mem_cons.mpr ⟨am_v1227, List.forall_mem_cons.mpr ⟨am_v1227, List.forall_mem_cons.mpr ⟨am_v1227, List.forall_mem_cons.mpr ⟨am_v1537, List.forall_mem_cons.mpr ⟨am_v1468, List.forall_mem_cons.mpr ⟨am_v1226, List.forall_mem_cons.mpr ⟨am_v1468, List.forall_mem_cons.mpr ⟨am_v1216, List.forall_mem_cons.mpr ⟨am_v1228, List.forall_mem_cons.mpr ⟨am_v1226, List.forall_mem_cons.mpr ⟨am_v1227, List.forall_mem_cons.mpr ⟨am_v1229, List.forall_mem_cons.mpr ⟨am_v1226, List.forall_mem_cons.mpr ⟨am_v1233, List.forall_mem_cons.mpr ⟨am_v1415, List.forall_mem_cons.mpr ⟨am_v1227, List.forall_mem_cons.mpr ⟨am_v1227, List.forall_mem_cons.mpr ⟨am_v1472, List.forall_mem_cons.mpr ⟨am_v1227, List.forall_mem_cons.mpr ⟨am_v1225, List.forall_mem_cons.mpr ⟨am_v1541, List.forall_mem_cons.mpr ⟨am_v1216, List.forall_mem_cons.mpr ⟨am_v1499, List.forall_mem_cons.mpr ⟨am_v1468, List.forall_mem_cons.mpr ⟨am_v1216, List.forall_mem_cons.mpr ⟨am_v1525, fun _ h => absurd h List.not_mem_nil⟩⟩⟩⟩⟩⟩⟩⟩⟩⟩⟩⟩⟩⟩⟩⟩⟩⟩⟩⟩⟩⟩⟩⟩⟩⟩⟩⟩⟩⟩
theorem am_be281_0 : (List.range' 0 64).all (am_eb 281) = true := by decide +kernel
theorem am_be281_1 : (List.range' 64 36).all (am_eb 281) = true := by decide +kernel
theorem am_ok281 (i : Nat) : am_eOk 281 i := by
  have hy : 281 < am_law → am_cP 281 := fun _ => am_cms 281 (by decide)
  have hw : ∀ w ∈ am_ewE (am_nm 281).cls (am_at 281 i), w ∈ am_G := fun w h => am_wl281 w (am_ewA_in h)
  refine am_e_ok hy hw ?_
  by_cases h0 : i < 64
  · exact List.all_eq_true.mp am_be281_0 i (List.mem_range'_1.mpr ⟨by omega, by omega⟩)
  by_cases h1 : i < 100
  · exact List.all_eq_true.mp am_be281_1 i (List.mem_range'_1.mpr ⟨by omega, by omega⟩)
  exact am_eb_out (am_len_out (n := 100) (by decide) (by omega))
set_option maxRecDepth 100000 in
theorem am_wl282 : ∀ w ∈ am_ewA (am_nm 282).cls (am_prog 282), w ∈ am_G := by
  have e : am_ewA (am_nm 282).cls (am_prog 282) = [am_u1197, am_u1243, am_u1581, am_u1244, am_u1244, am_u1197, am_u1244, am_u1243, am_u1625] := rfl
  rw [e]
  exact List.forall_mem_cons.mpr ⟨am_v1197, List.forall_mem_cons.mpr ⟨am_v1243, List.forall_mem_cons.mpr ⟨am_v1581, List.forall_mem_cons.mpr ⟨am_v1244, List.forall_mem_cons.mpr ⟨am_v1244, List.forall_mem_cons.mpr ⟨am_v1197, List.forall_mem_cons.mpr ⟨am_v1244, List.forall_mem_cons.mpr ⟨am_v1243, List.forall_mem_cons.mpr ⟨am_v1625, fun _ h => absurd h List.not_mem_nil⟩⟩⟩⟩⟩⟩⟩⟩⟩
theorem am_be282_0 : (List.range' 0 56).all (am_eb 282) = true := by decide +kernel
theorem am_ok282 (i : Nat) : am_eOk 282 i := by
  have hy : 282 < am_law → am_cP 282 := fun _ => am_cms 282 (by decide)
  have hw : ∀ w ∈ am_ewE (am_nm 282).cls (am_at 282 i), w ∈ am_G := fun w h => am_wl282 w (am_ewA_in h)
  refine am_e_ok hy hw ?_
  by_cases h0 : i < 56
  · exact List.all_eq_true.mp am_be282_0 i (List.mem_range'_1.mpr ⟨by omega, by omega⟩)
  exact am_eb_out (am_len_out (n := 56) (by decide) (by omega))
set_option maxRecDepth 100000 in
theorem am_wl283 : ∀ w ∈ am_ewA (am_nm 283).cls (am_prog 283), w ∈ am_G := by
  have e : am_ewA (am_nm 283).cls (am_prog 283) = [am_u1656, am_u1372, am_u1365, am_u1565, am_u1672, am_u1197] := rfl
  rw [e]
  exact List.forall_mem_cons.mpr ⟨am_v1656, List.forall_mem_cons.mpr ⟨am_v1372, List.forall_mem_cons.mpr ⟨am_v1365, List.forall_mem_cons.mpr ⟨am_v1565, List.forall_mem_cons.mpr ⟨am_v1672, List.forall_mem_cons.mpr ⟨am_v1197, fun _ h => absurd h List.not_mem_nil⟩⟩⟩⟩⟩⟩
theorem am_be283_0 : (List.range' 0 34).all (am_eb 283) = true := by decide +kernel
theorem am_ok283 (i : Nat) : am_eOk 283 i := by
  have hy : 283 < am_law → am_cP 283 := fun _ => am_cms 283 (by decide)
  have hw : ∀ w ∈ am_ewE (am_nm 283).cls (am_at 283 i), w ∈ am_G := fun w h => am_wl283 w (am_ewA_in h)
  refine am_e_ok hy hw ?_
  by_cases h0 : i < 34
  · exact List.all_eq_true.mp am_be283_0 i (List.mem_range'_1.mpr ⟨by omega, by omega⟩)
  exact am_eb_out (am_len_out (n := 34) (by decide) (by omega))
set_option maxRecDepth 100000 in
theorem am_wl284 : ∀ w ∈ am_ewA (am_nm 284).cls (am_prog 284), w ∈ am_G := by
  have e : am_ewA (am_nm 284).cls (am_prog 284) = [am_u1656, am_u1565, am_u1573, am_u1625, am_u1640] := rfl
  rw [e]
  exact List.forall_mem_cons.mpr ⟨am_v1656, List.forall_mem_cons.mpr ⟨am_v1565, List.forall_mem_cons.mpr ⟨am_v1573, List.forall_mem_cons.mpr ⟨am_v1625, List.forall_mem_cons.mpr ⟨am_v1640, fun _ h => absurd h List.not_mem_nil⟩⟩⟩⟩⟩
theorem am_be284_0 : (List.range' 0 18).all (am_eb 284) = true := by decide +kernel
theorem am_ok284 (i : Nat) : am_eOk 284 i := by
  have hy : 284 < am_law → am_cP 284 := fun _ => am_cms 284 (by decide)
  have hw : ∀ w ∈ am_ewE (am_nm 284).cls (am_at 284 i), w ∈ am_G := fun w h => am_wl284 w (am_ewA_in h)
  refine am_e_ok hy hw ?_
  by_cases h0 : i < 18
  · exact List.all_eq_true.mp am_be284_0 i (List.mem_range'_1.mpr ⟨by omega, by omega⟩)
  exact am_eb_out (am_len_out (n := 18) (by decide) (by omega))
set_option maxRecDepth 100000 in
theorem am_wl285 : ∀ w ∈ am_ewA (am_nm 285).cls (am_prog 285), w ∈ am_G := by
  have e : am_ewA (am_nm 285).cls (am_prog 285) = [am_u1656, am_u1365, am_u1365, am_u1365, am_u1365, am_u1197, am_u1768, am_u1772, am_u1246, am_u1245, am_u1246, am_u1246] := rfl
  rw [e]
  exact List.forall_mem_cons.mpr ⟨am_v1656, List.forall_mem_cons.mpr ⟨am_v1365, List.forall_mem_cons.mpr ⟨am_v1365, List.forall_mem_cons.mpr ⟨am_v1365, List.forall_mem_cons.mpr ⟨am_v1365, List.forall_mem_cons.mpr ⟨am_v1197, List.forall_mem_cons.mpr ⟨am_v1768, List.forall_mem_cons.mpr ⟨am_v1772, List.forall_mem_cons.mpr ⟨am_v1246, List.forall_mem_cons.mpr ⟨am_v1245, List.forall_mem_cons.mpr ⟨am_v1246, List.forall_mem_cons.mpr ⟨am_v1246, fun _ h => absurd h List.not_mem_nil⟩⟩⟩⟩⟩⟩⟩⟩⟩⟩⟩⟩
theorem am_be285_0 : (List.range' 0 64).all (am_eb 285) = true := by decide +kernel
theorem am_be285_1 : (List.range' 64 55).all (am_eb 285) = true := by decide +kernel
theorem am_ok285 (i : Nat) : am_eOk 285 i := by
  have hy : 285 < am_law → am_cP 285 := fun _ => am_cms 285 (by decide)
  have hw : ∀ w ∈ am_ewE (am_nm 285).cls (am_at 285 i), w ∈ am_G := fun w h => am_wl285 w (am_ewA_in h)
  refine am_e_ok hy hw ?_
  by_cases h0 : i < 64
  · exact List.all_eq_true.mp am_be285_0 i (List.mem_range'_1.mpr ⟨by omega, by omega⟩)
  by_cases h1 : i < 119
  · exact List.all_eq_true.mp am_be285_1 i (List.mem_range'_1.mpr ⟨by omega, by omega⟩)
  exact am_eb_out (am_len_out (n := 119) (by decide) (by omega))
