/-! rows of the methods 238 .. 265 -/
set_option maxRecDepth 100000 in
theorem am_wl238 : ∀ w ∈ am_ewA (am_nm 238).cls (am_prog 238), w ∈ am_G := by
  have e : am_ewA (am_nm 238).cls (am_prog 238) = [am_u686, am_u696] := rfl
  rw [e]
  exact List.forall_mem_cons.mpr ⟨am_v686, List.forall_mem_cons.mpr ⟨am_v696, fun _ h => absurd h List.not_mem_nil⟩⟩
theorem am_be238_0 : (List.range' 0 39).all (am_eb 238) = true := by decide +kernel
theorem am_ok238 (i : Nat) : am_eOk 238 i := by
  have hy : 238 < am_law → am_cP 238 := fun _ => am_cms 238 (by decide)
  have hw : ∀ w ∈ am_ewE (am_nm 238).cls (am_at 238 i), w ∈ am_G := fun w h => am_wl238 w (am_ewA_in h)
  refine am_e_ok hy hw ?_
  by_cases h0 : i < 39
  · exact List.all_eq_true.mp am_be238_0 i (List.mem_range'_1.mpr ⟨by omega, by omega⟩)
  exact am_eb_out (am_len_out (n := 39) (by decide) (by omega))
set_option maxRecDepth 100000 in
theorem am_wl239 : ∀ w ∈ am_ewA (am_nm 239).cls (am_prog 239), w ∈ am_G := by
  have e : am_ewA (am_nm 239).cls (am_prog 239) = [am_u832, am_u232, am_u807, am_u807, am_u807, am_u233, am_u233, am_u235, am_u848, am_u832, am_u235, am_u848, am_u235, am_u848] := rfl
  rw [e]
  exact List.forall_mem_cons.mpr ⟨am_v832, List.forall_mem_cons.mpr ⟨am_v232, List.forall_mem_cons.mpr ⟨am_v807, List.forall_mem_cons.mpr ⟨am_v807, List.forall_mem_cons.mpr ⟨am_v807, List.forall_mem_cons.mpr ⟨am_v233, List.forall_mem_cons.mpr ⟨am_v233, List.forall_mem_cons.mpr ⟨am_v235, List.forall_mem_cons.mpr ⟨am_v848, List.forall_mem_cons.mpr ⟨am_v832, List.forall_mem_cons.mpr ⟨am_v235, List.forall_mem_cons.mpr ⟨am_v848, List.forall_mem_cons.mpr ⟨am_v235, List.forall_mem_cons.mpr ⟨am_v848, fun _ h => absurd h List.not_mem_nil⟩⟩⟩⟩⟩⟩⟩⟩⟩⟩⟩⟩⟩⟩
theorem am_be239_0 : (List.range' 0 58).all (am_eb 239) = true := by decide +kernel
theorem am_ok239 (i : Nat) : am_eOk 239 i := by
  have hy : 239 < am_law → am_cP 239 := fun _ => am_cms 239 (by decide)
  have hw : ∀ w ∈ am_ewE (am_nm 239).cls (am_at 239 i), w ∈ am_G := fun w h => am_wl239 w (am_ewA_in h)
  refine am_e_ok hy hw ?_
  by_cases h0 : i < 58
  · exact List.all_eq_true.mp am_be239_0 i (List.mem_range'_1.mpr ⟨by omega, by omega⟩)
  exact am_eb_out (am_len_out (n := 58) (by decide) (by omega))
set_option maxRecDepth 100000 in
theorem am_wl240 : ∀ w ∈ am_ewA (am_nm 240).cls (am_prog 240), w ∈ am_G := by
  have e : am_ewA (am_nm 240).cls (am_prog 240) = [am_u307, am_u306, am_u1052, am_u305, am_u57, am_u305, am_u42, am_u305, am_u1053, am_u1054, am_u1055] := rfl
  rw [e]
  exact List.forall_mem_cons.mpr ⟨am_v307, List.forall_mem_cons.mpr ⟨am_v306, List.forall_mem_cons.mpr ⟨am_v1052, List.forall_mem_cons.mpr ⟨am_v305, List.forall_mem_cons.mpr ⟨am_v57, List.forall_mem_cons.mpr ⟨am_v305, List.forall_mem_cons.mpr ⟨am_v42, List.forall_mem_cons.mpr ⟨am_v305, List.forall_mem_cons.mpr ⟨am_v1053, List.forall_mem_cons.mpr ⟨am_v1054, List.forall_mem_cons.mpr ⟨am_v1055, fun _ h => absurd h List.not_mem_nil⟩⟩⟩⟩⟩⟩⟩⟩⟩⟩⟩
theorem am_be240_0 : (List.range' 0 64).all (am_eb 240) = true := by decide +kernel
theorem am_be240_1 : (List.range' 64 31).all (am_eb 240) = true := by decide +kernel
theorem am_ok240 (i : Nat) : am_eOk 240 i := by
  have hy : 240 < am_law → am_cP 240 := fun _ => am_cms 240 (by decide)
  have hw : ∀ w ∈ am_ewE (am_nm 240).cls (am_at 240 i), w ∈ am_G := fun w h => am_wl240 w (am_ewA_in h)
  refine am_e_ok hy hw ?_
  by_cases h0 : i < 64
  · exact List.all_eq_true.mp am_be240_0 i (List.mem_range'_1.mpr ⟨by omega, by omega⟩)
  by_cases h1 : i < 95
  · exact List.all_eq_true.mp am_be240_1 i (List.mem_range'_1.mpr ⟨by omega, by omega⟩)
  exact am_eb_out (am_len_out (n := 95) (by decide) (by omega))
set_option maxRecDepth 100000 in
theorem am_wl241 : ∀ w ∈ am_ewA (am_nm 241).cls (am_prog 241), w ∈ am_G := by
  have e : am_ewA (am_nm 241).cls (am_prog 241) = [am_u305, am_u50, am_u308, am_u307, am_u306, am_u1052] := rfl
  rw [e]
  exact List.forall_mem_cons.mpr ⟨am_v305, List.forall_mem_cons.mpr ⟨am_v50, List.forall_mem_cons.mpr ⟨am_v308, List.forall_mem_cons.mpr ⟨am_v307, List.forall_mem_cons.mpr ⟨am_v306, List.forall_mem_cons.mpr ⟨am_v1052, fun _ h => absurd h List.not_mem_nil⟩⟩⟩⟩⟩⟩
theorem am_be241_0 : (List.range' 0 24).all (am_eb 241) = true := by decide +kernel
theorem am_ok241 (i : Nat) : am_eOk 241 i := by
  have hy : 241 < am_law → am_cP 241 := fun _ => am_cms 241 (by decide)
  have hw : ∀ w ∈ am_ewE (am_nm 241).cls (am_at 241 i), w ∈ am_G := fun w h => am_wl241 w (am_ewA_in h)
  refine am_e_ok hy hw ?_
  by_cases h0 : i < 24
  · exact List.all_eq_true.mp am_be241_0 i (List.mem_range'_1.mpr ⟨by omega, by omega⟩)
  exact am_eb_out (am_len_out (n := 24) (by decide) (by omega))
set_option maxRecDepth 100000 in
theorem am_wl242 : ∀ w ∈ am_ewA (am_nm 242).cls (am_prog 242), w ∈ am_G := by
  have e : am_ewA (am_nm 242).cls (am_prog 242) = [am_u340, am_u438, am_u342, am_u490, am_u344, am_u342, am_u458, am_u351, am_u342, am_u491, am_u342, am_u472] := rfl
  rw [e]
  exact List.forall_mem_cons.mpr ⟨am_v340, List.forall_mem_cons.mpr ⟨am_v438, List.forall_mem_cons.mpr ⟨am_v342, List.forall_mem_cons.mpr ⟨am_v490, List.forall_mem_cons.mpr ⟨am_v344, List.forall_mem_cons.mpr ⟨am_v342, List.forall_mem_cons.mpr ⟨am_v458, List.forall_mem_cons.mpr ⟨am_v351, List.forall_mem_cons.mpr ⟨am_v342, List.forall_mem_cons.mpr ⟨am_v491, List.forall_mem_cons.mpr ⟨am_v342, List.forall_mem_cons.mpr ⟨am_v472, fun _ h => absurd h List.not_mem_nil⟩⟩⟩⟩⟩⟩⟩⟩⟩⟩⟩⟩
theorem am_be242_0 : (List.range' 0 38).all (am_eb 242) = true := by decide +kernel
theorem am_ok242 (i : Nat) : am_eOk 242 i := by
  have hy : 242 < am_law → am_cP 242 := fun _ => am_cms 242 (by decide)
  have hw : ∀ w ∈ am_ewE (am_nm 242).cls (am_at 242 i), w ∈ am_G := fun w h => am_wl242 w (am_ewA_in h)
  refine am_e_ok hy hw ?_
  by_cases h0 : i < 38
  · exact List.all_eq_true.mp am_be242_0 i (List.mem_range'_1.mpr ⟨by omega, by omega⟩)
  exact am_eb_out (am_len_out (n := 38) (by decide) (by omega))
set_option maxRecDepth 100000 in
theorem am_wl243 : ∀ w ∈ am_ewA (am_nm 243).cls (am_prog 243), w ∈ am_G := by
  have e : am_ewA (am_nm 243).cls (am_prog 243) = [am_u340, am_u543, am_u340, am_u924, am_u350, am_u342, am_u928, am_u342, am_u929, am_u342, am_u564, am_u342, am_u490] := rfl
  rw [e]
  exact List.forall_mem_cons.mpr ⟨am_v340, List.forall_mem_cons.mpr ⟨am_v543, List.forall_mem_cons.mpr ⟨am_v340, List.forall_mem_cons.mpr ⟨am_v924, List.forall_mem_cons.mpr ⟨am_v350, List.forall_mem_cons.mpr ⟨am_v342, List.forall_mem_cons.mpr ⟨am_v928, List.forall_mem_cons.mpr ⟨am_v342, List.forall_mem_cons.mpr ⟨am_v929, List.forall_mem_cons.mpr ⟨am_v342, List.forall_mem_cons.mpr ⟨am_v564, List.forall_mem_cons.mpr ⟨am_v342, List.forall_mem_cons.mpr ⟨am_v490, fun _ h => absurd h List.not_mem_nil⟩⟩⟩⟩⟩⟩⟩⟩⟩⟩⟩⟩⟩
theorem am_be243_0 : (List.range' 0 42).all (am_eb 243) = true := by decide +kernel
theorem am_ok243 (i : Nat) : am_eOk 243 i := by
  have hy : 243 < am_law → am_cP 243 := fun _ => am_cms 243 (by decide)
  have hw : ∀ w ∈ am_ewE (am_nm 243).cls (am_at 243 i), w ∈ am_G := fun w h => am_wl243 w (am_ewA_in h)
  refine am_e_ok hy hw ?_
  by_cases h0 : i < 42
  · exact List.all_eq_true.mp am_be243_0 i (List.mem_range'_1.mpr ⟨by omega, by omega⟩)
  exact am_eb_out (am_len_out (n := 42) (by decide) (by omega))
set_option maxRecDepth 100000 in
theorem am_wl244 : ∀ w ∈ am_ewA (am_nm 244).cls (am_prog 244), w ∈ am_G := by
  have e : am_ewA (am_nm 244).cls (am_prog 244) = [am_u340, am_u543, am_u340, am_u543, am_u350, am_u342, am_u928, am_u350, am_u342, am_u928, am_u340, am_u1062] := rfl
  rw [e]
  exact List.forall_mem_cons.mpr ⟨am_v340, List.forall_mem_cons.mpr ⟨am_v543, List.forall_mem_cons.mpr ⟨am_v340, List.forall_mem_cons.mpr ⟨am_v543, List.forall_mem_cons.mpr ⟨am_v350, List.forall_mem_cons.mpr ⟨am_v342, List.forall_mem_cons.mpr ⟨am_v928, List.forall_mem_cons.mpr ⟨am_v350, List.forall_mem_cons.mpr ⟨am_v342, List.forall_mem_cons.mpr ⟨am_v928, List.forall_mem_cons.mpr ⟨am_v340, List.forall_mem_cons.mpr ⟨am_v1062, fun _ h => absurd h List.not_mem_nil⟩⟩⟩⟩⟩⟩⟩⟩⟩⟩⟩⟩
theorem am_be244_0 : (List.range' 0 59).all (am_eb 244) = true := by decide +kernel
theorem am_ok244 (i : Nat) : am_eOk 244 i := by
  have hy : 244 < am_law → am_cP 244 := fun _ => am_cms 244 (by decide)
  have hw : ∀ w ∈ am_ewE (am_nm 244).cls (am_at 244 i), w ∈ am_G := fun w h => am_wl244 w (am_ewA_in h)
  refine am_e_ok hy hw ?_
  by_cases h0 : i < 59
  · exact List.all_eq_true.mp am_be244_0 i (List.mem_range'_1.mpr ⟨by omega, by omega⟩)
  exact am_eb_out (am_len_out (n := 59) (by decide) (by omega))
set_option maxRecDepth 100000 in
theorem am_wl245 : ∀ w ∈ am_ewA (am_nm 245).cls (am_prog 245), w ∈ am_G := by
  have e : am_ewA (am_nm 245).cls (am_prog 245) = [am_u1085, am_u340, am_u543, am_u340, am_u418, am_u1086, am_u354, am_u1087] := rfl
  rw [e]
  exact List.forall_mem_cons.mpr ⟨am_v1085, List.forall_mem_cons.mpr ⟨am_v340, List.forall_mem_cons.mpr ⟨am_v543, List.forall_mem_cons.mpr ⟨am_v340, List.forall_mem_cons.mpr ⟨am_v418, List.forall_mem_cons.mpr ⟨am_v1086, List.forall_mem_cons.mpr ⟨am_v354, List.forall_mem_cons.mpr ⟨am_v1087, fun _ h => absurd h List.not_mem_nil⟩⟩⟩⟩⟩⟩⟩⟩
theorem am_be245_0 : (List.range' 0 34).all (am_eb 245) = true := by decide +kernel
theorem am_ok245 (i : Nat) : am_eOk 245 i := by
  have hy : 245 < am_law → am_cP 245 := fun _ => am_cms 245 (by decide)
  have hw : ∀ w ∈ am_ewE (am_nm 245).cls (am_at 245 i), w ∈ am_G := fun w h => am_wl245 w (am_ewA_in h)
  refine am_e_ok hy hw ?_
  by_cases h0 : i < 34
  · exact List.all_eq_true.mp am_be245_0 i (List.mem_range'_1.mpr ⟨by omega, by omega⟩)
  exact am_eb_out (am_len_out (n := 34) (by decide) (by omega))
set_option maxRecDepth 100000 in
theorem am_wl246 : ∀ w ∈ am_ewA (am_nm 246).cls (am_prog 246), w ∈ am_G := by
  have e : am_ewA (am_nm 246).cls (am_prog 246) = [am_u1460, am_u1464, am_u1472, am_u1225] := rfl
  rw [e]
  exact List.forall_mem_cons.mpr ⟨am_v1460, List.forall_mem_cons.mpr ⟨am_v1464, List.forall_mem_cons.mpr ⟨am_v1472, List.forall_mem_cons.mpr ⟨am_v1225, fun _ h => absurd h List.not_mem_nil⟩⟩⟩⟩
theorem am_be246_0 : (List.range' 0 16).all (am_eb 246) = true := by decide +kernel
theorem am_ok246 (i : Nat) : am_eOk 246 i := by
  have hy : 246 < am_law → am_cP 246 := fun _ => am_cms 246 (by decide)
  have hw : ∀ w ∈ am_ewE (am_nm 246).cls (am_at 246 i), w ∈ am_G := fun w h => am_wl246 w (am_ewA_in h)
  refine am_e_ok hy hw ?_
  by_cases h0 : i < 16
  · exact List.all_eq_true.mp am_be246_0 i (List.mem_range'_1.mpr ⟨by omega, by omega⟩)
  exact am_eb_out (am_len_out (n := 16) (by decide) (by omega))
set_option maxRecDepth 100000 in
theorem am_wl247 : ∀ w ∈ am_ewA (am_nm 247).cls (am_prog 247), w ∈ am_G := by
  have e : am_ewA (am_nm 247).cls (am_prog 247) = [am_u1480, am_u1214, am_u1215, am_u1468, am_u1215, am_u1484, am_u1415, am_u1488, am_u1227, am_u1496, am_u1468, am_u1484, am_u1415, am_u1488, am_u1499, am_u1464, am_u1499, am_u1460, am_u1499, am_u1464, am_u1468] := rfl
  rw [e]
  exact List.forall_mem_cons.mpr ⟨am_v1480, List.forall_mem_cons.mpr ⟨am_v1214, List.forall_mem_cons.mpr ⟨am_v1215, List.forall_mem_cons.mpr ⟨am_v1468, List.forall_mem_cons.mpr ⟨am_v1215, List.forall_mem_cons.mpr ⟨am_v1484, List.forall_mem_cons.mpr ⟨am_v1415, List.forall_mem_cons.mpr ⟨am_v1488, List.forall_mem_cons.mpr ⟨am_v1227, List.forall_mem_cons.mpr ⟨am_v1496, List.forall_mem_cons.mpr ⟨am_v1468, List.forall_mem_cons.mpr ⟨am_v1484, List.forall_mem_cons.mpr ⟨am_v1415, List.forall_mem_cons.mpr ⟨am_v1488, List.forall_mem_cons.mpr ⟨am_v1499, List.forall_mem_cons.mpr ⟨am_v1464, List.forall_mem_cons.mpr ⟨am_v1499, List.forall_mem_cons.mpr ⟨am_v1460, List.forall_mem_cons.mpr ⟨am_v1499, List.forall_mem_cons.mpr ⟨am_v1464, List.forall_mem_cons.mpr ⟨am_v1468, fun _ h => absurd h List.not_mem_nil⟩⟩⟩⟩⟩⟩⟩⟩⟩⟩⟩⟩⟩⟩⟩⟩⟩⟩⟩⟩⟩
theorem am_be247_0 : (List.range' 0 64).all (am_eb 247) = true := by decide +kernel
theorem am_be247_1 : (List.range' 64 14).all (am_eb 247) = true := by decide +kernel
theorem am_ok247 (i : Nat) : am_eOk 247 i := by
  have hy : 247 < am_law → am_cP 247 := fun _ => am_cms 247 (by decide)
  have hw : ∀ w ∈ am_ewE (am_nm 247).cls (am_at 247 i), w ∈ am_G := fun w h => am_wl247 w (am_ewA_in h)
  refine am_e_ok hy hw ?_
  by_cases h0 : i < 64
  · exact List.all_eq_true.mp am_be247_0 i (List.mem_range'_1.mpr ⟨by omega, by omega⟩)
  by_cases h1 : i < 78
  · exact List.all_eq_true.mp am_be247_1 i (List.mem_range'_1.mpr ⟨by omega, by omega⟩)
  exact am_eb_out (am_len_out (n := 78) (by decide) (by omega))
set_option maxRecDepth 100000 in
theorem am_wl248 : ∀ w ∈ am_ewA (am_nm 248).cls (am_prog 248), w ∈ am_G := by
  have e : am_ewA (am_nm 248).cls (am_prog 248) = [am_u1492, am_u1214, am_u1215, am_u1215, am_u1215, am_u1215, am_u1215, am_u1507, am_u1225, am_u1499, am_u1514, am_u1219, am_u1219, am_u1218, am_u1218, am_u1415, am_u1488, am_u1214, am_u1215, am_u1518, am_u1514, am_u1221, am_u1219, am_u1215, am_u1220, am_u1219, am_u1415, am_u1225, am_u1514, am_u1221, am_u1219, am_u1219, am_u1219, am_u1484, am_u1521, am_u1499, am_u1525, am_u1468] := rfl
  rw [e]
  exact List.forall_mem_cons.mpr ⟨am_v1492, List.forall_mem_cons.mpr ⟨am_v1214, List.forall_mem_cons.mpr ⟨am_v1215, List.forall_mem_cons.mpr ⟨am_v1215, List.forall_mem_cons.mpr ⟨am_v1215, List.forall_mem_cons.mpr ⟨am_v1215, List.forall_mem_cons.mpr ⟨am_v1215, List.forall_mem_cons.mpr ⟨am_v1507, List.forall_mem_cons.mpr ⟨am_v1225, List.forall_mem_cons.mpr ⟨am_v1499, List.forall_mem_cons.mpr ⟨am_v1514, List.forall_mem_cons.mpr ⟨am_v1219, List.forall_mem_cons.mpr ⟨am_v1219, List.forall_mem_cons.mpr ⟨am_v1218, List.forall_mem_cons.mpr ⟨am_v1218, List.forall_mem_cons.mpr ⟨am_v1415, List.forall_mem_cons.mpr ⟨am_v1488, List.forall_mem_cons.mpr ⟨am_v1214, List.forall_mem_cons.mpr ⟨am_v1215, List.forall_mem_cons.mpr ⟨am_v1518, List.forall_mem_cons.mpr ⟨am_v1514, List.forall_mem_cons.mpr ⟨am_v1221, List.forall_mem_cons.mpr ⟨am_v1219, List.forall_mem_cons.mpr ⟨am_v1215, List.forall_mem_cons.mpr ⟨am_v1220, List.forall_mem_cons.mpr ⟨am_v1219, List.forall_mem_cons.mpr ⟨am_v1415, List.forall_mem_cons.mpr ⟨am_v1225, List.forall_mem_cons.mpr ⟨am_v1514, List.forall_mem_cons.mpr ⟨am_v1221, List.forall_mem_cons.mpr ⟨am_v1219, List.forall_mem_cons.mpr ⟨am_v1219, List.forall_mem_cons.mpr ⟨am_v1219, List.forall_mem_cons.mpr ⟨am_v1484, List.forall_mem_cons.mpr ⟨am_v1521, List.forall_mem_cons.mpr ⟨am_v1499, List.forall_mem_cons.mpr ⟨am_v1525, List.forall_mem_cons.mpr ⟨am_v1468, fun _ h => absurd h List.not_mem_nil⟩⟩⟩⟩⟩⟩⟩⟩⟩⟩⟩⟩⟩⟩⟩⟩⟩⟩⟩⟩⟩⟩⟩⟩⟩⟩⟩⟩⟩⟩⟩⟩⟩⟩⟩⟩⟩⟩
theorem am_be248_0 : (List.range' 0 64).all (am_eb 248) = true := by decide +kernel
theorem am_be248_1 : (List.range' 64 64).all (am_eb 248) = true := by decide +kernel
theorem am_be248_2 : (List.range' 128 4).all (am_eb 248) = true := by decide +kernel
theorem am_ok248 (i : Nat) : am_eOk 248 i := by
  have hy : 248 < am_law → am_cP 248 := fun _ => am_cms 248 (by decide)
  have hw : ∀ w ∈ am_ewE (am_nm 248).cls (am_at 248 i), w ∈ am_G := fun w h => am_wl248 w (am_ewA_in h)
  refine am_e_ok hy hw ?_
  by_cases h0 : i < 64
  · exact List.all_eq_true.mp am_be248_0 i (List.mem_range'_1.mpr ⟨by omega, by omega⟩)
  by_cases h1 : i < 128
  · exact List.all_eq_true.mp am_be248_1 i (List.mem_range'_1.mpr ⟨by omega, by omega⟩)
  by_cases h2 : i < 132
  · exact List.all_eq_true.mp am_be248_2 i (List.mem_range'_1.mpr ⟨by omega, by omega⟩)
  exact am_eb_out (am_len_out (n := 132) (by decide) (by omega))
set_option maxRecDepth 100000 in
theorem am_wl249 : ∀ w ∈ am_ewA (am_nm 249).cls (am_prog 249), w ∈ am_G := by
  have e : am_ewA (am_nm 249).cls (am_prog 249) = [am_u1460, am_u1460, am_u1460, am_u1507, am_u1225, am_u1492, am_u1499, am_u1525, am_u1468] := rfl
  rw [e]
  exact List.forall_mem_cons.mpr ⟨am_v1460, List.forall_mem_cons.mpr ⟨am_v1460, List.forall_mem_cons.mpr ⟨am_v1460, List.forall_mem_cons.mpr ⟨am_v1507, List.forall_mem_cons.mpr ⟨am_v1225, List.forall_mem_cons.mpr ⟨am_v1492, List.forall_mem_cons.mpr ⟨am_v1499, List.forall_mem_cons.mpr ⟨am_v1525, List.forall_mem_cons.mpr ⟨am_v1468, fun _ h => absurd h List.not_mem_nil⟩⟩⟩⟩⟩⟩⟩⟩⟩
theorem am_be249_0 : (List.range' 0 36).all (am_eb 249) = true := by decide +kernel
theorem am_ok249 (i : Nat) : am_eOk 249 i := by
  have hy : 249 < am_law → am_cP 249 := fun _ => am_cms 249 (by decide)
  have hw : ∀ w ∈ am_ewE (am_nm 249).cls (am_at 249 i), w ∈ am_G := fun w h => am_wl249 w (am_ewA_in h)
  refine am_e_ok hy hw ?_
  by_cases h0 : i < 36
  · exact List.all_eq_true.mp am_be249_0 i (List.mem_range'_1.mpr ⟨by omega, by omega⟩)
  exact am_eb_out (am_len_out (n := 36) (by decide) (by omega))
set_option maxRecDepth 100000 in
theorem am_wl250 : ∀ w ∈ am_ewA (am_nm 250).cls (am_prog 250), w ∈ am_G := by
  have e : am_ewA (am_nm 250).cls (am_prog 250) = [am_u1216, am_u1460, am_u1468, am_u1216, am_u1415, am_u1545] := rfl
  rw [e]
  exact List.forall_mem_cons.mpr ⟨am_v1216, List.forall_mem_cons.mpr ⟨am_v1460, List.forall_mem_cons.mpr ⟨am_v1468, List.forall_mem_cons.mpr ⟨am_v1216, List.forall_mem_cons.mpr ⟨am_v1415, List.forall_mem_cons.mpr ⟨am_v1545, fun _ h => absurd h List.not_mem_nil⟩⟩⟩⟩⟩⟩
theorem am_be250_0 : (List.range' 0 20).all (am_eb 250) = true := by decide +kernel
theorem am_ok250 (i : Nat) : am_eOk 250 i := by
  have hy : 250 < am_law → am_cP 250 := fun _ => am_cms 250 (by decide)
  have hw : ∀ w ∈ am_ewE (am_nm 250).cls (am_at 250 i), w ∈ am_G := fun w h => am_wl250 w (am_ewA_in h)
  refine am_e_ok hy hw ?_
  by_cases h0 : i < 20
  · exact List.all_eq_true.mp am_be250_0 i (List.mem_range'_1.mpr ⟨by omega, by omega⟩)
  exact am_eb_out (am_len_out (n := 20) (by decide) (by omega))
set_option maxRecDepth 100000 in
theorem am_wl251 : ∀ w ∈ am_ewA (am_nm 251).cls (am_prog 251), w ∈ am_G := by
  have e : am_ewA (am_nm 251).cls (am_prog 251) = [am_u1197, am_u1633] := rfl
  rw [e]
  exact List.forall_mem_cons.mpr ⟨am_v1197, List.forall_mem_cons.mpr ⟨am_v1633, fun _ h => absurd h List.not_mem_nil⟩⟩
theorem am_be251_0 : (List.range' 0 28).all (am_eb 251) = true := by decide +kernel
theorem am_ok251 (i : Nat) : am_eOk 251 i := by
  have hy : 251 < am_law → am_cP 251 := fun _ => am_cms 251 (by decide)
  have hw : ∀ w ∈ am_ewE (am_nm 251).cls (am_at 251 i), w ∈ am_G := fun w h => am_wl251 w (am_ewA_in h)
  refine am_e_ok hy hw ?_
  by_cases h0 : i < 28
  · exact List.all_eq_true.mp am_be251_0 i (List.mem_range'_1.mpr ⟨by omega, by omega⟩)
  exact am_eb_out (am_len_out (n := 28) (by decide) (by omega))
set_option maxRecDepth 100000 in
theorem am_wl252 : ∀ w ∈ am_ewA (am_nm 252).cls (am_prog 252), w ∈ am_G := by
  have e : am_ewA (am_nm 252).cls (am_prog 252) = [am_u1197, am_u1585, am_u1617, am_u1241, am_u1376, am_u1238, am_u1621, am_u1239, am_u1239, am_u1614] := rfl
  rw [e]
  exact List.forall_mem_cons.mpr ⟨am_v1197, List.forall_mem_cons.mpr ⟨am_v1585, List.forall_mem_cons.mpr ⟨am_v1617, List.forall_mem_cons.mpr ⟨am_v1241, List.forall_mem_cons.mpr ⟨am_v1376, List.forall_mem_cons.mpr ⟨am_v1238, List.forall_mem_cons.mpr ⟨am_v1621, List.forall_mem_cons.mpr ⟨am_v1239, List.forall_mem_cons.mpr ⟨am_v1239, List.forall_mem_cons.mpr ⟨am_v1614, fun _ h => absurd h List.not_mem_nil⟩⟩⟩⟩⟩⟩⟩⟩⟩⟩
theorem am_be252_0 : (List.range' 0 64).all (am_eb 252) = true := by decide +kernel
theorem am_be252_1 : (List.range' 64 1).all (am_eb 252) = true := by decide +kernel
theorem am_ok252 (i : Nat) : am_eOk 252 i := by
  have hy : 252 < am_law → am_cP 252 := fun _ => am_cms 252 (by decide)
  have hw : ∀ w ∈ am_ewE (am_nm 252).cls (am_at 252 i), w ∈ am_G := fun w h => am_wl252 w (am_ewA_in h)
  refine am_e_ok hy hw ?_
  by_cases h0 : i < 64
  · exact List.all_eq_true.mp am_be252_0 i (List.mem_range'_1.mpr ⟨by omega, by omega⟩)
  by_cases h1 : i < 65
  · exact List.all_eq_true.mp am_be252_1 i (List.mem_range'_1.mpr ⟨by omega, by omega⟩)
  exact am_eb_out (am_len_out (n := 65) (by decide) (by omega))
set_option maxRecDepth 100000 in
theorem am_wl253 : ∀ w ∈ am_ewA (am_nm 253).cls (am_prog 253), w ∈ am_G := by
  have e : am_ewA (am_nm 253).cls (am_prog 253) = [am_u1652, am_u1365, am_u1565, am_u1664, am_u1197] := rfl
  rw [e]
  exact List.forall_mem_cons.mpr ⟨am_v1652, List.forall_mem_cons.mpr ⟨am_v1365, List.forall_mem_cons.mpr ⟨am_v1565, List.forall_mem_cons.mpr ⟨am_v1664, List.forall_mem_cons.mpr ⟨am_v1197, fun _ h => absurd h List.not_mem_nil⟩⟩⟩⟩⟩
theorem am_be253_0 : (List.range' 0 30).all (am_eb 253) = true := by decide +kernel
theorem am_ok253 (i : Nat) : am_eOk 253 i := by
  have hy : 253 < am_law → am_cP 253 := fun _ => am_cms 253 (by decide)
  have hw : ∀ w ∈ am_ewE (am_nm 253).cls (am_at 253 i), w ∈ am_G := fun w h => am_wl253 w (am_ewA_in h)
  refine am_e_ok hy hw ?_
  by_cases h0 : i < 30
  · exact List.all_eq_true.mp am_be253_0 i (List.mem_range'_1.mpr ⟨by omega, by omega⟩)
  exact am_eb_out (am_len_out (n := 30) (by decide) (by omega))
set_option maxRecDepth 100000 in
theorem am_wl254 : ∀ w ∈ am_ewA (am_nm 254).cls (am_prog 254), w ∈ am_G := by
  have e : am_ewA (am_nm 254).cls (am_prog 254) = [am_u1239, am_u1239, am_u1614, am_u1241, am_u1376, am_u1238, am_u1680, am_u1621] := rfl
  rw [e]
  exact List.forall_mem_cons.mpr ⟨am_v1239, List.forall_mem_cons.mpr ⟨am_v1239, List.forall_mem_cons.mpr ⟨am_v1614, List.forall_mem_cons.mpr ⟨am_v1241, List.forall_mem_cons.mpr ⟨am_v1376, List.forall_mem_cons.mpr ⟨am_v1238, List.forall_mem_cons.mpr ⟨am_v1680, List.forall_mem_cons.mpr ⟨am_v1621, fun _ h => absurd h List.not_mem_nil⟩⟩⟩⟩⟩⟩⟩⟩
theorem am_be254_0 : (List.range' 0 48).all (am_eb 254) = true := by decide +kernel
theorem am_ok254 (i : Nat) : am_eOk 254 i := by
  have hy : 254 < am_law → am_cP 254 := fun _ => am_cms 254 (by decide)
  have hw : ∀ w ∈ am_ewE (am_nm 254).cls (am_at 254 i), w ∈ am_G := fun w h => am_wl254 w (am_ewA_in h)
  refine am_e_ok hy hw ?_
  by_cases h0 : i < 48
  · exact List.all_eq_true.mp am_be254_0 i (List.mem_range'_1.mpr ⟨by omega, by omega⟩)
  exact am_eb_out (am_len_out (n := 48) (by decide) (by omega))
set_option maxRecDepth 100000 in
theorem am_wl255 : ∀ w ∈ am_ewA (am_nm 255).cls (am_prog 255), w ∈ am_G := by
  have e : am_ewA (am_nm 255).cls (am_prog 255) = [am_u1660, am_u1372, am_u1573, am_u1238, am_u1239, am_u1240, am_u1585, am_u1617] := rfl
  rw [e]
  exact List.forall_mem_cons.mpr ⟨am_v1660, List.forall_mem_cons.mpr ⟨am_v1372, List.forall_mem_cons.mpr ⟨am_v1573, List.forall_mem_cons.mpr ⟨am_v1238, List.forall_mem_cons.mpr ⟨am_v1239, List.forall_mem_cons.mpr ⟨am_v1240, List.forall_mem_cons.mpr ⟨am_v1585, List.forall_mem_cons.mpr ⟨am_v1617, fun _ h => absurd h List.not_mem_nil⟩⟩⟩⟩⟩⟩⟩⟩
theorem am_be255_0 : (List.range' 0 47).all (am_eb 255) = true := by decide +kernel
theorem am_ok255 (i : Nat) : am_eOk 255 i := by
  have hy : 255 < am_law → am_cP 255 := fun _ => am_cms 255 (by decide)
  have hw : ∀ w ∈ am_ewE (am_nm 255).cls (am_at 255 i), w ∈ am_G := fun w h => am_wl255 w (am_ewA_in h)
  refine am_e_ok hy hw ?_
  by_cases h0 : i < 47
  · exact List.all_eq_true.mp am_be255_0 i (List.mem_range'_1.mpr ⟨by omega, by omega⟩)
  exact am_eb_out (am_len_out (n := 47) (by decide) (by omega))
set_option maxRecDepth 100000 in
theorem am_wl256 : ∀ w ∈ am_ewA (am_nm 256).cls (am_prog 256), w ∈ am_G := by
  have e : am_ewA (am_nm 256).cls (am_prog 256) = [am_u196, am_u46, am_u625, am_u626, am_u113, am_u113, am_u113, am_u625, am_u630] := rfl
  rw [e]
  exact List.forall_mem_cons.mpr ⟨am_v196, List.forall_mem_cons.mpr ⟨am_v46, List.forall_mem_cons.mpr ⟨am_v625, List.forall_mem_cons.mpr ⟨am_v626, List.forall_mem_cons.mpr ⟨am_v113, List.forall_mem_cons.mpr ⟨am_v113, List.forall_mem_cons.mpr ⟨am_v113, List.forall_mem_cons.mpr ⟨am_v625, List.forall_mem_cons.mpr ⟨am_v630, fun _ h => absurd h List.not_mem_nil⟩⟩⟩⟩⟩⟩⟩⟩⟩
theorem am_be256_0 : (List.range' 0 57).all (am_eb 256) = true := by decide +kernel
theorem am_ok256 (i : Nat) : am_eOk 256 i := by
  have hy : 256 < am_law → am_cP 256 := fun _ => am_cms 256 (by decide)
  have hw : ∀ w ∈ am_ewE (am_nm 256).cls (am_at 256 i), w ∈ am_G := fun w h => am_wl256 w (am_ewA_in h)
  refine am_e_ok hy hw ?_
  by_cases h0 : i < 57
  · exact List.all_eq_true.mp am_be256_0 i (List.mem_range'_1.mpr ⟨by omega, by omega⟩)
  exact am_eb_out (am_len_out (n := 57) (by decide) (by omega))
set_option maxRecDepth 100000 in
theorem am_wl257 : ∀ w ∈ am_ewA (am_nm 257).cls (am_prog 257), w ∈ am_G := by
  have e : am_ewA (am_nm 257).cls (am_prog 257) = [am_u686, am_u686, am_u696, am_u734] := rfl
  rw [e]
  exact List.forall_mem_cons.mpr ⟨am_v686, List.forall_mem_cons.mpr ⟨am_v686, List.forall_mem_cons.mpr ⟨am_v696, List.forall_mem_cons.mpr ⟨am_v734, fun _ h => absurd h List.not_mem_nil⟩⟩⟩⟩
theorem am_be257_0 : (List.range' 0 44).all (am_eb 257) = true := by decide +kernel
theorem am_ok257 (i : Nat) : am_eOk 257 i := by
  have hy : 257 < am_law → am_cP 257 := fun _ => am_cms 257 (by decide)
  have hw : ∀ w ∈ am_ewE (am_nm 257).cls (am_at 257 i), w ∈ am_G := fun w h => am_wl257 w (am_ewA_in h)
  refine am_e_ok hy hw ?_
  by_cases h0 : i < 44
  · exact List.all_eq_true.mp am_be257_0 i (List.mem_range'_1.mpr ⟨by omega, by omega⟩)
  exact am_eb_out (am_len_out (n := 44) (by decide) (by omega))
set_option maxRecDepth 100000 in
theorem am_wl258 : ∀ w ∈ am_ewA (am_nm 258).cls (am_prog 258), w ∈ am_G := by
  have e : am_ewA (am_nm 258).cls (am_prog 258) = [am_u807, am_u815, am_u235, am_u819, am_u815, am_u235, am_u154, am_u815, am_u235, am_u820, am_u233, am_u233, am_u234, am_u235, am_u824, am_u828, am_u836, am_u856, am_u235, am_u872, am_u868] := rfl
  rw [e]
  exact List.forall_mem_cons.mpr ⟨am_v807, List.forall_mem_cons.mpr ⟨am_v815, List.forall_mem_cons.mpr ⟨am_v235, List.forall_mem_cons.mpr ⟨am_v819, List.forall_mem_cons.mpr ⟨am_v815, List.forall_mem_cons.mpr ⟨am_v235, List.forall_mem_cons.mpr ⟨am_v154, List.forall_mem_cons.mpr ⟨am_v815, List.forall_mem_cons.mpr ⟨am_v235, List.forall_mem_cons.mpr ⟨am_v820, List.forall_mem_cons.mpr ⟨am_v233, List.forall_mem_cons.mpr ⟨am_v233, List.forall_mem_cons.mpr ⟨am_v234, List.forall_mem_cons.mpr ⟨am_v235, List.forall_mem_cons.mpr ⟨am_v824, List.forall_mem_cons.mpr ⟨am_v828, List.forall_mem_cons.mpr ⟨am_v836, List.forall_mem_cons.mpr ⟨am_v856, List.forall_mem_cons.mpr ⟨am_v235, List.forall_mem_cons.mpr ⟨am_v872, List.forall_mem_cons.mpr ⟨am_v868, fun _ h => absurd h List.not_mem_nil⟩⟩⟩⟩⟩⟩⟩⟩⟩⟩⟩⟩⟩⟩⟩⟩⟩⟩⟩⟩⟩
theorem am_be258_0 : (List.range' 0 64).all (am_eb 258) = true := by decide +kernel
theorem am_be258_1 : (List.range' 64 6).all (am_eb 258) = true := by decide +kernel
theorem am_ok258 (i : Nat) : am_eOk 258 i := by
  have hy : 258 < am_law → am_cP 258 := fun _ => am_cms 258 (by decide)
  have hw : ∀ w ∈ am_ewE (am_nm 258).cls (am_at 258 i), w ∈ am_G := fun w h => am_wl258 w (am_ewA_in h)
  refine am_e_ok hy hw ?_
  by_cases h0 : i < 64
  · exact List.all_eq_true.mp am_be258_0 i (List.mem_range'_1.mpr ⟨by omega, by omega⟩)
  by_cases h1 : i < 70
  · exact List.all_eq_true.mp am_be258_1 i (List.mem_range'_1.mpr ⟨by omega, by omega⟩)
  exact am_eb_out (am_len_out (n := 70) (by decide) (by omega))
set_option maxRecDepth 100000 in
theorem am_wl259 : ∀ w ∈ am_ewA (am_nm 259).cls (am_prog 259), w ∈ am_G := by
  have e : am_ewA (am_nm 259).cls (am_prog 259) = [am_u1136, am_u305, am_u50, am_u1140, am_u1144] := rfl
  rw [e]
  exact List.forall_mem_cons.mpr ⟨am_v1136, List.forall_mem_cons.mpr ⟨am_v305, List.forall_mem_cons.mpr ⟨am_v50, List.forall_mem_cons.mpr ⟨am_v1140, List.forall_mem_cons.mpr ⟨am_v1144, fun _ h => absurd h List.not_mem_nil⟩⟩⟩⟩⟩
theorem am_be259_0 : (List.range' 0 36).all (am_eb 259) = true := by decide +kernel
theorem am_ok259 (i : Nat) : am_eOk 259 i := by
  have hy : 259 < am_law → am_cP 259 := fun _ => am_cms 259 (by decide)
  have hw : ∀ w ∈ am_ewE (am_nm 259).cls (am_at 259 i), w ∈ am_G := fun w h => am_wl259 w (am_ewA_in h)
  refine am_e_ok hy hw ?_
  by_cases h0 : i < 36
  · exact List.all_eq_true.mp am_be259_0 i (List.mem_range'_1.mpr ⟨by omega, by omega⟩)
  exact am_eb_out (am_len_out (n := 36) (by decide) (by omega))
set_option maxRecDepth 100000 in
theorem am_wl260 : ∀ w ∈ am_ewA (am_nm 260).cls (am_prog 260), w ∈ am_G := by
  have e : am_ewA (am_nm 260).cls (am_prog 260) = [am_u1136, am_u305, am_u50, am_u1079, am_u305, am_u1140, am_u1152, am_u1164] := rfl
  rw [e]
  exact List.forall_mem_cons.mpr ⟨am_v1136, List.forall_mem_cons.mpr ⟨am_v305, List.forall_mem_cons.mpr ⟨am_v50, List.forall_mem_cons.mpr ⟨am_v1079, List.forall_mem_cons.mpr ⟨am_v305, List.forall_mem_cons.mpr ⟨am_v1140, List.forall_mem_cons.mpr ⟨am_v1152, List.forall_mem_cons.mpr ⟨am_v1164, fun _ h => absurd h List.not_mem_nil⟩⟩⟩⟩⟩⟩⟩⟩
theorem am_be260_0 : (List.range' 0 31).all (am_eb 260) = true := by decide +kernel
theorem am_ok260 (i : Nat) : am_eOk 260 i := by
  have hy : 260 < am_law → am_cP 260 := fun _ => am_cms 260 (by decide)
  have hw : ∀ w ∈ am_ewE (am_nm 260).cls (am_at 260 i), w ∈ am_G := fun w h => am_wl260 w (am_ewA_in h)
  refine am_e_ok hy hw ?_
  by_cases h0 : i < 31
  · exact List.all_eq_true.mp am_be260_0 i (List.mem_range'_1.mpr ⟨by omega, by omega⟩)
  exact am_eb_out (am_len_out (n := 31) (by decide) (by omega))
set_option maxRecDepth 100000 in
theorem am_wl261 : ∀ w ∈ am_ewA (am_nm 261).cls (am_prog 261), w ∈ am_G := by
  have e : am_ewA (am_nm 261).cls (am_prog 261) = [am_u340, am_u543, am_u342, am_u490, am_u344, am_u342, am_u458, am_u351, am_u342, am_u593] := rfl
  rw [e]
  exact List.forall_mem_cons.mpr ⟨am_v340, List.forall_mem_cons.mpr ⟨am_v543, List.forall_mem_cons.mpr ⟨am_v342, List.forall_mem_cons.mpr ⟨am_v490, List.forall_mem_cons.mpr ⟨am_v344, List.forall_mem_cons.mpr ⟨am_v342, List.forall_mem_cons.mpr ⟨am_v458, List.forall_mem_cons.mpr ⟨am_v351, List.forall_mem_cons.mpr ⟨am_v342, List.forall_mem_cons.mpr ⟨am_v593, fun _ h => absurd h List.not_mem_nil⟩⟩⟩⟩⟩⟩⟩⟩⟩⟩
theorem am_be261_0 : (List.range' 0 24).all (am_eb 261) = true := by decide +kernel
theorem am_ok261 (i : Nat) : am_eOk 261 i := by
  have hy : 261 < am_law → am_cP 261 := fun _ => am_cms 261 (by decide)
  have hw : ∀ w ∈ am_ewE (am_nm 261).cls (am_at 261 i), w ∈ am_G := fun w h => am_wl261 w (am_ewA_in h)
  refine am_e_ok hy hw ?_
  by_cases h0 : i < 24
  · exact List.all_eq_true.mp am_be261_0 i (List.mem_range'_1.mpr ⟨by omega, by omega⟩)
  exact am_eb_out (am_len_out (n := 24) (by decide) (by omega))
set_option maxRecDepth 100000 in
theorem am_wl262 : ∀ w ∈ am_ewA (am_nm 262).cls (am_prog 262), w ∈ am_G := by
  have e : am_ewA (am_nm 262).cls (am_prog 262) = [am_u340, am_u543, am_u342, am_u490, am_u352, am_u986, am_u352, am_u992] := rfl
  rw [e]
  exact List.forall_mem_cons.mpr ⟨am_v340, List.forall_mem_cons.mpr ⟨am_v543, List.forall_mem_cons.mpr ⟨am_v342, List.forall_mem_cons.mpr ⟨am_v490, List.forall_mem_cons.mpr ⟨am_v352, List.forall_mem_cons.mpr ⟨am_v986, List.forall_mem_cons.mpr ⟨am_v352, List.forall_mem_cons.mpr ⟨am_v992, fun _ h => absurd h List.not_mem_nil⟩⟩⟩⟩⟩⟩⟩⟩
theorem am_be262_0 : (List.range' 0 50).all (am_eb 262) = true := by decide +kernel
theorem am_ok262 (i : Nat) : am_eOk 262 i := by
  have hy : 262 < am_law → am_cP 262 := fun _ => am_cms 262 (by decide)
  have hw : ∀ w ∈ am_ewE (am_nm 262).cls (am_at 262 i), w ∈ am_G := fun w h => am_wl262 w (am_ewA_in h)
  refine am_e_ok hy hw ?_
  by_cases h0 : i < 50
  · exact List.all_eq_true.mp am_be262_0 i (List.mem_range'_1.mpr ⟨by omega, by omega⟩)
  exact am_eb_out (am_len_out (n := 50) (by decide) (by omega))
set_option maxRecDepth 100000 in
theorem am_wl263 : ∀ w ∈ am_ewA (am_nm 263).cls (am_prog 263), w ∈ am_G := by
  have e : am_ewA (am_nm 263).cls (am_prog 263) = [am_u340, am_u543, am_u1047, am_u353, am_u1048] := rfl
  rw [e]
  exact List.forall_mem_cons.mpr ⟨am_v340, List.forall_mem_cons.mpr ⟨am_v543, List.forall_mem_cons.mpr ⟨am_v1047, List.forall_mem_cons.mpr ⟨am_v353, List.forall_mem_cons.mpr ⟨am_v1048, fun _ h => absurd h List.not_mem_nil⟩⟩⟩⟩⟩
theorem am_be263_0 : (List.range' 0 25).all (am_eb 263) = true := by decide +kernel
theorem am_ok263 (i : Nat) : am_eOk 263 i := by
  have hy : 263 < am_law → am_cP 263 := fun _ => am_cms 263 (by decide)
  have hw : ∀ w ∈ am_ewE (am_nm 263).cls (am_at 263 i), w ∈ am_G := fun w h => am_wl263 w (am_ewA_in h)
  refine am_e_ok hy hw ?_
  by_cases h0 : i < 25
  · exact List.all_eq_true.mp am_be263_0 i (List.mem_range'_1.mpr ⟨by omega, by omega⟩)
  exact am_eb_out (am_len_out (n := 25) (by decide) (by omega))
set_option maxRecDepth 100000 in
theorem am_wl264 : ∀ w ∈ am_ewA (am_nm 264).cls (am_prog 264), w ∈ am_G := by
  have e : am_ewA (am_nm 264).cls (am_prog 264) = [am_u1227, am_u1545, am_u1545, am_u1227, am_u1549, am_u1549, am_u1549, am_u1549, am_u1549, am_u1230, am_u1226, am_u1231, am_u1226, am_u1232, am_u1226] := rfl
  rw [e]
  exact List.forall_mem_cons.mpr ⟨am_v1227, List.forall_mem_cons.mpr ⟨am_v1545, List.forall_mem_cons.mpr ⟨am_v1545, List.forall_mem_cons.mpr ⟨am_v1227, List.forall_mem_cons.mpr ⟨am_v1549, List.forall_mem_cons.mpr ⟨am_v1549, List.forall_mem_cons.mpr ⟨am_v1549, List.forall_mem_cons.mpr ⟨am_v1549, List.forall_mem_cons.mpr ⟨am_v1549, List.forall_mem_cons.mpr ⟨am_v1230, List.forall_mem_cons.mpr ⟨am_v1226, List.forall_mem_cons.mpr ⟨am_v1231, List.forall_mem_cons.mpr ⟨am_v1226, List.forall_mem_cons.mpr ⟨am_v1232, List.forall_mem_cons.mpr ⟨am_v1226, fun _ h => absurd h List.not_mem_nil⟩⟩⟩⟩⟩⟩⟩⟩⟩⟩⟩⟩⟩⟩⟩
theorem am_be264_0 : (List.range' 0 64).all (am_eb 264) = true := by decide +kernel
theorem am_be264_1 : (List.range' 64 10).all (am_eb 264) = true := by decide +kernel
theorem am_ok264 (i : Nat) : am_eOk 264 i := by
  have hy : 264 < am_law → am_cP 264 := fun _ => am_cms 264 (by decide)
  have hw : ∀ w ∈ am_ewE (am_nm 264).cls (am_at 264 i), w ∈ am_G := fun w h => am_wl264 w (am_ewA_in h)
  refine am_e_ok hy hw ?_
  by_cases h0 : i < 64
  · exact List.all_eq_true.mp am_be264_0 i (List.mem_range'_1.mpr ⟨by omega, by omega⟩)
  by_cases h1 : i < 74
  · exact List.all_eq_true.mp am_be264_1 i (List.mem_range'_1.mpr ⟨by omega, by omega⟩)
  exact am_eb_out (am_len_out (n := 74) (by decide) (by omega))
set_option maxRecDepth 100000 in
theorem am_wl265 : ∀ w ∈ am_ewA (am_nm 265).cls (am_prog 265), w ∈ am_G := by
  have e : am_ewA (am_nm 265).cls (am_prog 265) = [am_u1629, am_u1637, am_u1243, am_u1197] := rfl
  rw [e]
  exact List.forall_mem_cons.mpr ⟨am_v1629, List.forall_mem_cons.mpr ⟨am_v1637, List.forall_mem_cons.mpr ⟨am_v1243, List.forall_mem_cons.mpr ⟨am_v1197, fun _ h => absurd h List.not_mem_nil⟩⟩⟩⟩
theorem am_be265_0 : (List.range' 0 20).all (am_eb 265) = true := by decide +kernel
theorem am_ok265 (i : Nat) : am_eOk 265 i := by
  have hy : 265 < am_law → am_cP 265 := fun _ => am_cms 265 (by decide)
  have hw : ∀ w ∈ am_ewE (am_nm 265).cls (am_at 265 i), w ∈ am_G := fun w h => am_wl265 w (am_ewA_in h)
  refine am_e_ok hy hw ?_
  by_cases h0 : i < 20
  · exact List.all_eq_true.mp am_be265_0 i (List.mem_range'_1.mpr ⟨by omega, by omega⟩)
  exact am_eb_out (am_len_out (n := 20) (by decide) (by omega))
