/-! rows of the methods 231 .. 258 -/
set_option maxRecDepth 100000 in
theorem am_wl231 : ∀ w ∈ am_ewA (am_nm 231).cls (am_prog 231), w ∈ am_G := by
  have e : am_ewA (am_nm 231).cls (am_prog 231) = [am_u1197, am_u1365, am_u1812] := rfl
  rw [e]
  exact List.forall_mem_cons.mpr ⟨am_v1197, List.forall_mem_cons.mpr ⟨am_v1365, List.forall_mem_cons.mpr ⟨am_v1812, fun _ h => absurd h List.not_mem_nil⟩⟩⟩
theorem am_be231_0 : (List.range' 0 18).all (am_eb 231) = true := by decide +kernel
theorem am_ok231 (i : Nat) : am_eOk 231 i := by
  have hy : 231 < am_law → am_cP 231 := fun _ => am_cms 231 (by decide)
  have hw : ∀ w ∈ am_ewE (am_nm 231).cls (am_at 231 i), w ∈ am_G := fun w h => am_wl231 w (am_ewA_in h)
  refine am_e_ok hy hw ?_
  by_cases h0 : i < 18
  · exact List.all_eq_true.mp am_be231_0 i (List.mem_range'_1.mpr ⟨by omega, by omega⟩)
  exact am_eb_out (am_len_out (n := 18) (by decide) (by omega))
set_option maxRecDepth 100000 in
theorem am_wl232 : ∀ w ∈ am_ewA (am_nm 232).cls (am_prog 232), w ∈ am_G := by
  have e : am_ewA (am_nm 232).cls (am_prog 232) = [am_u1387, am_u1197, am_u1812, am_u1637, am_u1637] := rfl
  rw [e]
  exact List.forall_mem_cons.mpr ⟨am_v1387, List.forall_mem_cons.mpr ⟨am_v1197, List.forall_mem_cons.mpr ⟨am_v1812, List.forall_mem_cons.mpr ⟨am_v1637, List.forall_mem_cons.mpr ⟨am_v1637, fun _ h => absurd h List.not_mem_nil⟩⟩⟩⟩⟩
theorem am_be232_0 : (List.range' 0 44).all (am_eb 232) = true := by decide +kernel
theorem am_ok232 (i : Nat) : am_eOk 232 i := by
  have hy : 232 < am_law → am_cP 232 := fun _ => am_cms 232 (by decide)
  have hw : ∀ w ∈ am_ewE (am_nm 232).cls (am_at 232 i), w ∈ am_G := fun w h => am_wl232 w (am_ewA_in h)
  refine am_e_ok hy hw ?_
  by_cases h0 : i < 44
  · exact List.all_eq_true.mp am_be232_0 i (List.mem_range'_1.mpr ⟨by omega, by omega⟩)
  exact am_eb_out (am_len_out (n := 44) (by decide) (by omega))
set_option maxRecDepth 100000 in
theorem am_wl233 : ∀ w ∈ am_ewA (am_nm 233).cls (am_prog 233), w ∈ am_G := by
  have e : am_ewA (am_nm 233).cls (am_prog 233) = [am_u700, am_u1889, am_u704, am_u1889] := rfl
  rw [e]
  exact List.forall_mem_cons.mpr ⟨am_v700, List.forall_mem_cons.mpr ⟨am_v1889, List.forall_mem_cons.mpr ⟨am_v704, List.forall_mem_cons.mpr ⟨am_v1889, fun _ h => absurd h List.not_mem_nil⟩⟩⟩⟩
theorem am_be233_0 : (List.range' 0 13).all (am_eb 233) = true := by decide +kernel
theorem am_ok233 (i : Nat) : am_eOk 233 i := by
  have hy : 233 < am_law → am_cP 233 := fun _ => am_cms 233 (by decide)
  have hw : ∀ w ∈ am_ewE (am_nm 233).cls (am_at 233 i), w ∈ am_G := fun w h => am_wl233 w (am_ewA_in h)
  refine am_e_ok hy hw ?_
  by_cases h0 : i < 13
  · exact List.all_eq_true.mp am_be233_0 i (List.mem_range'_1.mpr ⟨by omega, by omega⟩)
  exact am_eb_out (am_len_out (n := 13) (by decide) (by omega))
set_option maxRecDepth 100000 in
theorem am_wl234 : ∀ w ∈ am_ewA (am_nm 234).cls (am_prog 234), w ∈ am_G := by
  have e : am_ewA (am_nm 234).cls (am_prog 234) = [am_u756] := rfl
  rw [e]
  exact List.forall_mem_cons.mpr ⟨am_v756, fun _ h => absurd h List.not_mem_nil⟩
theorem am_be234_0 : (List.range' 0 5).all (am_eb 234) = true := by decide +kernel
theorem am_ok234 (i : Nat) : am_eOk 234 i := by
  have hy : 234 < am_law → am_cP 234 := fun _ => am_cms 234 (by decide)
  have hw : ∀ w ∈ am_ewE (am_nm 234).cls (am_at 234 i), w ∈ am_G := fun w h => am_wl234 w (am_ewA_in h)
  refine am_e_ok hy hw ?_
  by_cases h0 : i < 5
  · exact List.all_eq_true.mp am_be234_0 i (List.mem_range'_1.mpr ⟨by omega, by omega⟩)
  exact am_eb_out (am_len_out (n := 5) (by decide) (by omega))
set_option maxRecDepth 100000 in
theorem am_wl235 : ∀ w ∈ am_ewA (am_nm 235).cls (am_prog 235), w ∈ am_G := by
  have e : am_ewA (am_nm 235).cls (am_prog 235) = [am_u197, am_u597, am_u602, am_u196, am_u61, am_u608] := rfl
  rw [e]
  exact List.forall_mem_cons.mpr ⟨am_v197, List.forall_mem_cons.mpr ⟨am_v597, List.forall_mem_cons.mpr ⟨am_v602, List.forall_mem_cons.mpr ⟨am_v196, List.forall_mem_cons.mpr ⟨am_v61, List.forall_mem_cons.mpr ⟨am_v608, fun _ h => absurd h List.not_mem_nil⟩⟩⟩⟩⟩⟩
theorem am_be235_0 : (List.range' 0 18).all (am_eb 235) = true := by decide +kernel
theorem am_ok235 (i : Nat) : am_eOk 235 i := by
  have hy : 235 < am_law → am_cP 235 := fun _ => am_cms 235 (by decide)
  have hw : ∀ w ∈ am_ewE (am_nm 235).cls (am_at 235 i), w ∈ am_G := fun w h => am_wl235 w (am_ewA_in h)
  refine am_e_ok hy hw ?_
  by_cases h0 : i < 18
  · exact List.all_eq_true.mp am_be235_0 i (List.mem_range'_1.mpr ⟨by omega, by omega⟩)
  exact am_eb_out (am_len_out (n := 18) (by decide) (by omega))
set_option maxRecDepth 100000 in
theorem am_wl236 : ∀ w ∈ am_ewA (am_nm 236).cls (am_prog 236), w ∈ am_G := by
  have e : am_ewA (am_nm 236).cls (am_prog 236) = [am_u274, am_u47, am_u278, am_u275, am_u961, am_u277, am_u278, am_u990, am_u277, am_u278, am_u991, am_u278, am_u115, am_u115, am_u279, am_u276, am_u278, am_u981] := rfl
  rw [e]
  exact List.forall_mem_cons.mpr ⟨am_v274, List.forall_mem_cons.mpr ⟨am_v47, List.forall_mem_cons.mpr ⟨am_v278, List.forall_mem_cons.mpr ⟨am_v275, List.forall_mem_cons.mpr ⟨am_v961, List.forall_mem_cons.mpr ⟨am_v277, List.forall_mem_cons.mpr ⟨am_v278, List.forall_mem_cons.mpr ⟨am_v990, List.forall_mem_cons.mpr ⟨am_v277, List.forall_mem_cons.mpr ⟨am_v278, List.forall_mem_cons.mpr ⟨am_v991, List.forall_mem_cons.mpr ⟨am_v278, List.forall_mem_cons.mpr ⟨am_v115, List.forall_mem_cons.mpr ⟨am_v115, List.forall_mem_cons.mpr ⟨am_v279, List.forall_mem_cons.mpr ⟨am_v276, List.forall_mem_cons.mpr ⟨am_v278, List.forall_mem_cons.mpr ⟨am_v981, fun _ h => absurd h List.not_mem_nil⟩⟩⟩⟩⟩⟩⟩⟩⟩⟩⟩⟩⟩⟩⟩⟩⟩⟩
theorem am_be236_0 : (List.range' 0 64).all (am_eb 236) = true := by decide +kernel
theorem am_be236_1 : (List.range' 64 22).all (am_eb 236) = true := by decide +kernel
theorem am_ok236 (i : Nat) : am_eOk 236 i := by
  have hy : 236 < am_law → am_cP 236 := fun _ => am_cms 236 (by decide)
  have hw : ∀ w ∈ am_ewE (am_nm 236).cls (am_at 236 i), w ∈ am_G := fun w h => am_wl236 w (am_ewA_in h)
  refine am_e_ok hy hw ?_
  by_cases h0 : i < 64
  · exact List.all_eq_true.mp am_be236_0 i (List.mem_range'_1.mpr ⟨by omega, by omega⟩)
  by_cases h1 : i < 86
  · exact List.all_eq_true.mp am_be236_1 i (List.mem_range'_1.mpr ⟨by omega, by omega⟩)
  exact am_eb_out (am_len_out (n := 86) (by decide) (by omega))
set_option maxRecDepth 100000 in
theorem am_wl237 : ∀ w ∈ am_ewA (am_nm 237).cls (am_prog 237), w ∈ am_G := by
  have e : am_ewA (am_nm 237).cls (am_prog 237) = [am_u752] := rfl
  rw [e]
  exact List.forall_mem_cons.mpr ⟨am_v752, fun _ h => absurd h List.not_mem_nil⟩
theorem am_be237_0 : (List.range' 0 30).all (am_eb 237) = true := by decide +kernel
theorem am_ok237 (i : Nat) : am_eOk 237 i := by
  have hy : 237 < am_law → am_cP 237 := fun _ => am_cms 237 (by decide)
  have hw : ∀ w ∈ am_ewE (am_nm 237).cls (am_at 237 i), w ∈ am_G := fun w h => am_wl237 w (am_ewA_in h)
  refine am_e_ok hy hw ?_
  by_cases h0 : i < 30
  · exact List.all_eq_true.mp am_be237_0 i (List.mem_range'_1.mpr ⟨by omega, by omega⟩)
  exact am_eb_out (am_len_out (n := 30) (by decide) (by omega))
set_option maxRecDepth 100000 in
theorem am_wl238 : ∀ w ∈ am_ewA (am_nm 238).cls (am_prog 238), w ∈ am_G := by
  have e : am_ewA (am_nm 238).cls (am_prog 238) = [am_u686, am_u696] := rfl
  rw [e]
  exact List.forall_mem_cons.mpr ⟨am_v686, List.forall_mem_cons.mpr ⟨am_v696, fun _ h => absurd h List.not_mem_nil⟩⟩
theorem am_be238_0 : (List.range' 0 40).all (am_eb 238) = true := by decide +kernel
theorem am_ok238 (i : Nat) : am_eOk 238 i := by
  have hy : 238 < am_law → am_cP 238 := fun _ => am_cms 238 (by decide)
  have hw : ∀ w ∈ am_ewE (am_nm 238).cls (am_at 238 i), w ∈ am_G := fun w h => am_wl238 w (am_ewA_in h)
  refine am_e_ok hy hw ?_
  by_cases h0 : i < 40
  · exact List.all_eq_true.mp am_be238_0 i (List.mem_range'_1.mpr ⟨by omega, by omega⟩)
  exact am_eb_out (am_len_out (n := 40) (by decide) (by omega))
set_option maxRecDepth 100000 in
theorem am_wl239 : ∀ w ∈ am_ewA (am_nm 239).cls (am_prog 239), w ∈ am_G := by
  have e : am_ewA (am_nm 239).cls (am_prog 239) = [am_u832, am_u232, am_u807, am_u807, am_u807, am_u233, am_u233, am_u235, am_u848, am_u832, am_u235, am_u848, am_u235, am_u848] := rfl
  rw [e]
  exact List.forall_mem_cons.mpr ⟨am_v832, List.forall_mem_cons.mpr ⟨am_v232, List.forall_mem_cons.mpr ⟨am_v807, List.forall_mem_cons.mpr ⟨am_v807, List.forall_mem_cons.mpr ⟨am_v807, List.forall_mem_cons.mpr ⟨am_v233, List.forall_mem_cons.mpr ⟨am_v233, List.forall_mem_cons.mpr ⟨am_v235, List.forall_mem_cons.mpr ⟨am_v848, List.forall_mem_cons.mpr ⟨am_v832, List.forall_mem_cons.mpr ⟨am_v235, List.forall_mem_cons.mpr ⟨am_v848, List.forall_mem_cons.mpr ⟨am_v235, List.forall_mem_cons.mpr ⟨am_v848, fun _ h => absurd h List.not_mem_nil⟩⟩⟩⟩⟩⟩⟩⟩⟩⟩⟩⟩⟩⟩
theorem am_be239_0 : (List.range' 0 63).all (am_eb 239) = true := by decide +kernel
theorem am_ok239 (i : Nat) : am_eOk 239 i := by
  have hy : 239 < am_law → am_cP 239 := fun _ => am_cms 239 (by decide)
  have hw : ∀ w ∈ am_ewE (am_nm 239).cls (am_at 239 i), w ∈ am_G := fun w h => am_wl239 w (am_ewA_in h)
  refine am_e_ok hy hw ?_
  by_cases h0 : i < 63
  · exact List.all_eq_true.mp am_be239_0 i (List.mem_range'_1.mpr ⟨by omega, by omega⟩)
  exact am_eb_out (am_len_out (n := 63) (by decide) (by omega))
set_option maxRecDepth 100000 in
theorem am_wl240 : ∀ w ∈ am_ewA (am_nm 240).cls (am_prog 240), w ∈ am_G := by
  have e : am_ewA (am_nm 240).cls (am_prog 240) = [am_u307, am_u306, am_u1052, am_u305, am_u57, am_u305, am_u42, am_u305, am_u1053, am_u1054, am_u1055] := rfl
  rw [e]
  exact List.forall_mem_cons.mpr ⟨am_v307, List.forall_mem_cons.mpr ⟨am_v306, List.forall_mem_cons.mpr ⟨am_v1052, List.forall_mem_cons.mpr ⟨am_v305, List.forall_mem_cons.mpr ⟨am_v57, List.forall_mem_cons.mpr ⟨am_v305, List.forall_mem_cons.mpr ⟨am_v42, List.forall_mem_cons.mpr ⟨am_v305, List.forall_mem_cons.mpr ⟨am_v1053, List.forall_mem_cons.mpr ⟨am_v1054, List.forall_mem_cons.mpr ⟨am_v1055, fun _ h => absurd h List.not_mem_nil⟩⟩⟩⟩⟩⟩⟩⟩⟩⟩⟩
theorem am_be240_0 : (List.range' 0 64).all (am_eb 240) = true := by decide +kernel
theorem am_be240_1 : (List.range' 64 34).all (am_eb 240) = true := by decide +kernel
theorem am_ok240 (i : Nat) : am_eOk 240 i := by
  have hy : 240 < am_law → am_cP 240 := fun _ => am_cms 240 (by decide)
  have hw : ∀ w ∈ am_ewE (am_nm 240).cls (am_at 240 i), w ∈ am_G := fun w h => am_wl240 w (am_ewA_in h)
  refine am_e_ok hy hw ?_
  by_cases h0 : i < 64
  · exact List.all_eq_true.mp am_be240_0 i (List.mem_range'_1.mpr ⟨by omega, by omega⟩)
  by_cases h1 : i < 98
  · exact List.all_eq_true.mp am_be240_1 i (List.mem_range'_1.mpr ⟨by omega, by omega⟩)
  exact am_eb_out (am_len_out (n := 98) (by decide) (by omega))
set_option maxRecDepth 100000 in
theorem am_wl241 : ∀ w ∈ am_ewA (am_nm 241).cls (am_prog 241), w ∈ am_G := by
  have e : am_ewA (am_nm 241).cls (am_prog 241) = [am_u305, am_u50, am_u308, am_u307, am_u306, am_u1052] := rfl
  rw [e]
  exact List.forall_mem_cons.mpr ⟨am_v305, List.forall_mem_cons.mpr ⟨am_v50, List.forall_mem_cons.mpr ⟨am_v308, List.forall_mem_cons.mpr ⟨am_v307, List.forall_mem_cons.mpr ⟨am_v306, List.forall_mem_cons.mpr ⟨am_v1052, fun _ h => absurd h List.not_mem_nil⟩⟩⟩⟩⟩⟩
theorem am_be241_0 : (List.range' 0 25).all (am_eb 241) = true := by decide +kernel
theorem am_ok241 (i : Nat) : am_eOk 241 i := by
  have hy : 241 < am_law → am_cP 241 := fun _ => am_cms 241 (by decide)
  have hw : ∀ w ∈ am_ewE (am_nm 241).cls (am_at 241 i), w ∈ am_G := fun w h => am_wl241 w (am_ewA_in h)
  refine am_e_ok hy hw ?_
  by_cases h0 : i < 25
  · exact List.all_eq_true.mp am_be241_0 i (List.mem_range'_1.mpr ⟨by omega, by omega⟩)
  exact am_eb_out (am_len_out (n := 25) (by decide) (by omega))
set_option maxRecDepth 100000 in
theorem am_wl242 : ∀ w ∈ am_ewA (am_nm 242).cls (am_prog 242), w ∈ am_G := by
  have e : am_ewA (am_nm 242).cls (am_prog 242) = [am_u340, am_u438, am_u342, am_u490, am_u344, am_u342, am_u458, am_u351, am_u342, am_u491, am_u342, am_u472] := rfl
  rw [e]
  exact List.forall_mem_cons.mpr ⟨am_v340, List.forall_mem_cons.mpr ⟨am_v438, List.forall_mem_cons.mpr ⟨am_v342, List.forall_mem_cons.mpr ⟨am_v490, List.forall_mem_cons.mpr ⟨am_v344, List.forall_mem_cons.mpr ⟨am_v342, List.forall_mem_cons.mpr ⟨am_v458, List.forall_mem_cons.mpr ⟨am_v351, List.forall_mem_cons.mpr ⟨am_v342, List.forall_mem_cons.mpr ⟨am_v491, List.forall_mem_cons.mpr ⟨am_v342, List.forall_mem_cons.mpr ⟨am_v472, fun _ h => absurd h List.not_mem_nil⟩⟩⟩⟩⟩⟩⟩⟩⟩⟩⟩⟩
theorem am_be242_0 : (List.range' 0 39).all (am_eb 242) = true := by decide +kernel
theorem am_ok242 (i : Nat) : am_eOk 242 i := by
  have hy : 242 < am_law → am_cP 242 := fun _ => am_cms 242 (by decide)
  have hw : ∀ w ∈ am_ewE (am_nm 242).cls (am_at 242 i), w ∈ am_G := fun w h => am_wl242 w (am_ewA_in h)
  refine am_e_ok hy hw ?_
  by_cases h0 : i < 39
  · exact List.all_eq_true.mp am_be242_0 i (List.mem_range'_1.mpr ⟨by omega, by omega⟩)
  exact am_eb_out (am_len_out (n := 39) (by decide) (by omega))
set_option maxRecDepth 100000 in
theorem am_wl243 : ∀ w ∈ am_ewA (am_nm 243).cls (am_prog 243), w ∈ am_G := by
  have e : am_ewA (am_nm 243).cls (am_prog 243) = [am_u340, am_u543, am_u340, am_u924, am_u350, am_u342, am_u928, am_u342, am_u929, am_u342, am_u564, am_u342, am_u490] := rfl
  rw [e]
  exact List.forall_mem_cons.mpr ⟨am_v340, List.forall_mem_cons.mpr ⟨am_v543, List.forall_mem_cons.mpr ⟨am_v340, List.forall_mem_cons.mpr ⟨am_v924, List.forall_mem_cons.mpr ⟨am_v350, List.forall_mem_cons.mpr ⟨am_v342, List.forall_mem_cons.mpr ⟨am_v928, List.forall_mem_cons.mpr ⟨am_v342, List.forall_mem_cons.mpr ⟨am_v929, List.forall_mem_cons.mpr ⟨am_v342, List.forall_mem_cons.mpr ⟨am_v564, List.forall_mem_cons.mpr ⟨am_v342, List.forall_mem_cons.mpr ⟨am_v490, fun _ h => absurd h List.not_mem_nil⟩⟩⟩⟩⟩⟩⟩⟩⟩⟩⟩⟩⟩
theorem am_be243_0 : (List.range' 0 42).all (am_eb 243) = true := by decide +kernel
theorem am_ok243 (i : Nat) : am_eOk 243 i := by
  have hy : 243 < am_law → am_cP 243 := fun _ => am_cms 243 (by decide)
  have hw : ∀ w ∈ am_ewE (am_nm 243).cls (am_at 243 i), w ∈ am_G := fun w h => am_wl243 w (am_ewA_in h)
  refine am_e_ok hy hw ?_
  by_cases h0 : i < 42
  · exact List.all_eq_true.mp am_be243_0 i (List.mem_range'_1.mpr ⟨by omega, by omega⟩)
  exact am_eb_out (am_len_out (n := 42) (by decide) (by omega))
set_option maxRecDepth 100000 in
theorem am_wl244 : ∀ w ∈ am_ewA (am_nm 244).cls (am_prog 244), w ∈ am_G := by
  have e : am_ewA (am_nm 244).cls (am_prog 244) = [am_u340, am_u543, am_u340, am_u543, am_u350, am_u342, am_u928, am_u350, am_u342, am_u928, am_u340, am_u1062] := rfl
  rw [e]
  exact List.forall_mem_cons.mpr ⟨am_v340, List.forall_mem_cons.mpr ⟨am_v543, List.forall_mem_cons.mpr ⟨am_v340, List.forall_mem_cons.mpr ⟨am_v543, List.forall_mem_cons.mpr ⟨am_v350, List.forall_mem_cons.mpr ⟨am_v342, List.forall_mem_cons.mpr ⟨am_v928, List.forall_mem_cons.mpr ⟨am_v350, List.forall_mem_cons.mpr ⟨am_v342, List.forall_mem_cons.mpr ⟨am_v928, List.forall_mem_cons.mpr ⟨am_v340, List.forall_mem_cons.mpr ⟨am_v1062, fun _ h => absurd h List.not_mem_nil⟩⟩⟩⟩⟩⟩⟩⟩⟩⟩⟩⟩
theorem am_be244_0 : (List.range' 0 60).all (am_eb 244) = true := by decide +kernel
theorem am_ok244 (i : Nat) : am_eOk 244 i := by
  have hy : 244 < am_law → am_cP 244 := fun _ => am_cms 244 (by decide)
  have hw : ∀ w ∈ am_ewE (am_nm 244).cls (am_at 244 i), w ∈ am_G := fun w h => am_wl244 w (am_ewA_in h)
  refine am_e_ok hy hw ?_
  by_cases h0 : i < 60
  · exact List.all_eq_true.mp am_be244_0 i (List.mem_range'_1.mpr ⟨by omega, by omega⟩)
  exact am_eb_out (am_len_out (n := 60) (by decide) (by omega))
set_option maxRecDepth 100000 in
theorem am_wl245 : ∀ w ∈ am_ewA (am_nm 245).cls (am_prog 245), w ∈ am_G := by
  have e : am_ewA (am_nm 245).cls (am_prog 245) = [am_u1085, am_u340, am_u543, am_u340, am_u418, am_u1086, am_u354, am_u1087] := rfl
  rw [e]
  exact List.forall_mem_cons.mpr ⟨am_v1085, List.forall_mem_cons.mpr ⟨am_v340, List.forall_mem_cons.mpr ⟨am_v543, List.forall_mem_cons.mpr ⟨am_v340, List.forall_mem_cons.mpr ⟨am_v418, List.forall_mem_cons.mpr ⟨am_v1086, List.forall_mem_cons.mpr ⟨am_v354, List.forall_mem_cons.mpr ⟨am_v1087, fun _ h => absurd h List.not_mem_nil⟩⟩⟩⟩⟩⟩⟩⟩
theorem am_be245_0 : (List.range' 0 35).all (am_eb 245) = true := by decide +kernel
theorem am_ok245 (i : Nat) : am_eOk 245 i := by
  have hy : 245 < am_law → am_cP 245 := fun _ => am_cms 245 (by decide)
  have hw : ∀ w ∈ am_ewE (am_nm 245).cls (am_at 245 i), w ∈ am_G := fun w h => am_wl245 w (am_ewA_in h)
  refine am_e_ok hy hw ?_
  by_cases h0 : i < 35
  · exact List.all_eq_true.mp am_be245_0 i (List.mem_range'_1.mpr ⟨by omega, by omega⟩)
  exact am_eb_out (am_len_out (n := 35) (by decide) (by omega))
set_option maxRecDepth 100000 in
theorem am_wl246 : ∀ w ∈ am_ewA (am_nm 246).cls (am_prog 246), w ∈ am_G := by
  have e : am_ewA (am_nm 246).cls (am_prog 246) = [am_u1460, am_u1464, am_u1472, am_u1225] := rfl
  rw [e]
  exact List.forall_mem_cons.mpr ⟨am_v1460, List.forall_mem_cons.mpr ⟨am_v1464, List.forall_mem_cons.mpr ⟨am_v1472, List.forall_mem_cons.mpr ⟨am_v1225, fun _ h => absurd h List.not_mem_nil⟩⟩⟩⟩
theorem am_be246_0 : (List.range' 0 17).all (am_eb 246) = true := by decide +kernel
theorem am_ok246 (i : Nat) : am_eOk 246 i := by
  have hy : 246 < am_law → am_cP 246 := fun _ => am_cms 246 (by decide)
  have hw : ∀ w ∈ am_ewE (am_nm 246).cls (am_at 246 i), w ∈ am_G := fun w h => am_wl246 w (am_ewA_in h)
  refine am_e_ok hy hw ?_
  by_cases h0 : i < 17
  · exact List.all_eq_true.mp am_be246_0 i (List.mem_range'_1.mpr ⟨by omega, by omega⟩)
  exact am_eb_out (am_len_out (n := 17) (by decide) (by omega))
set_option maxRecDepth 100000 in
theorem am_wl247 : ∀ w ∈ am_ewA (am_nm 247).cls (am_prog 247), w ∈ am_G := by
  have e : am_ewA (am_nm 247).cls (am_prog 247) = [am_u1480, am_u1214, am_u1215, am_u1468, am_u1215, am_u1484, am_u1415, am_u1488, am_u1227, am_u1496, am_u1468, am_u1484, am_u1415, am_u1488, am_u1499, am_u1464, am_u1499, am_u1460, am_u1499, am_u1464, am_u1468] := rfl
  rw [e]
  exact List.forall_mem_cons.mpr ⟨am_v1480, List.forall_mem_cons.mpr ⟨am_v1214, List.forall_mem_cons.mpr ⟨am_v1215, List.forall_mem_cons.mpr ⟨am_v1468, List.forall_mem_cons.mpr ⟨am_v1215, List.forall_mem_cons.mpr ⟨am_v1484, List.forall_mem_cons.mpr ⟨am_v1415, List.forall_mem_cons.mpr ⟨am_v1488, List.forall_mem_cons.mpr ⟨am_v1227, List.forall_mem_cons.mpr ⟨am_v1496, List.forall_mem_cons.mpr ⟨am_v1468, List.forall_mem_cons.mpr ⟨am_v1484, List.forall_mem_cons.mpr ⟨am_v1415, List.forall_mem_cons.mpr ⟨am_v1488, List.forall_mem_cons.mpr ⟨am_v1499, List.forall_mem_cons.mpr ⟨am_v1464, List.forall_mem_cons.mpr ⟨am_v1499, List.forall_mem_cons.mpr ⟨am_v1460, List.forall_mem_cons.mpr ⟨am_v1499, List.forall_mem_cons.mpr ⟨am_v1464, List.forall_mem_cons.mpr ⟨am_v1468, fun _ h => absurd h List.not_mem_nil⟩⟩⟩⟩⟩⟩⟩⟩⟩⟩⟩⟩⟩⟩⟩⟩⟩⟩⟩⟩⟩
theorem am_be247_0 : (List.range' 0 64).all (am_eb 247) = true := by decide +kernel
theorem am_be247_1 : (List.range' 64 16).all (am_eb 247) = true := by decide +kernel
theorem am_ok247 (i : Nat) : am_eOk 247 i := by
  have hy : 247 < am_law → am_cP 247 := fun _ => am_cms 247 (by decide)
  have hw : ∀ w ∈ am_ewE (am_nm 247).cls (am_at 247 i), w ∈ am_G := fun w h => am_wl247 w (am_ewA_in h)
  refine am_e_ok hy hw ?_
  by_cases h0 : i < 64
  · exact List.all_eq_true.mp am_be247_0 i (List.mem_range'_1.mpr ⟨by omega, by omega⟩)
  by_cases h1 : i < 80
  · exact List.all_eq_true.mp am_be247_1 i (List.mem_range'_1.mpr ⟨by omega, by omega⟩)
  exact am_eb_out (am_len_out (n := 80) (by decide) (by omega))
set_option maxRecDepth 100000 in
theorem am_wl248 : ∀ w ∈ am_ewA (am_nm 248).cls (am_prog 248), w ∈ am_G := by
  have e : am_ewA (am_nm 248).cls (am_prog 248) = [am_u1492, am_u1214, am_u1215, am_u1215, am_u1215, am_u1215, am_u1215, am_u1507, am_u1225, am_u1499, am_u1514, am_u1219, am_u1219, am_u1218, am_u1218, am_u1415, am_u1488, am_u1214, am_u1215, am_u1518, am_u1514, am_u1221, am_u1219, am_u1215, am_u1220, am_u1219, am_u1415, am_u1225, am_u1514, am_u1221, am_u1219, am_u1219, am_u1219, am_u1484, am_u1521, am_u1499, am_u1525, am_u1468] := rfl
  rw [e]
  exact List.forall_mem_cons.mpr ⟨am_v1492, List.forall_mem_cons.mpr ⟨am_v1214, List.forall_mem_cons.mpr ⟨am_v1215, List.forall_mem_cons.mpr ⟨am_v1215, List.forall_mem_cons.mpr ⟨am_v1215, List.forall_mem_cons.mpr ⟨am_v1215, List.forall_mem_cons.mpr ⟨am_v1215, List.forall_mem_cons.mpr ⟨am_v1507, List.forall_mem_cons.mpr ⟨am_v1225, List.forall_mem_cons.mpr ⟨am_v1499, List.forall_mem_cons.mpr ⟨am_v1514, List.forall_mem_cons.mpr ⟨am_v1219, List.forall_mem_cons.mpr ⟨am_v1219, List.forall_mem_cons.mpr ⟨am_v1218, List.forall_mem_cons.mpr ⟨am_v1218, List.forall_mem_cons.mpr ⟨am_v1415, List.forall_mem_cons.mpr ⟨am_v1488, List.forall_mem_cons.mpr ⟨am_v1214, List.forall_mem_cons.mpr ⟨am_v1215, List.forall_mem_cons.mpr ⟨am_v1518, List.forall_mem_cons.mpr ⟨am_v1514, List.forall_mem_cons.mpr ⟨am_v1221, List.forall_mem_cons.mpr ⟨am_v1219, List.forall_mem_cons.mpr ⟨am_v1215, List.forall_mem_cons.mpr ⟨am_v1220, List.forall_mem_cons.mpr ⟨am_v1219, List.forall_mem_cons.mpr ⟨am_v1415, List.forall_mem_cons.mpr ⟨am_v1225, List.forall_mem_cons.mpr ⟨am_v1514, List.forall_mem_cons.mpr ⟨am_v1221, List.forall_mem_cons.mpr ⟨am_v1219, List.forall_mem_cons.mpr ⟨am_v1219, List.forall_mem_cons.mpr ⟨am_v1219, List.forall_mem_cons.mpr ⟨am_v1484, List.forall_mem_cons.mpr ⟨am_v1521, List.forall_mem_cons.mpr ⟨am_v1499, List.forall_mem_cons.mpr ⟨am_v1525, List.forall_mem_cons.mpr ⟨am_v1468, fun _ h => absurd h List.not_mem_nil⟩⟩⟩⟩⟩⟩⟩⟩⟩⟩⟩⟩⟩⟩⟩⟩⟩⟩⟩⟩⟩⟩⟩⟩⟩⟩⟩⟩⟩⟩⟩⟩⟩⟩⟩⟩⟩⟩
theorem am_be248_0 : (List.range' 0 64).all (am_eb 248) = true := by decide +kernel
theorem am_be248_1 : (List.range' 64 64).all (am_eb 248) = true := by decide +kernel
theorem am_be248_2 : (List.range' 128 10).all (am_eb 248) = true := by decide +kernel
theorem am_ok248 (i : Nat) : am_eOk 248 i := by
  have hy : 248 < am_law → am_cP 248 := fun _ => am_cms 248 (by decide)
  have hw : ∀ w ∈ am_ewE (am_nm 248).cls (am_at 248 i), w ∈ am_G := fun w h => am_wl248 w (am_ewA_in h)
  refine am_e_ok hy hw ?_
  by_cases h0 : i < 64
  · exact List.all_eq_true.mp am_be248_0 i (List.mem_range'_1.mpr ⟨by omega, by omega⟩)
  by_cases h1 : i < 128
  · exact List.all_eq_true.mp am_be248_1 i (List.mem_range'_1.mpr ⟨by omega, by omega⟩)
  by_cases h2 : i < 138
  · exact List.all_eq_true.mp am_be248_2 i (List.mem_range'_1.mpr ⟨by omega, by omega⟩)
  exact am_eb_out (am_len_out (n := 138) (by decide) (by omega))
set_option maxRecDepth 100000 in
theorem am_wl249 : ∀ w ∈ am_ewA (am_nm 249).cls (am_prog 249), w ∈ am_G := by
  have e : am_ewA (am_nm 249).cls (am_prog 249) = [am_u1460, am_u1460, am_u1460, am_u1507, am_u1225, am_u1492, am_u1499, am_u1525, am_u1468] := rfl
  rw [e]
  exact List.forall_mem_cons.mpr ⟨am_v1460, List.forall_mem_cons.mpr ⟨am_v1460, List.forall_mem_cons.mpr ⟨am_v1460, List.forall_mem_cons.mpr ⟨am_v1507, List.forall_mem_cons.mpr ⟨am_v1225, List.forall_mem_cons.mpr ⟨am_v1492, List.forall_mem_cons.mpr ⟨am_v1499, List.forall_mem_cons.mpr ⟨am_v1525, List.forall_mem_cons.mpr ⟨am_v1468, fun _ h => absurd h List.not_mem_nil⟩⟩⟩⟩⟩⟩⟩⟩⟩
theorem am_be249_0 : (List.range' 0 39).all (am_eb 249) = true := by decide +kernel
theorem am_ok249 (i : Nat) : am_eOk 249 i := by
  have hy : 249 < am_law → am_cP 249 := fun _ => am_cms 249 (by decide)
  have hw : ∀ w ∈ am_ewE (am_nm 249).cls (am_at 249 i), w ∈ am_G := fun w h => am_wl249 w (am_ewA_in h)
  refine am_e_ok hy hw ?_
  by_cases h0 : i < 39
  · exact List.all_eq_true.mp am_be249_0 i (List.mem_range'_1.mpr ⟨by omega, by omega⟩)
  exact am_eb_out (am_len_out (n := 39) (by decide) (by omega))
set_option maxRecDepth 100000 in
theorem am_wl250 : ∀ w ∈ am_ewA (am_nm 250).cls (am_prog 250), w ∈ am_G := by
  have e : am_ewA (am_nm 250).cls (am_prog 250) = [am_u1216, am_u1460, am_u1468, am_u1216, am_u1415, am_u1545] := rfl
  rw [e]
  exact List.forall_mem_cons.mpr ⟨am_v1216, List.forall_mem_cons.mpr ⟨am_v1460, List.forall_mem_cons.mpr ⟨am_v1468, List.forall_mem_cons.mpr ⟨am_v1216, List.forall_mem_cons.mpr ⟨am_v1415, List.forall_mem_cons.mpr ⟨am_v1545, fun _ h => absurd h List.not_mem_nil⟩⟩⟩⟩⟩⟩
theorem am_be250_0 : (List.range' 0 22).all (am_eb 250) = true := by decide +kernel
theorem am_ok250 (i : Nat) : am_eOk 250 i := by
  have hy : 250 < am_law → am_cP 250 := fun _ => am_cms 250 (by decide)
  have hw : ∀ w ∈ am_ewE (am_nm 250).cls (am_at 250 i), w ∈ am_G := fun w h => am_wl250 w (am_ewA_in h)
  refine am_e_ok hy hw ?_
  by_cases h0 : i < 22
  · exact List.all_eq_true.mp am_be250_0 i (List.mem_range'_1.mpr ⟨by omega, by omega⟩)
  exact am_eb_out (am_len_out (n := 22) (by decide) (by omega))
set_option maxRecDepth 100000 in
theorem am_wl251 : ∀ w ∈ am_ewA (am_nm 251).cls (am_prog 251), w ∈ am_G := by
  have e : am_ewA (am_nm 251).cls (am_prog 251) = [am_u1197, am_u1633] := rfl
  rw [e]
  exact List.forall_mem_cons.mpr ⟨am_v1197, List.forall_mem_cons.mpr ⟨am_v1633, fun _ h => absurd h List.not_mem_nil⟩⟩
theorem am_be251_0 : (List.range' 0 28).all (am_eb 251) = true := by decide +kernel
theorem am_ok251 (i : Nat) : am_eOk 251 i := by
  have hy : 251 < am_law → am_cP 251 := fun _ => am_cms 251 (by decide)
  have hw : ∀ w ∈ am_ewE (am_nm 251).cls (am_at 251 i), w ∈ am_G := fun w h => am_wl251 w (am_ewA_in h)
  refine am_e_ok hy hw ?_
  by_cases h0 : i < 28
  · exact List.all_eq_true.mp am_be251_0 i (List.mem_range'_1.mpr ⟨by omega, by omega⟩)
  exact am_eb_out (am_len_out (n := 28) (by decide) (by omega))
set_option maxRecDepth 100000 in
theorem am_wl252 : ∀ w ∈ am_ewA (am_nm 252).cls (am_prog 252), w ∈ am_G := by
  have e : am_ewA (am_nm 252).cls (am_prog 252) = [am_u1197, am_u1585, am_u1617, am_u1241, am_u1376, am_u1238, am_u1621, am_u1239, am_u1239, am_u1614] := rfl
  rw [e]
  exact List.forall_mem_cons.mpr ⟨am_v1197, List.forall_mem_cons.mpr ⟨am_v1585, List.forall_mem_cons.mpr ⟨am_v1617, List.forall_mem_cons.mpr ⟨am_v1241, List.forall_mem_cons.mpr ⟨am_v1376, List.forall_mem_cons.mpr ⟨am_v1238, List.forall_mem_cons.mpr ⟨am_v1621, List.forall_mem_cons.mpr ⟨am_v1239, List.forall_mem_cons.mpr ⟨am_v1239, List.forall_mem_cons.mpr ⟨am_v1614, fun _ h => absurd h List.not_mem_nil⟩⟩⟩⟩⟩⟩⟩⟩⟩⟩
theorem am_be252_0 : (List.range' 0 64).all (am_eb 252) = true := by decide +kernel
theorem am_be252_1 : (List.range' 64 2).all (am_eb 252) = true := by decide +kernel
theorem am_ok252 (i : Nat) : am_eOk 252 i := by
  have hy : 252 < am_law → am_cP 252 := fun _ => am_cms 252 (by decide)
  have hw : ∀ w ∈ am_ewE (am_nm 252).cls (am_at 252 i), w ∈ am_G := fun w h => am_wl252 w (am_ewA_in h)
  refine am_e_ok hy hw ?_
  by_cases h0 : i < 64
  · exact List.all_eq_true.mp am_be252_0 i (List.mem_range'_1.mpr ⟨by omega, by omega⟩)
  by_cases h1 : i < 66
  · exact List.all_eq_true.mp am_be252_1 i (List.mem_range'_1.mpr ⟨by omega, by omega⟩)
  exact am_eb_out (am_len_out (n := 66) (by decide) (by omega))
set_option maxRecDepth 100000 in
theorem am_wl253 : ∀ w ∈ am_ewA (am_nm 253).cls (am_prog 253), w ∈ am_G := by
  have e : am_ewA (am_nm 253).cls (am_prog 253) = [am_u1652, am_u1365, am_u1565, am_u1664, am_u1197] := rfl
  rw [e]
  exact List.forall_mem_cons.mpr ⟨am_v1652, List.forall_mem_cons.mpr ⟨am_v1365, List.forall_mem_cons.mpr ⟨am_v1565, List.forall_mem_cons.mpr ⟨am_v1664, List.forall_mem_cons.mpr ⟨am_v1197, fun _ h => absurd h List.not_mem_nil⟩⟩⟩⟩⟩
theorem am_be253_0 : (List.range' 0 31).all (am_eb 253) = true := by decide +kernel
theorem am_ok253 (i : Nat) : am_eOk 253 i := by
  have hy : 253 < am_law → am_cP 253 := fun _ => am_cms 253 (by decide)
  have hw : ∀ w ∈ am_ewE (am_nm 253).cls (am_at 253 i), w ∈ am_G := fun w h => am_wl253 w (am_ewA_in h)
  refine am_e_ok hy hw ?_
  by_cases h0 : i < 31
  · exact List.all_eq_true.mp am_be253_0 i (List.mem_range'_1.mpr ⟨by omega, by omega⟩)
  exact am_eb_out (am_len_out (n := 31) (by decide) (by omega))
set_option maxRecDepth 100000 in
theorem am_wl254 : ∀ w ∈ am_ewA (am_nm 254).cls (am_prog 254), w ∈ am_G := by
  have e : am_ewA (am_nm 254).cls (am_prog 254) = [am_u1239, am_u1239, am_u1614, am_u1241, am_u1376, am_u1238, am_u1680, am_u1621] := rfl
  rw [e]
  exact List.forall_mem_cons.mpr ⟨am_v1239, List.forall_mem_cons.mpr ⟨am_v1239, List.forall_mem_cons.mpr ⟨am_v1614, List.forall_mem_cons.mpr ⟨am_v1241, List.forall_mem_cons.mpr ⟨am_v1376, List.forall_mem_cons.mpr ⟨am_v1238, List.forall_mem_cons.mpr ⟨am_v1680, List.forall_mem_cons.mpr ⟨am_v1621, fun _ h => absurd h List.not_mem_nil⟩⟩⟩⟩⟩⟩⟩⟩
theorem am_be254_0 : (List.range' 0 49).all (am_eb 254) = true := by decide +kernel
theorem am_ok254 (i : Nat) : am_eOk 254 i := by
  have hy : 254 < am_law → am_cP 254 := fun _ => am_cms 254 (by decide)
  have hw : ∀ w ∈ am_ewE (am_nm 254).cls (am_at 254 i), w ∈ am_G := fun w h => am_wl254 w (am_ewA_in h)
  refine am_e_ok hy hw ?_
  by_cases h0 : i < 49
  · exact List.all_eq_true.mp am_be254_0 i (List.mem_range'_1.mpr ⟨by omega, by omega⟩)
  exact am_eb_out (am_len_out (n := 49) (by decide) (by omega))
set_option maxRecDepth 100000 in
theorem am_wl255 : ∀ w ∈ am_ewA (am_nm 255).cls (am_prog 255), w ∈ am_G := by
  have e : am_ewA (am_nm 255).cls (am_prog 255) = [am_u1660, am_u1372, am_u1573, am_u1238, am_u1239, am_u1240, am_u1585, am_u1617] := rfl
  rw [e]
  exact List.forall_mem_cons.mpr ⟨am_v1660, List.forall_mem_cons.mpr ⟨am_v1372, List.forall_mem_cons.mpr ⟨am_v1573, List.forall_mem_cons.mpr ⟨am_v1238, List.forall_mem_cons.mpr ⟨am_v1239, List.forall_mem_cons.mpr ⟨am_v1240, List.forall_mem_cons.mpr ⟨am_v1585, List.forall_mem_cons.mpr ⟨am_v1617, fun _ h => absurd h List.not_mem_nil⟩⟩⟩⟩⟩⟩⟩⟩
theorem am_be255_0 : (List.range' 0 48).all (am_eb 255) = true := by decide +kernel
theorem am_ok255 (i : Nat) : am_eOk 255 i := by
  have hy : 255 < am_law → am_cP 255 := fun _ => am_cms 255 (by decide)
  have hw : ∀ w ∈ am_ewE (am_nm 255).cls (am_at 255 i), w ∈ am_G := fun w h => am_wl255 w (am_ewA_in h)
  refine am_e_ok hy hw ?_
  by_cases h0 : i < 48
  · exact List.all_eq_true.mp am_be255_0 i (List.mem_range'_1.mpr ⟨by omega, by omega⟩)
  exact am_eb_out (am_len_out (n := 48) (by decide) (by omega))
set_option maxRecDepth 100000 in
theorem am_wl256 : ∀ w ∈ am_ewA (am_nm 256).cls (am_prog 256), w ∈ am_G := by
  have e : am_ewA (am_nm 256).cls (am_prog 256) = [am_u196, am_u46, am_u625, am_u626, am_u113, am_u113, am_u113, am_u625, am_u630] := rfl
  rw [e]
  exact List.forall_mem_cons.mpr ⟨am_v196, List.forall_mem_cons.mpr ⟨am_v46, List.forall_mem_cons.mpr ⟨am_v625, List.forall_mem_cons.mpr ⟨am_v626, List.forall_mem_cons.mpr ⟨am_v113, List.forall_mem_cons.mpr ⟨am_v113, List.forall_mem_cons.mpr ⟨am_v113, List.forall_mem_cons.mpr ⟨am_v625, List.forall_mem_cons.mpr ⟨am_v630, fun _ h => absurd h List.not_mem_nil⟩⟩⟩⟩⟩⟩⟩⟩⟩
theorem am_be256_0 : (List.range' 0 59).all (am_eb 256) = true := by decide +kernel
theorem am_ok256 (i : Nat) : am_eOk 256 i := by
  have hy : 256 < am_law → am_cP 256 := fun _ => am_cms 256 (by decide)
  have hw : ∀ w ∈ am_ewE (am_nm 256).cls (am_at 256 i), w ∈ am_G := fun w h => am_wl256 w (am_ewA_in h)
  refine am_e_ok hy hw ?_
  by_cases h0 : i < 59
  · exact List.all_eq_true.mp am_be256_0 i (List.mem_range'_1.mpr ⟨by omega, by omega⟩)
  exact am_eb_out (am_len_out (n := 59) (by decide) (by omega))
set_option maxRecDepth 100000 in
theorem am_wl257 : ∀ w ∈ am_ewA (am_nm 257).cls (am_prog 257), w ∈ am_G := by
  have e : am_ewA (am_nm 257).cls (am_prog 257) = [am_u686, am_u686, am_u696, am_u734] := rfl
  rw [e]
  exact List.forall_mem_cons.mpr ⟨am_v686, List.forall_mem_cons.mpr ⟨am_v686, List.forall_mem_cons.mpr ⟨am_v696, List.forall_mem_cons.mpr ⟨am_v734, fun _ h => absurd h List.not_mem_nil⟩⟩⟩⟩
theorem am_be257_0 : (List.range' 0 47).all (am_eb 257) = true := by decide +kernel
theorem am_ok257 (i : Nat) : am_eOk 257 i := by
  have hy : 257 < am_law → am_cP 257 := fun _ => am_cms 257 (by decide)
  have hw : ∀ w ∈ am_ewE (am_nm 257).cls (am_at 257 i), w ∈ am_G := fun w h => am_wl257 w (am_ewA_in h)
  refine am_e_ok hy hw ?_
  by_cases h0 : i < 47
  · exact List.all_eq_true.mp am_be257_0 i (List.mem_range'_1.mpr ⟨by omega, by omega⟩)
  exact am_eb_out (am_len_out (n := 47) (by decide) (by omega))
set_option maxRecDepth 100000 in
theorem am_wl258 : ∀ w ∈ am_ewA (am_nm 258).cls (am_prog 258), w ∈ am_G := by
  have e : am_ewA (am_nm 258).cls (am_prog 258) = [am_u807, am_u815, am_u235, am_u819, am_u815, am_u235, am_u154, am_u815, am_u235, am_u820, am_u233, am_u233, am_u234, am_u235, am_u824, am_u828, am_u836, am_u856, am_u235, am_u872, am_u868] := rfl
  rw [e]
  exact List.forall_mem_cons.mpr ⟨am_v807, List.forall_mem_cons.mpr ⟨am_v815, List.forall_mem_cons.mpr ⟨am_v235, List.forall_mem_cons.mpr ⟨am_v819, List.forall_mem_cons.mpr ⟨am_v815, List.forall_mem_cons.mpr ⟨am_v235, List.forall_mem_cons.mpr ⟨am_v154, List.forall_mem_cons.mpr ⟨am_v815, List.forall_mem_cons.mpr ⟨am_v235, List.forall_mem_cons.mpr ⟨am_v820, List.forall_mem_cons.mpr ⟨am_v233, List.forall_mem_cons.mpr ⟨am_v233, List.forall_mem_cons.mpr ⟨am_v234, List.forall_mem_cons.mpr ⟨am_v235, List.forall_mem_cons.mpr ⟨am_v824, List.forall_mem_cons.mpr ⟨am_v828, List.forall_mem_cons.mpr ⟨am_v836, List.forall_mem_cons.mpr ⟨am_v856, List.forall_mem_cons.mpr ⟨am_v235, List.forall_mem_cons.mpr ⟨am_v872, List.forall_mem_cons.mpr ⟨am_v868, fun _ h => absurd h List.not_mem_nil⟩⟩⟩⟩⟩⟩⟩⟩⟩⟩⟩⟩⟩⟩⟩⟩⟩⟩⟩⟩⟩
theorem am_be258_0 : (List.range' 0 64).all (am_eb 258) = true := by decide +kernel
theorem am_be258_1 : (List.range' 64 9).all (am_eb 258) = true := by decide +kernel
theorem am_ok258 (i : Nat) : am_eOk 258 i := by
  have hy : 258 < am_law → am_cP 258 := fun _ => am_cms 258 (by decide)
  have hw : ∀ w ∈ am_ewE (am_nm 258).cls (am_at 258 i), w ∈ am_G := fun w h => am_wl258 w (am_ewA_in h)
  refine am_e_ok hy hw ?_
  by_cases h0 : i < 64
  · exact List.all_eq_true.mp am_be258_0 i (List.mem_range'_1.mpr ⟨by omega, by omega⟩)
  by_cases h1 : i < 73
  · exact List.all_eq_true.mp am_be258_1 i (List.mem_range'_1.mpr ⟨by omega, by omega⟩)
  exact am_eb_out (am_len_out (n := 73) (by decide) (by omega))
