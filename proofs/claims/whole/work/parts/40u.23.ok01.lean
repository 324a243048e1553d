/-! rows of the methods 43 .. 89 -/
set_option maxRecDepth 100000 in
theorem am_wl43 : ∀ w ∈ am_ewA (am_nm 43).cls (am_prog 43), w ∈ am_G := by
  have e : am_ewA (am_nm 43).cls (am_prog 43) = [am_u238, am_u233, am_u233, am_u232, am_u233, am_u229, am_u229, am_u233] := rfl
  rw [e]
  exact List.forall_mem_cons.mpr ⟨am_v238, List.forall_mem_cons.mpr ⟨am_v233, List.forall_mem_cons.mpr ⟨am_v233, List.forall_mem_cons.mpr ⟨am_v232, List.forall_mem_cons.mpr ⟨am_v233, List.forall_mem_cons.mpr ⟨am_v229, List.forall_mem_cons.mpr ⟨am_v229, List.forall_mem_cons.mpr ⟨am_v233, fun _ h => absurd h List.not_mem_nil⟩⟩⟩⟩⟩⟩⟩⟩
theorem am_be43_0 : (List.range' 0 26).all (am_eb 43) = true := by decide +kernel
theorem am_ok43 (i : Nat) : am_eOk 43 i := by
  have hy : 43 < am_law → am_cP 43 := fun _ => am_cms 43 (by decide)
  have hw : ∀ w ∈ am_ewE (am_nm 43).cls (am_at 43 i), w ∈ am_G := fun w h => am_wl43 w (am_ewA_in h)
  refine am_e_ok hy hw ?_
  by_cases h0 : i < 26
  · exact List.all_eq_true.mp am_be43_0 i (List.mem_range'_1.mpr ⟨by omega, by omega⟩)
  exact am_eb_out (am_len_out (n := 26) (by decide) (by omega))
set_option maxRecDepth 100000 in
theorem am_wl44 : ∀ w ∈ am_ewA (am_nm 44).cls (am_prog 44), w ∈ am_G := by
  have e : am_ewA (am_nm 44).cls (am_prog 44) = [am_u238, am_u233, am_u233, am_u231, am_u238, am_u231, am_u233, am_u240] := rfl
  rw [e]
  exact List.forall_mem_cons.mpr ⟨am_v238, List.forall_mem_cons.mpr ⟨am_v233, List.forall_mem_cons.mpr ⟨am_v233, List.forall_mem_cons.mpr ⟨am_v231, List.forall_mem_cons.mpr ⟨am_v238, List.forall_mem_cons.mpr ⟨am_v231, List.forall_mem_cons.mpr ⟨am_v233, List.forall_mem_cons.mpr ⟨am_v240, fun _ h => absurd h List.not_mem_nil⟩⟩⟩⟩⟩⟩⟩⟩
theorem am_be44_0 : (List.range' 0 24).all (am_eb 44) = true := by decide +kernel
theorem am_ok44 (i : Nat) : am_eOk 44 i := by
  have hy : 44 < am_law → am_cP 44 := fun _ => am_cms 44 (by decide)
  have hw : ∀ w ∈ am_ewE (am_nm 44).cls (am_at 44 i), w ∈ am_G := fun w h => am_wl44 w (am_ewA_in h)
  refine am_e_ok hy hw ?_
  by_cases h0 : i < 24
  · exact List.all_eq_true.mp am_be44_0 i (List.mem_range'_1.mpr ⟨by omega, by omega⟩)
  exact am_eb_out (am_len_out (n := 24) (by decide) (by omega))
set_option maxRecDepth 100000 in
theorem am_wl45 : ∀ w ∈ am_ewA (am_nm 45).cls (am_prog 45), w ∈ am_G := by
  have e : am_ewA (am_nm 45).cls (am_prog 45) = [am_u233, am_u233, am_u230, am_u230, am_u233] := rfl
  rw [e]
  exact List.forall_mem_cons.mpr ⟨am_v233, List.forall_mem_cons.mpr ⟨am_v233, List.forall_mem_cons.mpr ⟨am_v230, List.forall_mem_cons.mpr ⟨am_v230, List.forall_mem_cons.mpr ⟨am_v233, fun _ h => absurd h List.not_mem_nil⟩⟩⟩⟩⟩
theorem am_be45_0 : (List.range' 0 18).all (am_eb 45) = true := by decide +kernel
theorem am_ok45 (i : Nat) : am_eOk 45 i := by
  have hy : 45 < am_law → am_cP 45 := fun _ => am_cms 45 (by decide)
  have hw : ∀ w ∈ am_ewE (am_nm 45).cls (am_at 45 i), w ∈ am_G := fun w h => am_wl45 w (am_ewA_in h)
  refine am_e_ok hy hw ?_
  by_cases h0 : i < 18
  · exact List.all_eq_true.mp am_be45_0 i (List.mem_range'_1.mpr ⟨by omega, by omega⟩)
  exact am_eb_out (am_len_out (n := 18) (by decide) (by omega))
set_option maxRecDepth 100000 in
theorem am_wl46 : ∀ w ∈ am_ewA (am_nm 46).cls (am_prog 46), w ∈ am_G := by
  have e : am_ewA (am_nm 46).cls (am_prog 46) = [am_u234, am_u234, am_u234, am_u234] := rfl
  rw [e]
  exact List.forall_mem_cons.mpr ⟨am_v234, List.forall_mem_cons.mpr ⟨am_v234, List.forall_mem_cons.mpr ⟨am_v234, List.forall_mem_cons.mpr ⟨am_v234, fun _ h => absurd h List.not_mem_nil⟩⟩⟩⟩
theorem am_be46_0 : (List.range' 0 43).all (am_eb 46) = true := by decide +kernel
theorem am_ok46 (i : Nat) : am_eOk 46 i := by
  have hy : 46 < am_law → am_cP 46 := fun _ => am_cms 46 (by decide)
  have hw : ∀ w ∈ am_ewE (am_nm 46).cls (am_at 46 i), w ∈ am_G := fun w h => am_wl46 w (am_ewA_in h)
  refine am_e_ok hy hw ?_
  by_cases h0 : i < 43
  · exact List.all_eq_true.mp am_be46_0 i (List.mem_range'_1.mpr ⟨by omega, by omega⟩)
  exact am_eb_out (am_len_out (n := 43) (by decide) (by omega))
set_option maxRecDepth 100000 in
theorem am_wl47 : ∀ w ∈ am_ewA (am_nm 47).cls (am_prog 47), w ∈ am_G := by
  have e : am_ewA (am_nm 47).cls (am_prog 47) = [am_u304, am_u308, am_u305, am_u306, am_u307] := rfl
  rw [e]
  exact List.forall_mem_cons.mpr ⟨am_v304, List.forall_mem_cons.mpr ⟨am_v308, List.forall_mem_cons.mpr ⟨am_v305, List.forall_mem_cons.mpr ⟨am_v306, List.forall_mem_cons.mpr ⟨am_v307, fun _ h => absurd h List.not_mem_nil⟩⟩⟩⟩⟩
theorem am_be47_0 : (List.range' 0 16).all (am_eb 47) = true := by decide +kernel
theorem am_ok47 (i : Nat) : am_eOk 47 i := by
  have hy : 47 < am_law → am_cP 47 := fun _ => am_cms 47 (by decide)
  have hw : ∀ w ∈ am_ewE (am_nm 47).cls (am_at 47 i), w ∈ am_G := fun w h => am_wl47 w (am_ewA_in h)
  refine am_e_ok hy hw ?_
  by_cases h0 : i < 16
  · exact List.all_eq_true.mp am_be47_0 i (List.mem_range'_1.mpr ⟨by omega, by omega⟩)
  exact am_eb_out (am_len_out (n := 16) (by decide) (by omega))
set_option maxRecDepth 100000 in
theorem am_wl48 : ∀ w ∈ am_ewA (am_nm 48).cls (am_prog 48), w ∈ am_G := by
  have e : am_ewA (am_nm 48).cls (am_prog 48) = [am_u305, am_u50, am_u308] := rfl
  rw [e]
  exact List.forall_mem_cons.mpr ⟨am_v305, List.forall_mem_cons.mpr ⟨am_v50, List.forall_mem_cons.mpr ⟨am_v308, fun _ h => absurd h List.not_mem_nil⟩⟩⟩
theorem am_be48_0 : (List.range' 0 33).all (am_eb 48) = true := by decide +kernel
theorem am_ok48 (i : Nat) : am_eOk 48 i := by
  have hy : 48 < am_law → am_cP 48 := fun _ => am_cms 48 (by decide)
  have hw : ∀ w ∈ am_ewE (am_nm 48).cls (am_at 48 i), w ∈ am_G := fun w h => am_wl48 w (am_ewA_in h)
  refine am_e_ok hy hw ?_
  by_cases h0 : i < 33
  · exact List.all_eq_true.mp am_be48_0 i (List.mem_range'_1.mpr ⟨by omega, by omega⟩)
  exact am_eb_out (am_len_out (n := 33) (by decide) (by omega))
set_option maxRecDepth 100000 in
theorem am_wl49 : ∀ w ∈ am_ewA (am_nm 49).cls (am_prog 49), w ∈ am_G := by
  have e : am_ewA (am_nm 49).cls (am_prog 49) = [am_u143, am_u144, am_u147, am_u149, am_u151, am_u152] := rfl
  rw [e]
  exact List.forall_mem_cons.mpr ⟨am_v143, List.forall_mem_cons.mpr ⟨am_v144, List.forall_mem_cons.mpr ⟨am_v147, List.forall_mem_cons.mpr ⟨am_v149, List.forall_mem_cons.mpr ⟨am_v151, List.forall_mem_cons.mpr ⟨am_v152, fun _ h => absurd h List.not_mem_nil⟩⟩⟩⟩⟩⟩
theorem am_be49_0 : (List.range' 0 23).all (am_eb 49) = true := by decide +kernel
theorem am_ok49 (i : Nat) : am_eOk 49 i := by
  have hy : 49 < am_law → am_cP 49 := fun _ => am_cms 49 (by decide)
  have hw : ∀ w ∈ am_ewE (am_nm 49).cls (am_at 49 i), w ∈ am_G := fun w h => am_wl49 w (am_ewA_in h)
  refine am_e_ok hy hw ?_
  by_cases h0 : i < 23
  · exact List.all_eq_true.mp am_be49_0 i (List.mem_range'_1.mpr ⟨by omega, by omega⟩)
  exact am_eb_out (am_len_out (n := 23) (by decide) (by omega))
set_option maxRecDepth 100000 in
theorem am_wl50 : ∀ w ∈ am_ewA (am_nm 50).cls (am_prog 50), w ∈ am_G := by
  have e : am_ewA (am_nm 50).cls (am_prog 50) = [am_u146, am_u153, am_u147, am_u149] := rfl
  rw [e]
  exact List.forall_mem_cons.mpr ⟨am_v146, List.forall_mem_cons.mpr ⟨am_v153, List.forall_mem_cons.mpr ⟨am_v147, List.forall_mem_cons.mpr ⟨am_v149, fun _ h => absurd h List.not_mem_nil⟩⟩⟩⟩
theorem am_be50_0 : (List.range' 0 25).all (am_eb 50) = true := by decide +kernel
theorem am_ok50 (i : Nat) : am_eOk 50 i := by
  have hy : 50 < am_law → am_cP 50 := fun _ => am_cms 50 (by decide)
  have hw : ∀ w ∈ am_ewE (am_nm 50).cls (am_at 50 i), w ∈ am_G := fun w h => am_wl50 w (am_ewA_in h)
  refine am_e_ok hy hw ?_
  by_cases h0 : i < 25
  · exact List.all_eq_true.mp am_be50_0 i (List.mem_range'_1.mpr ⟨by omega, by omega⟩)
  exact am_eb_out (am_len_out (n := 25) (by decide) (by omega))
set_option maxRecDepth 100000 in
theorem am_wl51 : ∀ w ∈ am_ewA (am_nm 51).cls (am_prog 51), w ∈ am_G := by
  have e : am_ewA (am_nm 51).cls (am_prog 51) = [am_u147] := rfl
  rw [e]
  exact List.forall_mem_cons.mpr ⟨am_v147, fun _ h => absurd h List.not_mem_nil⟩
theorem am_be51_0 : (List.range' 0 15).all (am_eb 51) = true := by decide +kernel
theorem am_ok51 (i : Nat) : am_eOk 51 i := by
  have hy : 51 < am_law → am_cP 51 := fun _ => am_cms 51 (by decide)
  have hw : ∀ w ∈ am_ewE (am_nm 51).cls (am_at 51 i), w ∈ am_G := fun w h => am_wl51 w (am_ewA_in h)
  refine am_e_ok hy hw ?_
  by_cases h0 : i < 15
  · exact List.all_eq_true.mp am_be51_0 i (List.mem_range'_1.mpr ⟨by omega, by omega⟩)
  exact am_eb_out (am_len_out (n := 15) (by decide) (by omega))
set_option maxRecDepth 100000 in
theorem am_wl52 : ∀ w ∈ am_ewA (am_nm 52).cls (am_prog 52), w ∈ am_G := by
  have e : am_ewA (am_nm 52).cls (am_prog 52) = [am_u147, am_u146] := rfl
  rw [e]
  exact List.forall_mem_cons.mpr ⟨am_v147, List.forall_mem_cons.mpr ⟨am_v146, fun _ h => absurd h List.not_mem_nil⟩⟩
theorem am_be52_0 : (List.range' 0 13).all (am_eb 52) = true := by decide +kernel
theorem am_ok52 (i : Nat) : am_eOk 52 i := by
  have hy : 52 < am_law → am_cP 52 := fun _ => am_cms 52 (by decide)
  have hw : ∀ w ∈ am_ewE (am_nm 52).cls (am_at 52 i), w ∈ am_G := fun w h => am_wl52 w (am_ewA_in h)
  refine am_e_ok hy hw ?_
  by_cases h0 : i < 13
  · exact List.all_eq_true.mp am_be52_0 i (List.mem_range'_1.mpr ⟨by omega, by omega⟩)
  exact am_eb_out (am_len_out (n := 13) (by decide) (by omega))
set_option maxRecDepth 100000 in
theorem am_wl53 : ∀ w ∈ am_ewA (am_nm 53).cls (am_prog 53), w ∈ am_G := by
  have e : am_ewA (am_nm 53).cls (am_prog 53) = [am_u149, am_u146] := rfl
  rw [e]
  exact List.forall_mem_cons.mpr ⟨am_v149, List.forall_mem_cons.mpr ⟨am_v146, fun _ h => absurd h List.not_mem_nil⟩⟩
theorem am_be53_0 : (List.range' 0 13).all (am_eb 53) = true := by decide +kernel
theorem am_ok53 (i : Nat) : am_eOk 53 i := by
  have hy : 53 < am_law → am_cP 53 := fun _ => am_cms 53 (by decide)
  have hw : ∀ w ∈ am_ewE (am_nm 53).cls (am_at 53 i), w ∈ am_G := fun w h => am_wl53 w (am_ewA_in h)
  refine am_e_ok hy hw ?_
  by_cases h0 : i < 13
  · exact List.all_eq_true.mp am_be53_0 i (List.mem_range'_1.mpr ⟨by omega, by omega⟩)
  exact am_eb_out (am_len_out (n := 13) (by decide) (by omega))
set_option maxRecDepth 100000 in
theorem am_wl54 : ∀ w ∈ am_ewA (am_nm 54).cls (am_prog 54), w ∈ am_G := by
  have e : am_ewA (am_nm 54).cls (am_prog 54) = [am_u146, am_u146, am_u144, am_u146, am_u146, am_u146] := rfl
  rw [e]
  exact List.forall_mem_cons.mpr ⟨am_v146, List.forall_mem_cons.mpr ⟨am_v146, List.forall_mem_cons.mpr ⟨am_v144, List.forall_mem_cons.mpr ⟨am_v146, List.forall_mem_cons.mpr ⟨am_v146, List.forall_mem_cons.mpr ⟨am_v146, fun _ h => absurd h List.not_mem_nil⟩⟩⟩⟩⟩⟩
theorem am_be54_0 : (List.range' 0 21).all (am_eb 54) = true := by decide +kernel
theorem am_ok54 (i : Nat) : am_eOk 54 i := by
  have hy : 54 < am_law → am_cP 54 := fun _ => am_cms 54 (by decide)
  have hw : ∀ w ∈ am_ewE (am_nm 54).cls (am_at 54 i), w ∈ am_G := fun w h => am_wl54 w (am_ewA_in h)
  refine am_e_ok hy hw ?_
  by_cases h0 : i < 21
  · exact List.all_eq_true.mp am_be54_0 i (List.mem_range'_1.mpr ⟨by omega, by omega⟩)
  exact am_eb_out (am_len_out (n := 21) (by decide) (by omega))
set_option maxRecDepth 100000 in
theorem am_wl55 : ∀ w ∈ am_ewA (am_nm 55).cls (am_prog 55), w ∈ am_G := by
  have e : am_ewA (am_nm 55).cls (am_prog 55) = [am_u153, am_u153, am_u151, am_u153, am_u153, am_u153] := rfl
  rw [e]
  exact List.forall_mem_cons.mpr ⟨am_v153, List.forall_mem_cons.mpr ⟨am_v153, List.forall_mem_cons.mpr ⟨am_v151, List.forall_mem_cons.mpr ⟨am_v153, List.forall_mem_cons.mpr ⟨am_v153, List.forall_mem_cons.mpr ⟨am_v153, fun _ h => absurd h List.not_mem_nil⟩⟩⟩⟩⟩⟩
theorem am_be55_0 : (List.range' 0 21).all (am_eb 55) = true := by decide +kernel
theorem am_ok55 (i : Nat) : am_eOk 55 i := by
  have hy : 55 < am_law → am_cP 55 := fun _ => am_cms 55 (by decide)
  have hw : ∀ w ∈ am_ewE (am_nm 55).cls (am_at 55 i), w ∈ am_G := fun w h => am_wl55 w (am_ewA_in h)
  refine am_e_ok hy hw ?_
  by_cases h0 : i < 21
  · exact List.all_eq_true.mp am_be55_0 i (List.mem_range'_1.mpr ⟨by omega, by omega⟩)
  exact am_eb_out (am_len_out (n := 21) (by decide) (by omega))
set_option maxRecDepth 100000 in
theorem am_wl56 : ∀ w ∈ am_ewA (am_nm 56).cls (am_prog 56), w ∈ am_G := by
  have e : am_ewA (am_nm 56).cls (am_prog 56) = [am_u153, am_u152, am_u152] := rfl
  rw [e]
  exact List.forall_mem_cons.mpr ⟨am_v153, List.forall_mem_cons.mpr ⟨am_v152, List.forall_mem_cons.mpr ⟨am_v152, fun _ h => absurd h List.not_mem_nil⟩⟩⟩
theorem am_be56_0 : (List.range' 0 23).all (am_eb 56) = true := by decide +kernel
theorem am_ok56 (i : Nat) : am_eOk 56 i := by
  have hy : 56 < am_law → am_cP 56 := fun _ => am_cms 56 (by decide)
  have hw : ∀ w ∈ am_ewE (am_nm 56).cls (am_at 56 i), w ∈ am_G := fun w h => am_wl56 w (am_ewA_in h)
  refine am_e_ok hy hw ?_
  by_cases h0 : i < 23
  · exact List.all_eq_true.mp am_be56_0 i (List.mem_range'_1.mpr ⟨by omega, by omega⟩)
  exact am_eb_out (am_len_out (n := 23) (by decide) (by omega))
set_option maxRecDepth 100000 in
theorem am_wl57 : ∀ w ∈ am_ewA (am_nm 57).cls (am_prog 57), w ∈ am_G := by
  have e : am_ewA (am_nm 57).cls (am_prog 57) = [am_u151] := rfl
  rw [e]
  exact List.forall_mem_cons.mpr ⟨am_v151, fun _ h => absurd h List.not_mem_nil⟩
theorem am_be57_0 : (List.range' 0 13).all (am_eb 57) = true := by decide +kernel
theorem am_ok57 (i : Nat) : am_eOk 57 i := by
  have hy : 57 < am_law → am_cP 57 := fun _ => am_cms 57 (by decide)
  have hw : ∀ w ∈ am_ewE (am_nm 57).cls (am_at 57 i), w ∈ am_G := fun w h => am_wl57 w (am_ewA_in h)
  refine am_e_ok hy hw ?_
  by_cases h0 : i < 13
  · exact List.all_eq_true.mp am_be57_0 i (List.mem_range'_1.mpr ⟨by omega, by omega⟩)
  exact am_eb_out (am_len_out (n := 13) (by decide) (by omega))
set_option maxRecDepth 100000 in
theorem am_wl58 : ∀ w ∈ am_ewA (am_nm 58).cls (am_prog 58), w ∈ am_G := by
  have e : am_ewA (am_nm 58).cls (am_prog 58) = [am_u152, am_u152] := rfl
  rw [e]
  exact List.forall_mem_cons.mpr ⟨am_v152, List.forall_mem_cons.mpr ⟨am_v152, fun _ h => absurd h List.not_mem_nil⟩⟩
theorem am_be58_0 : (List.range' 0 21).all (am_eb 58) = true := by decide +kernel
theorem am_ok58 (i : Nat) : am_eOk 58 i := by
  have hy : 58 < am_law → am_cP 58 := fun _ => am_cms 58 (by decide)
  have hw : ∀ w ∈ am_ewE (am_nm 58).cls (am_at 58 i), w ∈ am_G := fun w h => am_wl58 w (am_ewA_in h)
  refine am_e_ok hy hw ?_
  by_cases h0 : i < 21
  · exact List.all_eq_true.mp am_be58_0 i (List.mem_range'_1.mpr ⟨by omega, by omega⟩)
  exact am_eb_out (am_len_out (n := 21) (by decide) (by omega))
set_option maxRecDepth 100000 in
theorem am_wl59 : ∀ w ∈ am_ewA (am_nm 59).cls (am_prog 59), w ∈ am_G := by
  have e : am_ewA (am_nm 59).cls (am_prog 59) = [am_u340, am_u62] := rfl
  rw [e]
  exact List.forall_mem_cons.mpr ⟨am_v340, List.forall_mem_cons.mpr ⟨am_v62, fun _ h => absurd h List.not_mem_nil⟩⟩
theorem am_be59_0 : (List.range' 0 14).all (am_eb 59) = true := by decide +kernel
theorem am_ok59 (i : Nat) : am_eOk 59 i := by
  have hy : 59 < am_law → am_cP 59 := fun _ => am_cms 59 (by decide)
  have hw : ∀ w ∈ am_ewE (am_nm 59).cls (am_at 59 i), w ∈ am_G := fun w h => am_wl59 w (am_ewA_in h)
  refine am_e_ok hy hw ?_
  by_cases h0 : i < 14
  · exact List.all_eq_true.mp am_be59_0 i (List.mem_range'_1.mpr ⟨by omega, by omega⟩)
  exact am_eb_out (am_len_out (n := 14) (by decide) (by omega))
set_option maxRecDepth 100000 in
theorem am_wl60 : ∀ w ∈ am_ewA (am_nm 60).cls (am_prog 60), w ∈ am_G := by
  have e : am_ewA (am_nm 60).cls (am_prog 60) = [am_u348, am_u348, am_u347, am_u347, am_u348, am_u348, am_u348] := rfl
  rw [e]
  exact List.forall_mem_cons.mpr ⟨am_v348, List.forall_mem_cons.mpr ⟨am_v348, List.forall_mem_cons.mpr ⟨am_v347, List.forall_mem_cons.mpr ⟨am_v347, List.forall_mem_cons.mpr ⟨am_v348, List.forall_mem_cons.mpr ⟨am_v348, List.forall_mem_cons.mpr ⟨am_v348, fun _ h => absurd h List.not_mem_nil⟩⟩⟩⟩⟩⟩⟩
theorem am_be60_0 : (List.range' 0 35).all (am_eb 60) = true := by decide +kernel
theorem am_ok60 (i : Nat) : am_eOk 60 i := by
  have hy : 60 < am_law → am_cP 60 := fun _ => am_cms 60 (by decide)
  have hw : ∀ w ∈ am_ewE (am_nm 60).cls (am_at 60 i), w ∈ am_G := fun w h => am_wl60 w (am_ewA_in h)
  refine am_e_ok hy hw ?_
  by_cases h0 : i < 35
  · exact List.all_eq_true.mp am_be60_0 i (List.mem_range'_1.mpr ⟨by omega, by omega⟩)
  exact am_eb_out (am_len_out (n := 35) (by decide) (by omega))
set_option maxRecDepth 100000 in
theorem am_wl61 : ∀ w ∈ am_ewA (am_nm 61).cls (am_prog 61), w ∈ am_G := by
  have e : am_ewA (am_nm 61).cls (am_prog 61) = [am_u348, am_u348] := rfl
  rw [e]
  exact List.forall_mem_cons.mpr ⟨am_v348, List.forall_mem_cons.mpr ⟨am_v348, fun _ h => absurd h List.not_mem_nil⟩⟩
theorem am_be61_0 : (List.range' 0 14).all (am_eb 61) = true := by decide +kernel
theorem am_ok61 (i : Nat) : am_eOk 61 i := by
  have hy : 61 < am_law → am_cP 61 := fun _ => am_cms 61 (by decide)
  have hw : ∀ w ∈ am_ewE (am_nm 61).cls (am_at 61 i), w ∈ am_G := fun w h => am_wl61 w (am_ewA_in h)
  refine am_e_ok hy hw ?_
  by_cases h0 : i < 14
  · exact List.all_eq_true.mp am_be61_0 i (List.mem_range'_1.mpr ⟨by omega, by omega⟩)
  exact am_eb_out (am_len_out (n := 14) (by decide) (by omega))
set_option maxRecDepth 100000 in
theorem am_wl62 : ∀ w ∈ am_ewA (am_nm 62).cls (am_prog 62), w ∈ am_G := by
  have e : am_ewA (am_nm 62).cls (am_prog 62) = [am_u349, am_u237, am_u349, am_u239, am_u349, am_u241] := rfl
  rw [e]
  exact List.forall_mem_cons.mpr ⟨am_v349, List.forall_mem_cons.mpr ⟨am_v237, List.forall_mem_cons.mpr ⟨am_v349, List.forall_mem_cons.mpr ⟨am_v239, List.forall_mem_cons.mpr ⟨am_v349, List.forall_mem_cons.mpr ⟨am_v241, fun _ h => absurd h List.not_mem_nil⟩⟩⟩⟩⟩⟩
theorem am_be62_0 : (List.range' 0 22).all (am_eb 62) = true := by decide +kernel
theorem am_ok62 (i : Nat) : am_eOk 62 i := by
  have hy : 62 < am_law → am_cP 62 := fun _ => am_cms 62 (by decide)
  have hw : ∀ w ∈ am_ewE (am_nm 62).cls (am_at 62 i), w ∈ am_G := fun w h => am_wl62 w (am_ewA_in h)
  refine am_e_ok hy hw ?_
  by_cases h0 : i < 22
  · exact List.all_eq_true.mp am_be62_0 i (List.mem_range'_1.mpr ⟨by omega, by omega⟩)
  exact am_eb_out (am_len_out (n := 22) (by decide) (by omega))
set_option maxRecDepth 100000 in
theorem am_wl63 : ∀ w ∈ am_ewA (am_nm 63).cls (am_prog 63), w ∈ am_G := by
  have e : am_ewA (am_nm 63).cls (am_prog 63) = [am_u340, am_u48, am_u340, am_u52, am_u340, am_u55, am_u342, am_u116, am_u342, am_u119, am_u340, am_u64, am_u340, am_u67, am_u344, am_u215, am_u340, am_u58, am_u340, am_u62, am_u348] := rfl
  rw [e]
  exact List.forall_mem_cons.mpr ⟨am_v340, List.forall_mem_cons.mpr ⟨am_v48, List.forall_mem_cons.mpr ⟨am_v340, List.forall_mem_cons.mpr ⟨am_v52, List.forall_mem_cons.mpr ⟨am_v340, List.forall_mem_cons.mpr ⟨am_v55, List.forall_mem_cons.mpr ⟨am_v342, List.forall_mem_cons.mpr ⟨am_v116, List.forall_mem_cons.mpr ⟨am_v342, List.forall_mem_cons.mpr ⟨am_v119, List.forall_mem_cons.mpr ⟨am_v340, List.forall_mem_cons.mpr ⟨am_v64, List.forall_mem_cons.mpr ⟨am_v340, List.forall_mem_cons.mpr ⟨am_v67, List.forall_mem_cons.mpr ⟨am_v344, List.forall_mem_cons.mpr ⟨am_v215, List.forall_mem_cons.mpr ⟨am_v340, List.forall_mem_cons.mpr ⟨am_v58, List.forall_mem_cons.mpr ⟨am_v340, List.forall_mem_cons.mpr ⟨am_v62, List.forall_mem_cons.mpr ⟨am_v348, fun _ h => absurd h List.not_mem_nil⟩⟩⟩⟩⟩⟩⟩⟩⟩⟩⟩⟩⟩⟩⟩⟩⟩⟩⟩⟩⟩
theorem am_be63_0 : (List.range' 0 47).all (am_eb 63) = true := by decide +kernel
theorem am_ok63 (i : Nat) : am_eOk 63 i := by
  have hy : 63 < am_law → am_cP 63 := fun _ => am_cms 63 (by decide)
  have hw : ∀ w ∈ am_ewE (am_nm 63).cls (am_at 63 i), w ∈ am_G := fun w h => am_wl63 w (am_ewA_in h)
  refine am_e_ok hy hw ?_
  by_cases h0 : i < 47
  · exact List.all_eq_true.mp am_be63_0 i (List.mem_range'_1.mpr ⟨by omega, by omega⟩)
  exact am_eb_out (am_len_out (n := 47) (by decide) (by omega))
set_option maxRecDepth 100000 in
theorem am_wl64 : ∀ w ∈ am_ewA (am_nm 64).cls (am_prog 64), w ∈ am_G := by
  have e : am_ewA (am_nm 64).cls (am_prog 64) = [] := rfl
  rw [e]
  exact fun _ h => absurd h List.not_mem_nil
theorem am_be64_0 : (List.range' 0 11).all (am_eb 64) = true := by decide +kernel
theorem am_ok64 (i : Nat) : am_eOk 64 i := by
  have hy : 64 < am_law → am_cP 64 := fun _ => am_cms 64 (by decide)
  have hw : ∀ w ∈ am_ewE (am_nm 64).cls (am_at 64 i), w ∈ am_G := fun w h => am_wl64 w (am_ewA_in h)
  refine am_e_ok hy hw ?_
  by_cases h0 : i < 11
  · exact List.all_eq_true.mp am_be64_0 i (List.mem_range'_1.mpr ⟨by omega, by omega⟩)
  exact am_eb_out (am_len_out (n := 11) (by decide) (by omega))
set_option maxRecDepth 100000 in
theorem am_wl65 : ∀ w ∈ am_ewA (am_nm 65).cls (am_prog 65), w ∈ am_G := by
  have e : am_ewA (am_nm 65).cls (am_prog 65) = [] := rfl
  rw [e]
  exact fun _ h => absurd h List.not_mem_nil
theorem am_be65_0 : (List.range' 0 11).all (am_eb 65) = true := by decide +kernel
theorem am_ok65 (i : Nat) : am_eOk 65 i := by
  have hy : 65 < am_law → am_cP 65 := fun _ => am_cms 65 (by decide)
  have hw : ∀ w ∈ am_ewE (am_nm 65).cls (am_at 65 i), w ∈ am_G := fun w h => am_wl65 w (am_ewA_in h)
  refine am_e_ok hy hw ?_
  by_cases h0 : i < 11
  · exact List.all_eq_true.mp am_be65_0 i (List.mem_range'_1.mpr ⟨by omega, by omega⟩)
  exact am_eb_out (am_len_out (n := 11) (by decide) (by omega))
set_option maxRecDepth 100000 in
theorem am_wl66 : ∀ w ∈ am_ewA (am_nm 66).cls (am_prog 66), w ∈ am_G := by
  have e : am_ewA (am_nm 66).cls (am_prog 66) = [] := rfl
  rw [e]
  exact fun _ h => absurd h List.not_mem_nil
theorem am_be66_0 : (List.range' 0 20).all (am_eb 66) = true := by decide +kernel
theorem am_ok66 (i : Nat) : am_eOk 66 i := by
  have hy : 66 < am_law → am_cP 66 := fun _ => am_cms 66 (by decide)
  have hw : ∀ w ∈ am_ewE (am_nm 66).cls (am_at 66 i), w ∈ am_G := fun w h => am_wl66 w (am_ewA_in h)
  refine am_e_ok hy hw ?_
  by_cases h0 : i < 20
  · exact List.all_eq_true.mp am_be66_0 i (List.mem_range'_1.mpr ⟨by omega, by omega⟩)
  exact am_eb_out (am_len_out (n := 20) (by decide) (by omega))
set_option maxRecDepth 100000 in
theorem am_wl67 : ∀ w ∈ am_ewA (am_nm 67).cls (am_prog 67), w ∈ am_G := by
  have e : am_ewA (am_nm 67).cls (am_prog 67) = [am_u1198, am_u1197, am_u1197, am_u1198] := rfl
  rw [e]
  exact List.forall_mem_cons.mpr ⟨am_v1198, List.forall_mem_cons.mpr ⟨am_v1197, List.forall_mem_cons.mpr ⟨am_v1197, List.forall_mem_cons.mpr ⟨am_v1198, fun _ h => absurd h List.not_mem_nil⟩⟩⟩⟩
theorem am_be67_0 : (List.range' 0 29).all (am_eb 67) = true := by decide +kernel
theorem am_ok67 (i : Nat) : am_eOk 67 i := by
  have hy : 67 < am_law → am_cP 67 := fun _ => am_cms 67 (by decide)
  have hw : ∀ w ∈ am_ewE (am_nm 67).cls (am_at 67 i), w ∈ am_G := fun w h => am_wl67 w (am_ewA_in h)
  refine am_e_ok hy hw ?_
  by_cases h0 : i < 29
  · exact List.all_eq_true.mp am_be67_0 i (List.mem_range'_1.mpr ⟨by omega, by omega⟩)
  exact am_eb_out (am_len_out (n := 29) (by decide) (by omega))
set_option maxRecDepth 100000 in
theorem am_wl68 : ∀ w ∈ am_ewA (am_nm 68).cls (am_prog 68), w ∈ am_G := by
  have e : am_ewA (am_nm 68).cls (am_prog 68) = [am_u1197, am_u1197, am_u1197, am_u1197, am_u1197, am_u1197, am_u1197, am_u1197] := rfl
  rw [e]
  exact List.forall_mem_cons.mpr ⟨am_v1197, List.forall_mem_cons.mpr ⟨am_v1197, List.forall_mem_cons.mpr ⟨am_v1197, List.forall_mem_cons.mpr ⟨am_v1197, List.forall_mem_cons.mpr ⟨am_v1197, List.forall_mem_cons.mpr ⟨am_v1197, List.forall_mem_cons.mpr ⟨am_v1197, List.forall_mem_cons.mpr ⟨am_v1197, fun _ h => absurd h List.not_mem_nil⟩⟩⟩⟩⟩⟩⟩⟩
theorem am_be68_0 : (List.range' 0 64).all (am_eb 68) = true := by decide +kernel
theorem am_be68_1 : (List.range' 64 2).all (am_eb 68) = true := by decide +kernel
theorem am_ok68 (i : Nat) : am_eOk 68 i := by
  have hy : 68 < am_law → am_cP 68 := fun _ => am_cms 68 (by decide)
  have hw : ∀ w ∈ am_ewE (am_nm 68).cls (am_at 68 i), w ∈ am_G := fun w h => am_wl68 w (am_ewA_in h)
  refine am_e_ok hy hw ?_
  by_cases h0 : i < 64
  · exact List.all_eq_true.mp am_be68_0 i (List.mem_range'_1.mpr ⟨by omega, by omega⟩)
  by_cases h1 : i < 66
  · exact List.all_eq_true.mp am_be68_1 i (List.mem_range'_1.mpr ⟨by omega, by omega⟩)
  exact am_eb_out (am_len_out (n := 66) (by decide) (by omega))
set_option maxRecDepth 100000 in
theorem am_wl69 : ∀ w ∈ am_ewA (am_nm 69).cls (am_prog 69), w ∈ am_G := by
  have e : am_ewA (am_nm 69).cls (am_prog 69) = [am_u1197, am_u1197, am_u1197, am_u1197, am_u1197, am_u1197] := rfl
  rw [e]
  exact List.forall_mem_cons.mpr ⟨am_v1197, List.forall_mem_cons.mpr ⟨am_v1197, List.forall_mem_cons.mpr ⟨am_v1197, List.forall_mem_cons.mpr ⟨am_v1197, List.forall_mem_cons.mpr ⟨am_v1197, List.forall_mem_cons.mpr ⟨am_v1197, fun _ h => absurd h List.not_mem_nil⟩⟩⟩⟩⟩⟩
theorem am_be69_0 : (List.range' 0 47).all (am_eb 69) = true := by decide +kernel
theorem am_ok69 (i : Nat) : am_eOk 69 i := by
  have hy : 69 < am_law → am_cP 69 := fun _ => am_cms 69 (by decide)
  have hw : ∀ w ∈ am_ewE (am_nm 69).cls (am_at 69 i), w ∈ am_G := fun w h => am_wl69 w (am_ewA_in h)
  refine am_e_ok hy hw ?_
  by_cases h0 : i < 47
  · exact List.all_eq_true.mp am_be69_0 i (List.mem_range'_1.mpr ⟨by omega, by omega⟩)
  exact am_eb_out (am_len_out (n := 47) (by decide) (by omega))
set_option maxRecDepth 100000 in
theorem am_wl70 : ∀ w ∈ am_ewA (am_nm 70).cls (am_prog 70), w ∈ am_G := by
  have e : am_ewA (am_nm 70).cls (am_prog 70) = [am_u1199, am_u1200, am_u1200, am_u1200] := rfl
  rw [e]
  exact List.forall_mem_cons.mpr ⟨am_v1199, List.forall_mem_cons.mpr ⟨am_v1200, List.forall_mem_cons.mpr ⟨am_v1200, List.forall_mem_cons.mpr ⟨am_v1200, fun _ h => absurd h List.not_mem_nil⟩⟩⟩⟩
theorem am_be70_0 : (List.range' 0 26).all (am_eb 70) = true := by decide +kernel
theorem am_ok70 (i : Nat) : am_eOk 70 i := by
  have hy : 70 < am_law → am_cP 70 := fun _ => am_cms 70 (by decide)
  have hw : ∀ w ∈ am_ewE (am_nm 70).cls (am_at 70 i), w ∈ am_G := fun w h => am_wl70 w (am_ewA_in h)
  refine am_e_ok hy hw ?_
  by_cases h0 : i < 26
  · exact List.all_eq_true.mp am_be70_0 i (List.mem_range'_1.mpr ⟨by omega, by omega⟩)
  exact am_eb_out (am_len_out (n := 26) (by decide) (by omega))
set_option maxRecDepth 100000 in
theorem am_wl71 : ∀ w ∈ am_ewA (am_nm 71).cls (am_prog 71), w ∈ am_G := by
  have e : am_ewA (am_nm 71).cls (am_prog 71) = [am_u1426, am_u1427, am_u1428, am_u1429, am_u1430, am_u1431, am_u1432, am_u1433, am_u1434, am_u1435, am_u1436, am_u1437, am_u1438, am_u1439, am_u1440, am_u1441, am_u1442, am_u1443, am_u1444, am_u1445, am_u1446, am_u1447, am_u1448, am_u1449, am_u1450, am_u1451, am_u1452, am_u1453, am_u1454] := rfl
  rw [e]
  exact List.forall_mem_cons.mpr ⟨am_v1426, List.forall_mem_cons.mpr ⟨am_v1427, List.forall_mem_cons.mpr ⟨am_v1428, List.forall_mem_cons.mpr ⟨am_v1429, List.forall_mem_cons.mpr ⟨am_v1430, List.forall_mem_cons.mpr ⟨am_v1431, List.forall_mem_cons.mpr ⟨am_v1432, List.forall_mem_cons.mpr ⟨am_v1433, List.forall_mem_cons.mpr ⟨am_v1434, List.forall_mem_cons.mpr ⟨am_v1435, List.forall_mem_cons.mpr ⟨am_v1436, List.forall_mem_cons.mpr ⟨am_v1437, List.forall_mem_cons.mpr ⟨am_v1438, List.forall_mem_cons.mpr ⟨am_v1439, List.forall_mem_cons.mpr ⟨am_v1440, List.forall_mem_cons.mpr ⟨am_v1441, List.forall_mem_cons.mpr ⟨am_v1442, List.forall_mem_cons.mpr ⟨am_v1443, List.forall_mem_cons.mpr ⟨am_v1444, List.forall_mem_cons.mpr ⟨am_v1445, List.forall_mem_cons.mpr ⟨am_v1446, List.forall_mem_cons.mpr ⟨am_v1447, List.forall_mem_cons.mpr ⟨am_v1448, List.forall_mem_cons.mpr ⟨am_v1449, List.forall_mem_cons.mpr ⟨am_v1450, List.forall_mem_cons.mpr ⟨am_v1451, List.forall_mem_cons.mpr ⟨am_v1452, List.forall_mem_cons.mpr ⟨am_v1453, List.forall_mem_cons.mpr ⟨am_v1454, fun _ h => absurd h List.not_mem_nil⟩⟩⟩⟩⟩⟩⟩⟩⟩⟩⟩⟩⟩⟩⟩⟩⟩⟩⟩⟩⟩⟩⟩⟩⟩⟩⟩⟩⟩
theorem am_be71_0 : (List.range' 0 64).all (am_eb 71) = true := by decide +kernel
theorem am_be71_1 : (List.range' 64 64).all (am_eb 71) = true := by decide +kernel
theorem am_be71_2 : (List.range' 128 48).all (am_eb 71) = true := by decide +kernel
theorem am_ok71 (i : Nat) : am_eOk 71 i := by
  have hy : 71 < am_law → am_cP 71 := fun _ => am_cms 71 (by decide)
  have hw : ∀ w ∈ am_ewE (am_nm 71).cls (am_at 71 i), w ∈ am_G := fun w h => am_wl71 w (am_ewA_in h)
  refine am_e_ok hy hw ?_
  by_cases h0 : i < 64
  · exact List.all_eq_true.mp am_be71_0 i (List.mem_range'_1.mpr ⟨by omega, by omega⟩)
  by_cases h1 : i < 128
  · exact List.all_eq_true.mp am_be71_1 i (List.mem_range'_1.mpr ⟨by omega, by omega⟩)
  by_cases h2 : i < 176
  · exact List.all_eq_true.mp am_be71_2 i (List.mem_range'_1.mpr ⟨by omega, by omega⟩)
  exact am_eb_out (am_len_out (n := 176) (by decide) (by omega))
set_option maxRecDepth 100000 in
theorem am_wl72 : ∀ w ∈ am_ewA (am_nm 72).cls (am_prog 72), w ∈ am_G := by
  have e : am_ewA (am_nm 72).cls (am_prog 72) = [am_u1214, am_u1215] := rfl
  rw [e]
  exact List.forall_mem_cons.mpr ⟨am_v1214, List.forall_mem_cons.mpr ⟨am_v1215, fun _ h => absurd h List.not_mem_nil⟩⟩
theorem am_be72_0 : (List.range' 0 13).all (am_eb 72) = true := by decide +kernel
theorem am_ok72 (i : Nat) : am_eOk 72 i := by
  have hy : 72 < am_law → am_cP 72 := fun _ => am_cms 72 (by decide)
  have hw : ∀ w ∈ am_ewE (am_nm 72).cls (am_at 72 i), w ∈ am_G := fun w h => am_wl72 w (am_ewA_in h)
  refine am_e_ok hy hw ?_
  by_cases h0 : i < 13
  · exact List.all_eq_true.mp am_be72_0 i (List.mem_range'_1.mpr ⟨by omega, by omega⟩)
  exact am_eb_out (am_len_out (n := 13) (by decide) (by omega))
set_option maxRecDepth 100000 in
theorem am_wl73 : ∀ w ∈ am_ewA (am_nm 73).cls (am_prog 73), w ∈ am_G := by
  have e : am_ewA (am_nm 73).cls (am_prog 73) = [am_u1214, am_u1215] := rfl
  rw [e]
  exact List.forall_mem_cons.mpr ⟨am_v1214, List.forall_mem_cons.mpr ⟨am_v1215, fun _ h => absurd h List.not_mem_nil⟩⟩
theorem am_be73_0 : (List.range' 0 13).all (am_eb 73) = true := by decide +kernel
theorem am_ok73 (i : Nat) : am_eOk 73 i := by
  have hy : 73 < am_law → am_cP 73 := fun _ => am_cms 73 (by decide)
  have hw : ∀ w ∈ am_ewE (am_nm 73).cls (am_at 73 i), w ∈ am_G := fun w h => am_wl73 w (am_ewA_in h)
  refine am_e_ok hy hw ?_
  by_cases h0 : i < 13
  · exact List.all_eq_true.mp am_be73_0 i (List.mem_range'_1.mpr ⟨by omega, by omega⟩)
  exact am_eb_out (am_len_out (n := 13) (by decide) (by omega))
set_option maxRecDepth 100000 in
theorem am_wl74 : ∀ w ∈ am_ewA (am_nm 74).cls (am_prog 74), w ∈ am_G := by
  have e : am_ewA (am_nm 74).cls (am_prog 74) = [am_u1216, am_u1216, am_u1213, am_u1217] := rfl
  rw [e]
  exact List.forall_mem_cons.mpr ⟨am_v1216, List.forall_mem_cons.mpr ⟨am_v1216, List.forall_mem_cons.mpr ⟨am_v1213, List.forall_mem_cons.mpr ⟨am_v1217, fun _ h => absurd h List.not_mem_nil⟩⟩⟩⟩
theorem am_be74_0 : (List.range' 0 12).all (am_eb 74) = true := by decide +kernel
theorem am_ok74 (i : Nat) : am_eOk 74 i := by
  have hy : 74 < am_law → am_cP 74 := fun _ => am_cms 74 (by decide)
  have hw : ∀ w ∈ am_ewE (am_nm 74).cls (am_at 74 i), w ∈ am_G := fun w h => am_wl74 w (am_ewA_in h)
  refine am_e_ok hy hw ?_
  by_cases h0 : i < 12
  · exact List.all_eq_true.mp am_be74_0 i (List.mem_range'_1.mpr ⟨by omega, by omega⟩)
  exact am_eb_out (am_len_out (n := 12) (by decide) (by omega))
set_option maxRecDepth 100000 in
theorem am_wl75 : ∀ w ∈ am_ewA (am_nm 75).cls (am_prog 75), w ∈ am_G := by
  have e : am_ewA (am_nm 75).cls (am_prog 75) = [am_u1234, am_u1233, am_u1235, am_u1233, am_u1233, am_u1233] := rfl
  rw [e]
  exact List.forall_mem_cons.mpr ⟨am_v1234, List.forall_mem_cons.mpr ⟨am_v1233, List.forall_mem_cons.mpr ⟨am_v1235, List.forall_mem_cons.mpr ⟨am_v1233, List.forall_mem_cons.mpr ⟨am_v1233, List.forall_mem_cons.mpr ⟨am_v1233, fun _ h => absurd h List.not_mem_nil⟩⟩⟩⟩⟩⟩
theorem am_be75_0 : (List.range' 0 19).all (am_eb 75) = true := by decide +kernel
theorem am_ok75 (i : Nat) : am_eOk 75 i := by
  have hy : 75 < am_law → am_cP 75 := fun _ => am_cms 75 (by decide)
  have hw : ∀ w ∈ am_ewE (am_nm 75).cls (am_at 75 i), w ∈ am_G := fun w h => am_wl75 w (am_ewA_in h)
  refine am_e_ok hy hw ?_
  by_cases h0 : i < 19
  · exact List.all_eq_true.mp am_be75_0 i (List.mem_range'_1.mpr ⟨by omega, by omega⟩)
  exact am_eb_out (am_len_out (n := 19) (by decide) (by omega))
set_option maxRecDepth 100000 in
theorem am_wl76 : ∀ w ∈ am_ewA (am_nm 76).cls (am_prog 76), w ∈ am_G := by
  have e : am_ewA (am_nm 76).cls (am_prog 76) = [am_u1220, am_u1219, am_u1219, am_u1219] := rfl
  rw [e]
  exact List.forall_mem_cons.mpr ⟨am_v1220, List.forall_mem_cons.mpr ⟨am_v1219, List.forall_mem_cons.mpr ⟨am_v1219, List.forall_mem_cons.mpr ⟨am_v1219, fun _ h => absurd h List.not_mem_nil⟩⟩⟩⟩
theorem am_be76_0 : (List.range' 0 13).all (am_eb 76) = true := by decide +kernel
theorem am_ok76 (i : Nat) : am_eOk 76 i := by
  have hy : 76 < am_law → am_cP 76 := fun _ => am_cms 76 (by decide)
  have hw : ∀ w ∈ am_ewE (am_nm 76).cls (am_at 76 i), w ∈ am_G := fun w h => am_wl76 w (am_ewA_in h)
  refine am_e_ok hy hw ?_
  by_cases h0 : i < 13
  · exact List.all_eq_true.mp am_be76_0 i (List.mem_range'_1.mpr ⟨by omega, by omega⟩)
  exact am_eb_out (am_len_out (n := 13) (by decide) (by omega))
set_option maxRecDepth 100000 in
theorem am_wl77 : ∀ w ∈ am_ewA (am_nm 77).cls (am_prog 77), w ∈ am_G := by
  have e : am_ewA (am_nm 77).cls (am_prog 77) = [am_u1220, am_u1219] := rfl
  rw [e]
  exact List.forall_mem_cons.mpr ⟨am_v1220, List.forall_mem_cons.mpr ⟨am_v1219, fun _ h => absurd h List.not_mem_nil⟩⟩
theorem am_be77_0 : (List.range' 0 8).all (am_eb 77) = true := by decide +kernel
theorem am_ok77 (i : Nat) : am_eOk 77 i := by
  have hy : 77 < am_law → am_cP 77 := fun _ => am_cms 77 (by decide)
  have hw : ∀ w ∈ am_ewE (am_nm 77).cls (am_at 77 i), w ∈ am_G := fun w h => am_wl77 w (am_ewA_in h)
  refine am_e_ok hy hw ?_
  by_cases h0 : i < 8
  · exact List.all_eq_true.mp am_be77_0 i (List.mem_range'_1.mpr ⟨by omega, by omega⟩)
  exact am_eb_out (am_len_out (n := 8) (by decide) (by omega))
set_option maxRecDepth 100000 in
theorem am_wl78 : ∀ w ∈ am_ewA (am_nm 78).cls (am_prog 78), w ∈ am_G := by
  have e : am_ewA (am_nm 78).cls (am_prog 78) = [] := rfl
  rw [e]
  exact fun _ h => absurd h List.not_mem_nil
theorem am_be78_0 : (List.range' 0 21).all (am_eb 78) = true := by decide +kernel
theorem am_ok78 (i : Nat) : am_eOk 78 i := by
  have hy : 78 < am_law → am_cP 78 := fun _ => am_cms 78 (by decide)
  have hw : ∀ w ∈ am_ewE (am_nm 78).cls (am_at 78 i), w ∈ am_G := fun w h => am_wl78 w (am_ewA_in h)
  refine am_e_ok hy hw ?_
  by_cases h0 : i < 21
  · exact List.all_eq_true.mp am_be78_0 i (List.mem_range'_1.mpr ⟨by omega, by omega⟩)
  exact am_eb_out (am_len_out (n := 21) (by decide) (by omega))
set_option maxRecDepth 100000 in
theorem am_wl79 : ∀ w ∈ am_ewA (am_nm 79).cls (am_prog 79), w ∈ am_G := by
  have e : am_ewA (am_nm 79).cls (am_prog 79) = [] := rfl
  rw [e]
  exact fun _ h => absurd h List.not_mem_nil
theorem am_be79_0 : (List.range' 0 29).all (am_eb 79) = true := by decide +kernel
theorem am_ok79 (i : Nat) : am_eOk 79 i := by
  have hy : 79 < am_law → am_cP 79 := fun _ => am_cms 79 (by decide)
  have hw : ∀ w ∈ am_ewE (am_nm 79).cls (am_at 79 i), w ∈ am_G := fun w h => am_wl79 w (am_ewA_in h)
  refine am_e_ok hy hw ?_
  by_cases h0 : i < 29
  · exact List.all_eq_true.mp am_be79_0 i (List.mem_range'_1.mpr ⟨by omega, by omega⟩)
  exact am_eb_out (am_len_out (n := 29) (by decide) (by omega))
set_option maxRecDepth 100000 in
theorem am_wl80 : ∀ w ∈ am_ewA (am_nm 80).cls (am_prog 80), w ∈ am_G := by
  have e : am_ewA (am_nm 80).cls (am_prog 80) = [am_u1214, am_u1215, am_u1215] := rfl
  rw [e]
  exact List.forall_mem_cons.mpr ⟨am_v1214, List.forall_mem_cons.mpr ⟨am_v1215, List.forall_mem_cons.mpr ⟨am_v1215, fun _ h => absurd h List.not_mem_nil⟩⟩⟩
theorem am_be80_0 : (List.range' 0 18).all (am_eb 80) = true := by decide +kernel
theorem am_ok80 (i : Nat) : am_eOk 80 i := by
  have hy : 80 < am_law → am_cP 80 := fun _ => am_cms 80 (by decide)
  have hw : ∀ w ∈ am_ewE (am_nm 80).cls (am_at 80 i), w ∈ am_G := fun w h => am_wl80 w (am_ewA_in h)
  refine am_e_ok hy hw ?_
  by_cases h0 : i < 18
  · exact List.all_eq_true.mp am_be80_0 i (List.mem_range'_1.mpr ⟨by omega, by omega⟩)
  exact am_eb_out (am_len_out (n := 18) (by decide) (by omega))
set_option maxRecDepth 100000 in
theorem am_wl81 : ∀ w ∈ am_ewA (am_nm 81).cls (am_prog 81), w ∈ am_G := by
  have e : am_ewA (am_nm 81).cls (am_prog 81) = [] := rfl
  rw [e]
  exact fun _ h => absurd h List.not_mem_nil
theorem am_be81_0 : (List.range' 0 23).all (am_eb 81) = true := by decide +kernel
theorem am_ok81 (i : Nat) : am_eOk 81 i := by
  have hy : 81 < am_law → am_cP 81 := fun _ => am_cms 81 (by decide)
  have hw : ∀ w ∈ am_ewE (am_nm 81).cls (am_at 81 i), w ∈ am_G := fun w h => am_wl81 w (am_ewA_in h)
  refine am_e_ok hy hw ?_
  by_cases h0 : i < 23
  · exact List.all_eq_true.mp am_be81_0 i (List.mem_range'_1.mpr ⟨by omega, by omega⟩)
  exact am_eb_out (am_len_out (n := 23) (by decide) (by omega))
set_option maxRecDepth 100000 in
theorem am_wl82 : ∀ w ∈ am_ewA (am_nm 82).cls (am_prog 82), w ∈ am_G := by
  have e : am_ewA (am_nm 82).cls (am_prog 82) = [am_u1226, am_u1228] := rfl
  rw [e]
  exact List.forall_mem_cons.mpr ⟨am_v1226, List.forall_mem_cons.mpr ⟨am_v1228, fun _ h => absurd h List.not_mem_nil⟩⟩
theorem am_be82_0 : (List.range' 0 26).all (am_eb 82) = true := by decide +kernel
theorem am_ok82 (i : Nat) : am_eOk 82 i := by
  have hy : 82 < am_law → am_cP 82 := fun _ => am_cms 82 (by decide)
  have hw : ∀ w ∈ am_ewE (am_nm 82).cls (am_at 82 i), w ∈ am_G := fun w h => am_wl82 w (am_ewA_in h)
  refine am_e_ok hy hw ?_
  by_cases h0 : i < 26
  · exact List.all_eq_true.mp am_be82_0 i (List.mem_range'_1.mpr ⟨by omega, by omega⟩)
  exact am_eb_out (am_len_out (n := 26) (by decide) (by omega))
set_option maxRecDepth 100000 in
theorem am_wl83 : ∀ w ∈ am_ewA (am_nm 83).cls (am_prog 83), w ∈ am_G := by
  have e : am_ewA (am_nm 83).cls (am_prog 83) = [am_u1201, am_u1202] := rfl
  rw [e]
  exact List.forall_mem_cons.mpr ⟨am_v1201, List.forall_mem_cons.mpr ⟨am_v1202, fun _ h => absurd h List.not_mem_nil⟩⟩
theorem am_be83_0 : (List.range' 0 13).all (am_eb 83) = true := by decide +kernel
theorem am_ok83 (i : Nat) : am_eOk 83 i := by
  have hy : 83 < am_law → am_cP 83 := fun _ => am_cms 83 (by decide)
  have hw : ∀ w ∈ am_ewE (am_nm 83).cls (am_at 83 i), w ∈ am_G := fun w h => am_wl83 w (am_ewA_in h)
  refine am_e_ok hy hw ?_
  by_cases h0 : i < 13
  · exact List.all_eq_true.mp am_be83_0 i (List.mem_range'_1.mpr ⟨by omega, by omega⟩)
  exact am_eb_out (am_len_out (n := 13) (by decide) (by omega))
set_option maxRecDepth 100000 in
theorem am_wl84 : ∀ w ∈ am_ewA (am_nm 84).cls (am_prog 84), w ∈ am_G := by
  have e : am_ewA (am_nm 84).cls (am_prog 84) = [am_u1612, am_u1612, am_u1613, am_u1613] := rfl
  rw [e]
  exact List.forall_mem_cons.mpr ⟨am_v1612, List.forall_mem_cons.mpr ⟨am_v1612, List.forall_mem_cons.mpr ⟨am_v1613, List.forall_mem_cons.mpr ⟨am_v1613, fun _ h => absurd h List.not_mem_nil⟩⟩⟩⟩
theorem am_be84_0 : (List.range' 0 14).all (am_eb 84) = true := by decide +kernel
theorem am_ok84 (i : Nat) : am_eOk 84 i := by
  have hy : 84 < am_law → am_cP 84 := fun _ => am_cms 84 (by decide)
  have hw : ∀ w ∈ am_ewE (am_nm 84).cls (am_at 84 i), w ∈ am_G := fun w h => am_wl84 w (am_ewA_in h)
  refine am_e_ok hy hw ?_
  by_cases h0 : i < 14
  · exact List.all_eq_true.mp am_be84_0 i (List.mem_range'_1.mpr ⟨by omega, by omega⟩)
  exact am_eb_out (am_len_out (n := 14) (by decide) (by omega))
set_option maxRecDepth 100000 in
theorem am_wl85 : ∀ w ∈ am_ewA (am_nm 85).cls (am_prog 85), w ∈ am_G := by
  have e : am_ewA (am_nm 85).cls (am_prog 85) = [am_u1604, am_u1605] := rfl
  rw [e]
  exact List.forall_mem_cons.mpr ⟨am_v1604, List.forall_mem_cons.mpr ⟨am_v1605, fun _ h => absurd h List.not_mem_nil⟩⟩
theorem am_be85_0 : (List.range' 0 48).all (am_eb 85) = true := by decide +kernel
theorem am_ok85 (i : Nat) : am_eOk 85 i := by
  have hy : 85 < am_law → am_cP 85 := fun _ => am_cms 85 (by decide)
  have hw : ∀ w ∈ am_ewE (am_nm 85).cls (am_at 85 i), w ∈ am_G := fun w h => am_wl85 w (am_ewA_in h)
  refine am_e_ok hy hw ?_
  by_cases h0 : i < 48
  · exact List.all_eq_true.mp am_be85_0 i (List.mem_range'_1.mpr ⟨by omega, by omega⟩)
  exact am_eb_out (am_len_out (n := 48) (by decide) (by omega))
set_option maxRecDepth 100000 in
theorem am_wl86 : ∀ w ∈ am_ewA (am_nm 86).cls (am_prog 86), w ∈ am_G := by
  have e : am_ewA (am_nm 86).cls (am_prog 86) = [am_u1197, am_u1203, am_u1197, am_u1197, am_u1204, am_u1205] := rfl
  rw [e]
  exact List.forall_mem_cons.mpr ⟨am_v1197, List.forall_mem_cons.mpr ⟨am_v1203, List.forall_mem_cons.mpr ⟨am_v1197, List.forall_mem_cons.mpr ⟨am_v1197, List.forall_mem_cons.mpr ⟨am_v1204, List.forall_mem_cons.mpr ⟨am_v1205, fun _ h => absurd h List.not_mem_nil⟩⟩⟩⟩⟩⟩
theorem am_be86_0 : (List.range' 0 47).all (am_eb 86) = true := by decide +kernel
theorem am_ok86 (i : Nat) : am_eOk 86 i := by
  have hy : 86 < am_law → am_cP 86 := fun _ => am_cms 86 (by decide)
  have hw : ∀ w ∈ am_ewE (am_nm 86).cls (am_at 86 i), w ∈ am_G := fun w h => am_wl86 w (am_ewA_in h)
  refine am_e_ok hy hw ?_
  by_cases h0 : i < 47
  · exact List.all_eq_true.mp am_be86_0 i (List.mem_range'_1.mpr ⟨by omega, by omega⟩)
  exact am_eb_out (am_len_out (n := 47) (by decide) (by omega))
set_option maxRecDepth 100000 in
theorem am_wl87 : ∀ w ∈ am_ewA (am_nm 87).cls (am_prog 87), w ∈ am_G := by
  have e : am_ewA (am_nm 87).cls (am_prog 87) = [] := rfl
  rw [e]
  exact fun _ h => absurd h List.not_mem_nil
theorem am_be87_0 : (List.range' 0 17).all (am_eb 87) = true := by decide +kernel
theorem am_ok87 (i : Nat) : am_eOk 87 i := by
  have hy : 87 < am_law → am_cP 87 := fun _ => am_cms 87 (by decide)
  have hw : ∀ w ∈ am_ewE (am_nm 87).cls (am_at 87 i), w ∈ am_G := fun w h => am_wl87 w (am_ewA_in h)
  refine am_e_ok hy hw ?_
  by_cases h0 : i < 17
  · exact List.all_eq_true.mp am_be87_0 i (List.mem_range'_1.mpr ⟨by omega, by omega⟩)
  exact am_eb_out (am_len_out (n := 17) (by decide) (by omega))
set_option maxRecDepth 100000 in
theorem am_wl88 : ∀ w ∈ am_ewA (am_nm 88).cls (am_prog 88), w ∈ am_G := by
  have e : am_ewA (am_nm 88).cls (am_prog 88) = [am_u1197, am_u1244, am_u1238, am_u1197, am_u1239, am_u1197, am_u1240, am_u1197, am_u1241, am_u1197, am_u1242, am_u1197, am_u1243, am_u1197] := rfl
  rw [e]
  exact List.forall_mem_cons.mpr ⟨am_v1197, List.forall_mem_cons.mpr ⟨am_v1244, List.forall_mem_cons.mpr ⟨am_v1238, List.forall_mem_cons.mpr ⟨am_v1197, List.forall_mem_cons.mpr ⟨am_v1239, List.forall_mem_cons.mpr ⟨am_v1197, List.forall_mem_cons.mpr ⟨am_v1240, List.forall_mem_cons.mpr ⟨am_v1197, List.forall_mem_cons.mpr ⟨am_v1241, List.forall_mem_cons.mpr ⟨am_v1197, List.forall_mem_cons.mpr ⟨am_v1242, List.forall_mem_cons.mpr ⟨am_v1197, List.forall_mem_cons.mpr ⟨am_v1243, List.forall_mem_cons.mpr ⟨am_v1197, fun _ h => absurd h List.not_mem_nil⟩⟩⟩⟩⟩⟩⟩⟩⟩⟩⟩⟩⟩⟩
theorem am_be88_0 : (List.range' 0 64).all (am_eb 88) = true := by decide +kernel
theorem am_be88_1 : (List.range' 64 19).all (am_eb 88) = true := by decide +kernel
theorem am_ok88 (i : Nat) : am_eOk 88 i := by
  have hy : 88 < am_law → am_cP 88 := fun _ => am_cms 88 (by decide)
  have hw : ∀ w ∈ am_ewE (am_nm 88).cls (am_at 88 i), w ∈ am_G := fun w h => am_wl88 w (am_ewA_in h)
  refine am_e_ok hy hw ?_
  by_cases h0 : i < 64
  · exact List.all_eq_true.mp am_be88_0 i (List.mem_range'_1.mpr ⟨by omega, by omega⟩)
  by_cases h1 : i < 83
  · exact List.all_eq_true.mp am_be88_1 i (List.mem_range'_1.mpr ⟨by omega, by omega⟩)
  exact am_eb_out (am_len_out (n := 83) (by decide) (by omega))
set_option maxRecDepth 100000 in
theorem am_wl89 : ∀ w ∈ am_ewA (am_nm 89).cls (am_prog 89), w ∈ am_G := by
  have e : am_ewA (am_nm 89).cls (am_prog 89) = [am_u1197, am_u1244, am_u1197, am_u1238, am_u1197, am_u1239, am_u1197, am_u1240, am_u1197, am_u1241, am_u1197, am_u1242, am_u1197, am_u1243] := rfl
  rw [e]
  exact List.forall_mem_cons.mpr ⟨am_v1197, List.forall_mem_cons.mpr ⟨am_v1244, List.forall_mem_cons.mpr ⟨am_v1197, List.forall_mem_cons.mpr ⟨am_v1238, List.forall_mem_cons.mpr ⟨am_v1197, List.forall_mem_cons.mpr ⟨am_v1239, List.forall_mem_cons.mpr ⟨am_v1197, List.forall_mem_cons.mpr ⟨am_v1240, List.forall_mem_cons.mpr ⟨am_v1197, List.forall_mem_cons.mpr ⟨am_v1241, List.forall_mem_cons.mpr ⟨am_v1197, List.forall_mem_cons.mpr ⟨am_v1242, List.forall_mem_cons.mpr ⟨am_v1197, List.forall_mem_cons.mpr ⟨am_v1243, fun _ h => absurd h List.not_mem_nil⟩⟩⟩⟩⟩⟩⟩⟩⟩⟩⟩⟩⟩⟩
theorem am_be89_0 : (List.range' 0 64).all (am_eb 89) = true := by decide +kernel
theorem am_be89_1 : (List.range' 64 19).all (am_eb 89) = true := by decide +kernel
theorem am_ok89 (i : Nat) : am_eOk 89 i := by
  have hy : 89 < am_law → am_cP 89 := fun _ => am_cms 89 (by decide)
  have hw : ∀ w ∈ am_ewE (am_nm 89).cls (am_at 89 i), w ∈ am_G := fun w h => am_wl89 w (am_ewA_in h)
  refine am_e_ok hy hw ?_
  by_cases h0 : i < 64
  · exact List.all_eq_true.mp am_be89_0 i (List.mem_range'_1.mpr ⟨by omega, by omega⟩)
  by_cases h1 : i < 83
  · exact List.all_eq_true.mp am_be89_1 i (List.mem_range'_1.mpr ⟨by omega, by omega⟩)
  exact am_eb_out (am_len_out (n := 83) (by decide) (by omega))
