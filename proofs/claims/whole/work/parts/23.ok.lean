/-! rows of the methods 0 .. 11 -/
set_option maxRecDepth 100000 in
theorem am_wl0 : ∀ w ∈ am_ewA (am_nm 0).cls (am_prog 0), w ∈ am_G := by
  have e : am_ewA (am_nm 0).cls (am_prog 0) = [am_u195, am_u196, am_u197] := rfl
  rw [e]
  exact List.forall_mem_cons.mpr ⟨am_v195, List.forall_mem_cons.mpr ⟨am_v196, List.forall_mem_cons.mpr ⟨am_v197, fun _ h => absurd h List.not_mem_nil⟩⟩⟩
theorem am_be0_0 : (List.range' 0 9).all (am_eb 0) = true := by decide +kernel
theorem am_ok0 (i : Nat) : am_eOk 0 i := by
  have hy : 0 < am_law → am_cP 0 := fun _ => am_cms 0 (by decide)
  have hw : ∀ w ∈ am_ewE (am_nm 0).cls (am_at 0 i), w ∈ am_G := fun w h => am_wl0 w (am_ewA_in h)
  refine am_e_ok hy hw ?_
  by_cases h0 : i < 9
  · exact List.all_eq_true.mp am_be0_0 i (List.mem_range'_1.mpr ⟨by omega, by omega⟩)
  exact am_eb_out (am_len_out (n := 9) (by decide) (by omega))
set_option maxRecDepth 100000 in
theorem am_wl1 : ∀ w ∈ am_ewA (am_nm 1).cls (am_prog 1), w ∈ am_G := by
  have e : am_ewA (am_nm 1).cls (am_prog 1) = [am_u118, am_u118, am_u118] := rfl
  rw [e]
  exact List.forall_mem_cons.mpr ⟨am_v118, List.forall_mem_cons.mpr ⟨am_v118, List.forall_mem_cons.mpr ⟨am_v118, fun _ h => absurd h List.not_mem_nil⟩⟩⟩
theorem am_be1_0 : (List.range' 0 22).all (am_eb 1) = true := by decide +kernel
theorem am_ok1 (i : Nat) : am_eOk 1 i := by
  have hy : 1 < am_law → am_cP 1 := fun _ => am_cms 1 (by decide)
  have hw : ∀ w ∈ am_ewE (am_nm 1).cls (am_at 1 i), w ∈ am_G := fun w h => am_wl1 w (am_ewA_in h)
  refine am_e_ok hy hw ?_
  by_cases h0 : i < 22
  · exact List.all_eq_true.mp am_be1_0 i (List.mem_range'_1.mpr ⟨by omega, by omega⟩)
  exact am_eb_out (am_len_out (n := 22) (by decide) (by omega))
set_option maxRecDepth 100000 in
theorem am_wl2 : ∀ w ∈ am_ewA (am_nm 2).cls (am_prog 2), w ∈ am_G := by
  have e : am_ewA (am_nm 2).cls (am_prog 2) = [am_u1009, am_u280, am_u280, am_u280] := rfl
  rw [e]
  exact List.forall_mem_cons.mpr ⟨am_v1009, List.forall_mem_cons.mpr ⟨am_v280, List.forall_mem_cons.mpr ⟨am_v280, List.forall_mem_cons.mpr ⟨am_v280, fun _ h => absurd h List.not_mem_nil⟩⟩⟩⟩
theorem am_be2_0 : (List.range' 0 32).all (am_eb 2) = true := by decide +kernel
theorem am_ok2 (i : Nat) : am_eOk 2 i := by
  have hy : 2 < am_law → am_cP 2 := fun _ => am_cms 2 (by decide)
  have hw : ∀ w ∈ am_ewE (am_nm 2).cls (am_at 2 i), w ∈ am_G := fun w h => am_wl2 w (am_ewA_in h)
  refine am_e_ok hy hw ?_
  by_cases h0 : i < 32
  · exact List.all_eq_true.mp am_be2_0 i (List.mem_range'_1.mpr ⟨by omega, by omega⟩)
  exact am_eb_out (am_len_out (n := 32) (by decide) (by omega))
set_option maxRecDepth 100000 in
theorem am_wl3 : ∀ w ∈ am_ewA (am_nm 3).cls (am_prog 3), w ∈ am_G := by
  have e : am_ewA (am_nm 3).cls (am_prog 3) = [am_u280] := rfl
  rw [e]
  exact List.forall_mem_cons.mpr ⟨am_v280, fun _ h => absurd h List.not_mem_nil⟩
theorem am_be3_0 : (List.range' 0 26).all (am_eb 3) = true := by decide +kernel
theorem am_ok3 (i : Nat) : am_eOk 3 i := by
  have hy : 3 < am_law → am_cP 3 := fun _ => am_cms 3 (by decide)
  have hw : ∀ w ∈ am_ewE (am_nm 3).cls (am_at 3 i), w ∈ am_G := fun w h => am_wl3 w (am_ewA_in h)
  refine am_e_ok hy hw ?_
  by_cases h0 : i < 26
  · exact List.all_eq_true.mp am_be3_0 i (List.mem_range'_1.mpr ⟨by omega, by omega⟩)
  exact am_eb_out (am_len_out (n := 26) (by decide) (by omega))
set_option maxRecDepth 100000 in
theorem am_wl4 : ∀ w ∈ am_ewA (am_nm 4).cls (am_prog 4), w ∈ am_G := by
  have e : am_ewA (am_nm 4).cls (am_prog 4) = [am_u274, am_u47, am_u280, am_u279] := rfl
  rw [e]
  exact List.forall_mem_cons.mpr ⟨am_v274, List.forall_mem_cons.mpr ⟨am_v47, List.forall_mem_cons.mpr ⟨am_v280, List.forall_mem_cons.mpr ⟨am_v279, fun _ h => absurd h List.not_mem_nil⟩⟩⟩⟩
theorem am_be4_0 : (List.range' 0 55).all (am_eb 4) = true := by decide +kernel
theorem am_ok4 (i : Nat) : am_eOk 4 i := by
  have hy : 4 < am_law → am_cP 4 := fun _ => am_cms 4 (by decide)
  have hw : ∀ w ∈ am_ewE (am_nm 4).cls (am_at 4 i), w ∈ am_G := fun w h => am_wl4 w (am_ewA_in h)
  refine am_e_ok hy hw ?_
  by_cases h0 : i < 55
  · exact List.all_eq_true.mp am_be4_0 i (List.mem_range'_1.mpr ⟨by omega, by omega⟩)
  exact am_eb_out (am_len_out (n := 55) (by decide) (by omega))
set_option maxRecDepth 100000 in
theorem am_wl5 : ∀ w ∈ am_ewA (am_nm 5).cls (am_prog 5), w ∈ am_G := by
  have e : am_ewA (am_nm 5).cls (am_prog 5) = [am_u34, am_u35, am_u37, am_u38, am_u40, am_u41, am_u65] := rfl
  rw [e]
  exact List.forall_mem_cons.mpr ⟨am_v34, List.forall_mem_cons.mpr ⟨am_v35, List.forall_mem_cons.mpr ⟨am_v37, List.forall_mem_cons.mpr ⟨am_v38, List.forall_mem_cons.mpr ⟨am_v40, List.forall_mem_cons.mpr ⟨am_v41, List.forall_mem_cons.mpr ⟨am_v65, fun _ h => absurd h List.not_mem_nil⟩⟩⟩⟩⟩⟩⟩
theorem am_be5_0 : (List.range' 0 26).all (am_eb 5) = true := by decide +kernel
theorem am_ok5 (i : Nat) : am_eOk 5 i := by
  have hy : 5 < am_law → am_cP 5 := fun _ => am_cms 5 (by decide)
  have hw : ∀ w ∈ am_ewE (am_nm 5).cls (am_at 5 i), w ∈ am_G := fun w h => am_wl5 w (am_ewA_in h)
  refine am_e_ok hy hw ?_
  by_cases h0 : i < 26
  · exact List.all_eq_true.mp am_be5_0 i (List.mem_range'_1.mpr ⟨by omega, by omega⟩)
  exact am_eb_out (am_len_out (n := 26) (by decide) (by omega))
set_option maxRecDepth 100000 in
theorem am_wl6 : ∀ w ∈ am_ewA (am_nm 6).cls (am_prog 6), w ∈ am_G := by
  have e : am_ewA (am_nm 6).cls (am_prog 6) = [am_u35, am_u35, am_u1173, am_u37, am_u37, am_u1173, am_u38, am_u38, am_u1173, am_u40, am_u40, am_u1173, am_u41, am_u41, am_u1173, am_u44, am_u44, am_u49, am_u49, am_u53, am_u53, am_u56, am_u56, am_u59, am_u59, am_u60, am_u60, am_u63, am_u63, am_u65, am_u65] := rfl
  rw [e]
  exact List.forall_mem_cons.mpr ⟨am_v35, List.forall_mem_cons.mpr ⟨am_v35, List.forall_mem_cons.mpr ⟨am_v1173, List.forall_mem_cons.mpr ⟨am_v37, List.forall_mem_cons.mpr ⟨am_v37, List.forall_mem_cons.mpr ⟨am_v1173, List.forall_mem_cons.mpr ⟨am_v38, List.forall_mem_cons.mpr ⟨am_v38, List.forall_mem_cons.mpr ⟨am_v1173, List.forall_mem_cons.mpr ⟨am_v40, List.forall_mem_cons.mpr ⟨am_v40, List.forall_mem_cons.mpr ⟨am_v1173, List.forall_mem_cons.mpr ⟨am_v41, List.forall_mem_cons.mpr ⟨am_v41, List.forall_mem_cons.mpr ⟨am_v1173, List.forall_mem_cons.mpr ⟨am_v44, List.forall_mem_cons.mpr ⟨am_v44, List.forall_mem_cons.mpr ⟨am_v49, List.forall_mem_cons.mpr ⟨am_v49, List.forall_mem_cons.mpr ⟨am_v53, List.forall_mem_cons.mpr ⟨am_v53, List.forall_mem_cons.mpr ⟨am_v56, List.forall_mem_cons.mpr ⟨am_v56, List.forall_mem_cons.mpr ⟨am_v59, List.forall_mem_cons.mpr ⟨am_v59, List.forall_mem_cons.mpr ⟨am_v60, List.forall_mem_cons.mpr ⟨am_v60, List.forall_mem_cons.mpr ⟨am_v63, List.forall_mem_cons.mpr ⟨am_v63, List.forall_mem_cons.mpr ⟨am_v65, List.forall_mem_cons.mpr ⟨am_v65, fun _ h => absurd h List.not_mem_nil⟩⟩⟩⟩⟩⟩⟩⟩⟩⟩⟩⟩⟩⟩⟩⟩⟩⟩⟩⟩⟩⟩⟩⟩⟩⟩⟩⟩⟩⟩⟩
theorem am_be6_0 : (List.range' 0 64).all (am_eb 6) = true := by decide +kernel
theorem am_be6_1 : (List.range' 64 9).all (am_eb 6) = true := by decide +kernel
theorem am_ok6 (i : Nat) : am_eOk 6 i := by
  have hy : 6 < am_law → am_cP 6 := fun _ => am_cms 6 (by decide)
  have hw : ∀ w ∈ am_ewE (am_nm 6).cls (am_at 6 i), w ∈ am_G := fun w h => am_wl6 w (am_ewA_in h)
  refine am_e_ok hy hw ?_
  by_cases h0 : i < 64
  · exact List.all_eq_true.mp am_be6_0 i (List.mem_range'_1.mpr ⟨by omega, by omega⟩)
  by_cases h1 : i < 73
  · exact List.all_eq_true.mp am_be6_1 i (List.mem_range'_1.mpr ⟨by omega, by omega⟩)
  exact am_eb_out (am_len_out (n := 73) (by decide) (by omega))
set_option maxRecDepth 100000 in
theorem am_wl7 : ∀ w ∈ am_ewA (am_nm 7).cls (am_prog 7), w ∈ am_G := by
  have e : am_ewA (am_nm 7).cls (am_prog 7) = [am_u44] := rfl
  rw [e]
  exact List.forall_mem_cons.mpr ⟨am_v44, fun _ h => absurd h List.not_mem_nil⟩
theorem am_be7_0 : (List.range' 0 13).all (am_eb 7) = true := by decide +kernel
theorem am_ok7 (i : Nat) : am_eOk 7 i := by
  have hy : 7 < am_law → am_cP 7 := fun _ => am_cms 7 (by decide)
  have hw : ∀ w ∈ am_ewE (am_nm 7).cls (am_at 7 i), w ∈ am_G := fun w h => am_wl7 w (am_ewA_in h)
  refine am_e_ok hy hw ?_
  by_cases h0 : i < 13
  · exact List.all_eq_true.mp am_be7_0 i (List.mem_range'_1.mpr ⟨by omega, by omega⟩)
  exact am_eb_out (am_len_out (n := 13) (by decide) (by omega))
set_option maxRecDepth 100000 in
theorem am_wl8 : ∀ w ∈ am_ewA (am_nm 8).cls (am_prog 8), w ∈ am_G := by
  have e : am_ewA (am_nm 8).cls (am_prog 8) = [am_u49] := rfl
  rw [e]
  exact List.forall_mem_cons.mpr ⟨am_v49, fun _ h => absurd h List.not_mem_nil⟩
theorem am_be8_0 : (List.range' 0 13).all (am_eb 8) = true := by decide +kernel
theorem am_ok8 (i : Nat) : am_eOk 8 i := by
  have hy : 8 < am_law → am_cP 8 := fun _ => am_cms 8 (by decide)
  have hw : ∀ w ∈ am_ewE (am_nm 8).cls (am_at 8 i), w ∈ am_G := fun w h => am_wl8 w (am_ewA_in h)
  refine am_e_ok hy hw ?_
  by_cases h0 : i < 13
  · exact List.all_eq_true.mp am_be8_0 i (List.mem_range'_1.mpr ⟨by omega, by omega⟩)
  exact am_eb_out (am_len_out (n := 13) (by decide) (by omega))
set_option maxRecDepth 100000 in
theorem am_wl9 : ∀ w ∈ am_ewA (am_nm 9).cls (am_prog 9), w ∈ am_G := by
  have e : am_ewA (am_nm 9).cls (am_prog 9) = [am_u53] := rfl
  rw [e]
  exact List.forall_mem_cons.mpr ⟨am_v53, fun _ h => absurd h List.not_mem_nil⟩
theorem am_be9_0 : (List.range' 0 13).all (am_eb 9) = true := by decide +kernel
theorem am_ok9 (i : Nat) : am_eOk 9 i := by
  have hy : 9 < am_law → am_cP 9 := fun _ => am_cms 9 (by decide)
  have hw : ∀ w ∈ am_ewE (am_nm 9).cls (am_at 9 i), w ∈ am_G := fun w h => am_wl9 w (am_ewA_in h)
  refine am_e_ok hy hw ?_
  by_cases h0 : i < 13
  · exact List.all_eq_true.mp am_be9_0 i (List.mem_range'_1.mpr ⟨by omega, by omega⟩)
  exact am_eb_out (am_len_out (n := 13) (by decide) (by omega))
set_option maxRecDepth 100000 in
theorem am_wl10 : ∀ w ∈ am_ewA (am_nm 10).cls (am_prog 10), w ∈ am_G := by
  have e : am_ewA (am_nm 10).cls (am_prog 10) = [am_u63] := rfl
  rw [e]
  exact List.forall_mem_cons.mpr ⟨am_v63, fun _ h => absurd h List.not_mem_nil⟩
theorem am_be10_0 : (List.range' 0 10).all (am_eb 10) = true := by decide +kernel
theorem am_ok10 (i : Nat) : am_eOk 10 i := by
  have hy : 10 < am_law → am_cP 10 := fun _ => am_cms 10 (by decide)
  have hw : ∀ w ∈ am_ewE (am_nm 10).cls (am_at 10 i), w ∈ am_G := fun w h => am_wl10 w (am_ewA_in h)
  refine am_e_ok hy hw ?_
  by_cases h0 : i < 10
  · exact List.all_eq_true.mp am_be10_0 i (List.mem_range'_1.mpr ⟨by omega, by omega⟩)
  exact am_eb_out (am_len_out (n := 10) (by decide) (by omega))
set_option maxRecDepth 100000 in
theorem am_wl11 : ∀ w ∈ am_ewA (am_nm 11).cls (am_prog 11), w ∈ am_G := by
  have e : am_ewA (am_nm 11).cls (am_prog 11) = [am_u44] := rfl
  rw [e]
  exact List.forall_mem_cons.mpr ⟨am_v44, fun _ h => absurd h List.not_mem_nil⟩
theorem am_be11_0 : (List.range' 0 7).all (am_eb 11) = true := by decide +kernel
theorem am_ok11 (i : Nat) : am_eOk 11 i := by
  have hy : 11 < am_law → am_cP 11 := fun _ => am_cms 11 (by decide)
  have hw : ∀ w ∈ am_ewE (am_nm 11).cls (am_at 11 i), w ∈ am_G := fun w h => am_wl11 w (am_ewA_in h)
  refine am_e_ok hy hw ?_
  by_cases h0 : i < 7
  · exact List.all_eq_true.mp am_be11_0 i (List.mem_range'_1.mpr ⟨by omega, by omega⟩)
  exact am_eb_out (am_len_out (n := 7) (by decide) (by omega))
