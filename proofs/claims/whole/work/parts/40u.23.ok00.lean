/-! rows of the methods 0 .. 42 -/
set_option maxRecDepth 100000 in
theorem am_wl0 : ∀ w ∈ am_ewA (am_nm 0).cls (am_prog 0), w ∈ am_G := by
  have e : am_ewA (am_nm 0).cls (am_prog 0) = [am_u195, am_u196, am_u197] := rfl
  rw [e]
  exact List.forall_mem_cons.mpr ⟨am_v195, List.forall_mem_cons.mpr ⟨am_v196, List.forall_mem_cons.mpr ⟨am_v197, fun _ h => absurd h List.not_mem_nil⟩⟩⟩
theorem am_be0_0 : (List.range' 0 9).all (am_eb 0) = true := by decide +kernel
theorem am_ok0 (i : Nat) : am_eOk 0 i := by
  have hy : 0 < am_law → am_cP 0 := fun _ => am_cms 0 (by decide)
  have hw : ∀ w ∈ am_ewE (am_nm 0).cls (am_at 0 i), w ∈ am_G := fun w h => am_wl0 w (am_ewA_in h)
  refine am_e_ok hy hw ?_
  by_cases h0 : i < 9
  · exact List.all_eq_true.mp am_be0_0 i (List.mem_range'_1.mpr ⟨by omega, by omega⟩)
  exact am_eb_out (am_len_out (n := 9) (by decide) (by omega))
set_option maxRecDepth 100000 in
theorem am_wl1 : ∀ w ∈ am_ewA (am_nm 1).cls (am_prog 1), w ∈ am_G := by
  have e : am_ewA (am_nm 1).cls (am_prog 1) = [am_u118, am_u118, am_u118] := rfl
  rw [e]
  exact List.forall_mem_cons.mpr ⟨am_v118, List.forall_mem_cons.mpr ⟨am_v118, List.forall_mem_cons.mpr ⟨am_v118, fun _ h => absurd h List.not_mem_nil⟩⟩⟩
theorem am_be1_0 : (List.range' 0 22).all (am_eb 1) = true := by decide +kernel
theorem am_ok1 (i : Nat) : am_eOk 1 i := by
  have hy : 1 < am_law → am_cP 1 := fun _ => am_cms 1 (by decide)
  have hw : ∀ w ∈ am_ewE (am_nm 1).cls (am_at 1 i), w ∈ am_G := fun w h => am_wl1 w (am_ewA_in h)
  refine am_e_ok hy hw ?_
  by_cases h0 : i < 22
  · exact List.all_eq_true.mp am_be1_0 i (List.mem_range'_1.mpr ⟨by omega, by omega⟩)
  exact am_eb_out (am_len_out (n := 22) (by decide) (by omega))
set_option maxRecDepth 100000 in
theorem am_wl2 : ∀ w ∈ am_ewA (am_nm 2).cls (am_prog 2), w ∈ am_G := by
  have e : am_ewA (am_nm 2).cls (am_prog 2) = [am_u1009, am_u280, am_u280, am_u280] := rfl
  rw [e]
  exact List.forall_mem_cons.mpr ⟨am_v1009, List.forall_mem_cons.mpr ⟨am_v280, List.forall_mem_cons.mpr ⟨am_v280, List.forall_mem_cons.mpr ⟨am_v280, fun _ h => absurd h List.not_mem_nil⟩⟩⟩⟩
theorem am_be2_0 : (List.range' 0 32).all (am_eb 2) = true := by decide +kernel
theorem am_ok2 (i : Nat) : am_eOk 2 i := by
  have hy : 2 < am_law → am_cP 2 := fun _ => am_cms 2 (by decide)
  have hw : ∀ w ∈ am_ewE (am_nm 2).cls (am_at 2 i), w ∈ am_G := fun w h => am_wl2 w (am_ewA_in h)
  refine am_e_ok hy hw ?_
  by_cases h0 : i < 32
  · exact List.all_eq_true.mp am_be2_0 i (List.mem_range'_1.mpr ⟨by omega, by omega⟩)
  exact am_eb_out (am_len_out (n := 32) (by decide) (by omega))
set_option maxRecDepth 100000 in
theorem am_wl3 : ∀ w ∈ am_ewA (am_nm 3).cls (am_prog 3), w ∈ am_G := by
  have e : am_ewA (am_nm 3).cls (am_prog 3) = [am_u280] := rfl
  rw [e]
  exact List.forall_mem_cons.mpr ⟨am_v280, fun _ h => absurd h List.not_mem_nil⟩
theorem am_be3_0 : (List.range' 0 27).all (am_eb 3) = true := by decide +kernel
theorem am_ok3 (i : Nat) : am_eOk 3 i := by
  have hy : 3 < am_law → am_cP 3 := fun _ => am_cms 3 (by decide)
  have hw : ∀ w ∈ am_ewE (am_nm 3).cls (am_at 3 i), w ∈ am_G := fun w h => am_wl3 w (am_ewA_in h)
  refine am_e_ok hy hw ?_
  by_cases h0 : i < 27
  · exact List.all_eq_true.mp am_be3_0 i (List.mem_range'_1.mpr ⟨by omega, by omega⟩)
  exact am_eb_out (am_len_out (n := 27) (by decide) (by omega))
set_option maxRecDepth 100000 in
theorem am_wl4 : ∀ w ∈ am_ewA (am_nm 4).cls (am_prog 4), w ∈ am_G := by
  have e : am_ewA (am_nm 4).cls (am_prog 4) = [am_u274, am_u47, am_u280, am_u279] := rfl
  rw [e]
  exact List.forall_mem_cons.mpr ⟨am_v274, List.forall_mem_cons.mpr ⟨am_v47, List.forall_mem_cons.mpr ⟨am_v280, List.forall_mem_cons.mpr ⟨am_v279, fun _ h => absurd h List.not_mem_nil⟩⟩⟩⟩
theorem am_be4_0 : (List.range' 0 57).all (am_eb 4) = true := by decide +kernel
theorem am_ok4 (i : Nat) : am_eOk 4 i := by
  have hy : 4 < am_law → am_cP 4 := fun _ => am_cms 4 (by decide)
  have hw : ∀ w ∈ am_ewE (am_nm 4).cls (am_at 4 i), w ∈ am_G := fun w h => am_wl4 w (am_ewA_in h)
  refine am_e_ok hy hw ?_
  by_cases h0 : i < 57
  · exact List.all_eq_true.mp am_be4_0 i (List.mem_range'_1.mpr ⟨by omega, by omega⟩)
  exact am_eb_out (am_len_out (n := 57) (by decide) (by omega))
set_option maxRecDepth 100000 in
theorem am_wl5 : ∀ w ∈ am_ewA (am_nm 5).cls (am_prog 5), w ∈ am_G := by
  have e : am_ewA (am_nm 5).cls (am_prog 5) = [am_u34, am_u35, am_u37, am_u38, am_u40, am_u41, am_u65] := rfl
  rw [e]
  exact List.forall_mem_cons.mpr ⟨am_v34, List.forall_mem_cons.mpr ⟨am_v35, List.forall_mem_cons.mpr ⟨am_v37, List.forall_mem_cons.mpr ⟨am_v38, List.forall_mem_cons.mpr ⟨am_v40, List.forall_mem_cons.mpr ⟨am_v41, List.forall_mem_cons.mpr ⟨am_v65, fun _ h => absurd h List.not_mem_nil⟩⟩⟩⟩⟩⟩⟩
theorem am_be5_0 : (List.range' 0 26).all (am_eb 5) = true := by decide +kernel
theorem am_ok5 (i : Nat) : am_eOk 5 i := by
  have hy : 5 < am_law → am_cP 5 := fun _ => am_cms 5 (by decide)
  have hw : ∀ w ∈ am_ewE (am_nm 5).cls (am_at 5 i), w ∈ am_G := fun w h => am_wl5 w (am_ewA_in h)
  refine am_e_ok hy hw ?_
  by_cases h0 : i < 26
  · exact List.all_eq_true.mp am_be5_0 i (List.mem_range'_1.mpr ⟨by omega, by omega⟩)
  exact am_eb_out (am_len_out (n := 26) (by decide) (by omega))
set_option maxRecDepth 100000 in
theorem am_wl6 : ∀ w ∈ am_ewA (am_nm 6).cls (am_prog 6), w ∈ am_G := by
  have e : am_ewA (am_nm 6).cls (am_prog 6) = [am_u35, am_u35, am_u1173, am_u37, am_u37, am_u1173, am_u38, am_u38, am_u1173, am_u40, am_u40, am_u1173, am_u41, am_u41, am_u1173, am_u44, am_u44, am_u49, am_u49, am_u53, am_u53, am_u56, am_u56, am_u59, am_u59, am_u60, am_u60, am_u63, am_u63, am_u65, am_u65] := rfl
  rw [e]
  exact List.forall_mem_cons.mpr ⟨am_v35, List.forall_mem_cons.mpr ⟨am_v35, List.forall_mem_cons.mpr ⟨am_v1173, List.forall_mem_cons.mpr ⟨am_v37, List.forall_mem_cons.mpr ⟨am_v37, List.forall_mem_cons.mpr ⟨am_v1173, List.forall_mem_cons.mpr ⟨am_v38, List.forall_mem_cons.mpr ⟨am_v38, List.forall_mem_cons.mpr ⟨am_v1173, List.forall_mem_cons.mpr ⟨am_v40, List.forall_mem_cons.mpr ⟨am_v40, List.forall_mem_cons.mpr ⟨am_v1173, List.forall_mem_cons.mpr ⟨am_v41, List.forall_mem_cons.mpr ⟨am_v41, List.forall_mem_cons.mpr ⟨am_v1173, List.forall_mem_cons.mpr ⟨am_v44, List.forall_mem_cons.mpr ⟨am_v44, List.forall_mem_cons.mpr ⟨am_v49, List.forall_mem_cons.mpr ⟨am_v49, List.forall_mem_cons.mpr ⟨am_v53, List.forall_mem_cons.mpr ⟨am_v53, List.forall_mem_cons.mpr ⟨am_v56, List.forall_mem_cons.mpr ⟨am_v56, List.forall_mem_cons.mpr ⟨am_v59, List.forall_mem_cons.mpr ⟨am_v59, List.forall_mem_cons.mpr ⟨am_v60, List.forall_mem_cons.mpr ⟨am_v60, List.forall_mem_cons.mpr ⟨am_v63, List.forall_mem_cons.mpr ⟨am_v63, List.forall_mem_cons.mpr ⟨am_v65, List.forall_mem_cons.mpr ⟨am_v65, fun _ h => absurd h List.not_mem_nil⟩⟩⟩⟩⟩⟩⟩⟩⟩⟩⟩⟩⟩⟩⟩⟩⟩⟩⟩⟩⟩⟩⟩⟩⟩⟩⟩⟩⟩⟩⟩
theorem am_be6_0 : (List.range' 0 64).all (am_eb 6) = true := by decide +kernel
theorem am_be6_1 : (List.range' 64 9).all (am_eb 6) = true := by decide +kernel
theorem am_ok6 (i : Nat) : am_eOk 6 i := by
  have hy : 6 < am_law → am_cP 6 := fun _ => am_cms 6 (by decide)
  have hw : ∀ w ∈ am_ewE (am_nm 6).cls (am_at 6 i), w ∈ am_G := fun w h => am_wl6 w (am_ewA_in h)
  refine am_e_ok hy hw ?_
  by_cases h0 : i < 64
  · exact List.all_eq_true.mp am_be6_0 i (List.mem_range'_1.mpr ⟨by omega, by omega⟩)
  by_cases h1 : i < 73
  · exact List.all_eq_true.mp am_be6_1 i (List.mem_range'_1.mpr ⟨by omega, by omega⟩)
  exact am_eb_out (am_len_out (n := 73) (by decide) (by omega))
set_option maxRecDepth 100000 in
theorem am_wl7 : ∀ w ∈ am_ewA (am_nm 7).cls (am_prog 7), w ∈ am_G := by
  have e : am_ewA (am_nm 7).cls (am_prog 7) = [am_u44] := rfl
  rw [e]
  exact List.forall_mem_cons.mpr ⟨am_v44, fun _ h => absurd h List.not_mem_nil⟩
theorem am_be7_0 : (List.range' 0 14).all (am_eb 7) = true := by decide +kernel
theorem am_ok7 (i : Nat) : am_eOk 7 i := by
  have hy : 7 < am_law → am_cP 7 := fun _ => am_cms 7 (by decide)
  have hw : ∀ w ∈ am_ewE (am_nm 7).cls (am_at 7 i), w ∈ am_G := fun w h => am_wl7 w (am_ewA_in h)
  refine am_e_ok hy hw ?_
  by_cases h0 : i < 14
  · exact List.all_eq_true.mp am_be7_0 i (List.mem_range'_1.mpr ⟨by omega, by omega⟩)
  exact am_eb_out (am_len_out (n := 14) (by decide) (by omega))
set_option maxRecDepth 100000 in
theorem am_wl8 : ∀ w ∈ am_ewA (am_nm 8).cls (am_prog 8), w ∈ am_G := by
  have e : am_ewA (am_nm 8).cls (am_prog 8) = [am_u49] := rfl
  rw [e]
  exact List.forall_mem_cons.mpr ⟨am_v49, fun _ h => absurd h List.not_mem_nil⟩
theorem am_be8_0 : (List.range' 0 14).all (am_eb 8) = true := by decide +kernel
theorem am_ok8 (i : Nat) : am_eOk 8 i := by
  have hy : 8 < am_law → am_cP 8 := fun _ => am_cms 8 (by decide)
  have hw : ∀ w ∈ am_ewE (am_nm 8).cls (am_at 8 i), w ∈ am_G := fun w h => am_wl8 w (am_ewA_in h)
  refine am_e_ok hy hw ?_
  by_cases h0 : i < 14
  · exact List.all_eq_true.mp am_be8_0 i (List.mem_range'_1.mpr ⟨by omega, by omega⟩)
  exact am_eb_out (am_len_out (n := 14) (by decide) (by omega))
set_option maxRecDepth 100000 in
theorem am_wl9 : ∀ w ∈ am_ewA (am_nm 9).cls (am_prog 9), w ∈ am_G := by
  have e : am_ewA (am_nm 9).cls (am_prog 9) = [am_u53] := rfl
  rw [e]
  exact List.forall_mem_cons.mpr ⟨am_v53, fun _ h => absurd h List.not_mem_nil⟩
theorem am_be9_0 : (List.range' 0 14).all (am_eb 9) = true := by decide +kernel
theorem am_ok9 (i : Nat) : am_eOk 9 i := by
  have hy : 9 < am_law → am_cP 9 := fun _ => am_cms 9 (by decide)
  have hw : ∀ w ∈ am_ewE (am_nm 9).cls (am_at 9 i), w ∈ am_G := fun w h => am_wl9 w (am_ewA_in h)
  refine am_e_ok hy hw ?_
  by_cases h0 : i < 14
  · exact List.all_eq_true.mp am_be9_0 i (List.mem_range'_1.mpr ⟨by omega, by omega⟩)
  exact am_eb_out (am_len_out (n := 14) (by decide) (by omega))
set_option maxRecDepth 100000 in
theorem am_wl10 : ∀ w ∈ am_ewA (am_nm 10).cls (am_prog 10), w ∈ am_G := by
  have e : am_ewA (am_nm 10).cls (am_prog 10) = [am_u63] := rfl
  rw [e]
  exact List.forall_mem_cons.mpr ⟨am_v63, fun _ h => absurd h List.not_mem_nil⟩
theorem am_be10_0 : (List.range' 0 11).all (am_eb 10) = true := by decide +kernel
theorem am_ok10 (i : Nat) : am_eOk 10 i := by
  have hy : 10 < am_law → am_cP 10 := fun _ => am_cms 10 (by decide)
  have hw : ∀ w ∈ am_ewE (am_nm 10).cls (am_at 10 i), w ∈ am_G := fun w h => am_wl10 w (am_ewA_in h)
  refine am_e_ok hy hw ?_
  by_cases h0 : i < 11
  · exact List.all_eq_true.mp am_be10_0 i (List.mem_range'_1.mpr ⟨by omega, by omega⟩)
  exact am_eb_out (am_len_out (n := 11) (by decide) (by omega))
set_option maxRecDepth 100000 in
theorem am_wl11 : ∀ w ∈ am_ewA (am_nm 11).cls (am_prog 11), w ∈ am_G := by
  have e : am_ewA (am_nm 11).cls (am_prog 11) = [am_u44] := rfl
  rw [e]
  exact List.forall_mem_cons.mpr ⟨am_v44, fun _ h => absurd h List.not_mem_nil⟩
theorem am_be11_0 : (List.range' 0 7).all (am_eb 11) = true := by decide +kernel
theorem am_ok11 (i : Nat) : am_eOk 11 i := by
  have hy : 11 < am_law → am_cP 11 := fun _ => am_cms 11 (by decide)
  have hw : ∀ w ∈ am_ewE (am_nm 11).cls (am_at 11 i), w ∈ am_G := fun w h => am_wl11 w (am_ewA_in h)
  refine am_e_ok hy hw ?_
  by_cases h0 : i < 7
  · exact List.all_eq_true.mp am_be11_0 i (List.mem_range'_1.mpr ⟨by omega, by omega⟩)
  exact am_eb_out (am_len_out (n := 7) (by decide) (by omega))
set_option maxRecDepth 100000 in
theorem am_wl12 : ∀ w ∈ am_ewA (am_nm 12).cls (am_prog 12), w ∈ am_G := by
  have e : am_ewA (am_nm 12).cls (am_prog 12) = [am_u53] := rfl
  rw [e]
  exact List.forall_mem_cons.mpr ⟨am_v53, fun _ h => absurd h List.not_mem_nil⟩
theorem am_be12_0 : (List.range' 0 15).all (am_eb 12) = true := by decide +kernel
theorem am_ok12 (i : Nat) : am_eOk 12 i := by
  have hy : 12 < am_law → am_cP 12 := fun _ => am_cms 12 (by decide)
  have hw : ∀ w ∈ am_ewE (am_nm 12).cls (am_at 12 i), w ∈ am_G := fun w h => am_wl12 w (am_ewA_in h)
  refine am_e_ok hy hw ?_
  by_cases h0 : i < 15
  · exact List.all_eq_true.mp am_be12_0 i (List.mem_range'_1.mpr ⟨by omega, by omega⟩)
  exact am_eb_out (am_len_out (n := 15) (by decide) (by omega))
set_option maxRecDepth 100000 in
theorem am_wl13 : ∀ w ∈ am_ewA (am_nm 13).cls (am_prog 13), w ∈ am_G := by
  have e : am_ewA (am_nm 13).cls (am_prog 13) = [am_u44, am_u44, am_u35, am_u44, am_u37, am_u44, am_u44, am_u44, am_u44] := rfl
  rw [e]
  exact List.forall_mem_cons.mpr ⟨am_v44, List.forall_mem_cons.mpr ⟨am_v44, List.forall_mem_cons.mpr ⟨am_v35, List.forall_mem_cons.mpr ⟨am_v44, List.forall_mem_cons.mpr ⟨am_v37, List.forall_mem_cons.mpr ⟨am_v44, List.forall_mem_cons.mpr ⟨am_v44, List.forall_mem_cons.mpr ⟨am_v44, List.forall_mem_cons.mpr ⟨am_v44, fun _ h => absurd h List.not_mem_nil⟩⟩⟩⟩⟩⟩⟩⟩⟩
theorem am_be13_0 : (List.range' 0 33).all (am_eb 13) = true := by decide +kernel
theorem am_ok13 (i : Nat) : am_eOk 13 i := by
  have hy : 13 < am_law → am_cP 13 := fun _ => am_cms 13 (by decide)
  have hw : ∀ w ∈ am_ewE (am_nm 13).cls (am_at 13 i), w ∈ am_G := fun w h => am_wl13 w (am_ewA_in h)
  refine am_e_ok hy hw ?_
  by_cases h0 : i < 33
  · exact List.all_eq_true.mp am_be13_0 i (List.mem_range'_1.mpr ⟨by omega, by omega⟩)
  exact am_eb_out (am_len_out (n := 33) (by decide) (by omega))
set_option maxRecDepth 100000 in
theorem am_wl14 : ∀ w ∈ am_ewA (am_nm 14).cls (am_prog 14), w ∈ am_G := by
  have e : am_ewA (am_nm 14).cls (am_prog 14) = [am_u49, am_u49, am_u38, am_u49, am_u49, am_u49, am_u49] := rfl
  rw [e]
  exact List.forall_mem_cons.mpr ⟨am_v49, List.forall_mem_cons.mpr ⟨am_v49, List.forall_mem_cons.mpr ⟨am_v38, List.forall_mem_cons.mpr ⟨am_v49, List.forall_mem_cons.mpr ⟨am_v49, List.forall_mem_cons.mpr ⟨am_v49, List.forall_mem_cons.mpr ⟨am_v49, fun _ h => absurd h List.not_mem_nil⟩⟩⟩⟩⟩⟩⟩
theorem am_be14_0 : (List.range' 0 27).all (am_eb 14) = true := by decide +kernel
theorem am_ok14 (i : Nat) : am_eOk 14 i := by
  have hy : 14 < am_law → am_cP 14 := fun _ => am_cms 14 (by decide)
  have hw : ∀ w ∈ am_ewE (am_nm 14).cls (am_at 14 i), w ∈ am_G := fun w h => am_wl14 w (am_ewA_in h)
  refine am_e_ok hy hw ?_
  by_cases h0 : i < 27
  · exact List.all_eq_true.mp am_be14_0 i (List.mem_range'_1.mpr ⟨by omega, by omega⟩)
  exact am_eb_out (am_len_out (n := 27) (by decide) (by omega))
set_option maxRecDepth 100000 in
theorem am_wl15 : ∀ w ∈ am_ewA (am_nm 15).cls (am_prog 15), w ∈ am_G := by
  have e : am_ewA (am_nm 15).cls (am_prog 15) = [am_u53, am_u53, am_u40, am_u53, am_u53, am_u53, am_u53] := rfl
  rw [e]
  exact List.forall_mem_cons.mpr ⟨am_v53, List.forall_mem_cons.mpr ⟨am_v53, List.forall_mem_cons.mpr ⟨am_v40, List.forall_mem_cons.mpr ⟨am_v53, List.forall_mem_cons.mpr ⟨am_v53, List.forall_mem_cons.mpr ⟨am_v53, List.forall_mem_cons.mpr ⟨am_v53, fun _ h => absurd h List.not_mem_nil⟩⟩⟩⟩⟩⟩⟩
theorem am_be15_0 : (List.range' 0 27).all (am_eb 15) = true := by decide +kernel
theorem am_ok15 (i : Nat) : am_eOk 15 i := by
  have hy : 15 < am_law → am_cP 15 := fun _ => am_cms 15 (by decide)
  have hw : ∀ w ∈ am_ewE (am_nm 15).cls (am_at 15 i), w ∈ am_G := fun w h => am_wl15 w (am_ewA_in h)
  refine am_e_ok hy hw ?_
  by_cases h0 : i < 27
  · exact List.all_eq_true.mp am_be15_0 i (List.mem_range'_1.mpr ⟨by omega, by omega⟩)
  exact am_eb_out (am_len_out (n := 27) (by decide) (by omega))
set_option maxRecDepth 100000 in
theorem am_wl16 : ∀ w ∈ am_ewA (am_nm 16).cls (am_prog 16), w ∈ am_G := by
  have e : am_ewA (am_nm 16).cls (am_prog 16) = [am_u56, am_u56, am_u41, am_u56, am_u59, am_u56, am_u59, am_u56, am_u59, am_u56, am_u56] := rfl
  rw [e]
  exact List.forall_mem_cons.mpr ⟨am_v56, List.forall_mem_cons.mpr ⟨am_v56, List.forall_mem_cons.mpr ⟨am_v41, List.forall_mem_cons.mpr ⟨am_v56, List.forall_mem_cons.mpr ⟨am_v59, List.forall_mem_cons.mpr ⟨am_v56, List.forall_mem_cons.mpr ⟨am_v59, List.forall_mem_cons.mpr ⟨am_v56, List.forall_mem_cons.mpr ⟨am_v59, List.forall_mem_cons.mpr ⟨am_v56, List.forall_mem_cons.mpr ⟨am_v56, fun _ h => absurd h List.not_mem_nil⟩⟩⟩⟩⟩⟩⟩⟩⟩⟩⟩
theorem am_be16_0 : (List.range' 0 45).all (am_eb 16) = true := by decide +kernel
theorem am_ok16 (i : Nat) : am_eOk 16 i := by
  have hy : 16 < am_law → am_cP 16 := fun _ => am_cms 16 (by decide)
  have hw : ∀ w ∈ am_ewE (am_nm 16).cls (am_at 16 i), w ∈ am_G := fun w h => am_wl16 w (am_ewA_in h)
  refine am_e_ok hy hw ?_
  by_cases h0 : i < 45
  · exact List.all_eq_true.mp am_be16_0 i (List.mem_range'_1.mpr ⟨by omega, by omega⟩)
  exact am_eb_out (am_len_out (n := 45) (by decide) (by omega))
set_option maxRecDepth 100000 in
theorem am_wl17 : ∀ w ∈ am_ewA (am_nm 17).cls (am_prog 17), w ∈ am_G := by
  have e : am_ewA (am_nm 17).cls (am_prog 17) = [am_u59] := rfl
  rw [e]
  exact List.forall_mem_cons.mpr ⟨am_v59, fun _ h => absurd h List.not_mem_nil⟩
theorem am_be17_0 : (List.range' 0 11).all (am_eb 17) = true := by decide +kernel
theorem am_ok17 (i : Nat) : am_eOk 17 i := by
  have hy : 17 < am_law → am_cP 17 := fun _ => am_cms 17 (by decide)
  have hw : ∀ w ∈ am_ewE (am_nm 17).cls (am_at 17 i), w ∈ am_G := fun w h => am_wl17 w (am_ewA_in h)
  refine am_e_ok hy hw ?_
  by_cases h0 : i < 11
  · exact List.all_eq_true.mp am_be17_0 i (List.mem_range'_1.mpr ⟨by omega, by omega⟩)
  exact am_eb_out (am_len_out (n := 11) (by decide) (by omega))
set_option maxRecDepth 100000 in
theorem am_wl18 : ∀ w ∈ am_ewA (am_nm 18).cls (am_prog 18), w ∈ am_G := by
  have e : am_ewA (am_nm 18).cls (am_prog 18) = [am_u44, am_u35] := rfl
  rw [e]
  exact List.forall_mem_cons.mpr ⟨am_v44, List.forall_mem_cons.mpr ⟨am_v35, fun _ h => absurd h List.not_mem_nil⟩⟩
theorem am_be18_0 : (List.range' 0 30).all (am_eb 18) = true := by decide +kernel
theorem am_ok18 (i : Nat) : am_eOk 18 i := by
  have hy : 18 < am_law → am_cP 18 := fun _ => am_cms 18 (by decide)
  have hw : ∀ w ∈ am_ewE (am_nm 18).cls (am_at 18 i), w ∈ am_G := fun w h => am_wl18 w (am_ewA_in h)
  refine am_e_ok hy hw ?_
  by_cases h0 : i < 30
  · exact List.all_eq_true.mp am_be18_0 i (List.mem_range'_1.mpr ⟨by omega, by omega⟩)
  exact am_eb_out (am_len_out (n := 30) (by decide) (by omega))
set_option maxRecDepth 100000 in
theorem am_wl19 : ∀ w ∈ am_ewA (am_nm 19).cls (am_prog 19), w ∈ am_G := by
  have e : am_ewA (am_nm 19).cls (am_prog 19) = [am_u44, am_u37] := rfl
  rw [e]
  exact List.forall_mem_cons.mpr ⟨am_v44, List.forall_mem_cons.mpr ⟨am_v37, fun _ h => absurd h List.not_mem_nil⟩⟩
theorem am_be19_0 : (List.range' 0 30).all (am_eb 19) = true := by decide +kernel
theorem am_ok19 (i : Nat) : am_eOk 19 i := by
  have hy : 19 < am_law → am_cP 19 := fun _ => am_cms 19 (by decide)
  have hw : ∀ w ∈ am_ewE (am_nm 19).cls (am_at 19 i), w ∈ am_G := fun w h => am_wl19 w (am_ewA_in h)
  refine am_e_ok hy hw ?_
  by_cases h0 : i < 30
  · exact List.all_eq_true.mp am_be19_0 i (List.mem_range'_1.mpr ⟨by omega, by omega⟩)
  exact am_eb_out (am_len_out (n := 30) (by decide) (by omega))
set_option maxRecDepth 100000 in
theorem am_wl20 : ∀ w ∈ am_ewA (am_nm 20).cls (am_prog 20), w ∈ am_G := by
  have e : am_ewA (am_nm 20).cls (am_prog 20) = [am_u53, am_u40, am_u44, am_u44, am_u37] := rfl
  rw [e]
  exact List.forall_mem_cons.mpr ⟨am_v53, List.forall_mem_cons.mpr ⟨am_v40, List.forall_mem_cons.mpr ⟨am_v44, List.forall_mem_cons.mpr ⟨am_v44, List.forall_mem_cons.mpr ⟨am_v37, fun _ h => absurd h List.not_mem_nil⟩⟩⟩⟩⟩
theorem am_be20_0 : (List.range' 0 64).all (am_eb 20) = true := by decide +kernel
theorem am_be20_1 : (List.range' 64 5).all (am_eb 20) = true := by decide +kernel
theorem am_ok20 (i : Nat) : am_eOk 20 i := by
  have hy : 20 < am_law → am_cP 20 := fun _ => am_cms 20 (by decide)
  have hw : ∀ w ∈ am_ewE (am_nm 20).cls (am_at 20 i), w ∈ am_G := fun w h => am_wl20 w (am_ewA_in h)
  refine am_e_ok hy hw ?_
  by_cases h0 : i < 64
  · exact List.all_eq_true.mp am_be20_0 i (List.mem_range'_1.mpr ⟨by omega, by omega⟩)
  by_cases h1 : i < 69
  · exact List.all_eq_true.mp am_be20_1 i (List.mem_range'_1.mpr ⟨by omega, by omega⟩)
  exact am_eb_out (am_len_out (n := 69) (by decide) (by omega))
set_option maxRecDepth 100000 in
theorem am_wl21 : ∀ w ∈ am_ewA (am_nm 21).cls (am_prog 21), w ∈ am_G := by
  have e : am_ewA (am_nm 21).cls (am_prog 21) = [am_u101, am_u102, am_u104, am_u106, am_u107, am_u109, am_u117, am_u109, am_u109] := rfl
  rw [e]
  exact List.forall_mem_cons.mpr ⟨am_v101, List.forall_mem_cons.mpr ⟨am_v102, List.forall_mem_cons.mpr ⟨am_v104, List.forall_mem_cons.mpr ⟨am_v106, List.forall_mem_cons.mpr ⟨am_v107, List.forall_mem_cons.mpr ⟨am_v109, List.forall_mem_cons.mpr ⟨am_v117, List.forall_mem_cons.mpr ⟨am_v109, List.forall_mem_cons.mpr ⟨am_v109, fun _ h => absurd h List.not_mem_nil⟩⟩⟩⟩⟩⟩⟩⟩⟩
theorem am_be21_0 : (List.range' 0 41).all (am_eb 21) = true := by decide +kernel
theorem am_ok21 (i : Nat) : am_eOk 21 i := by
  have hy : 21 < am_law → am_cP 21 := fun _ => am_cms 21 (by decide)
  have hw : ∀ w ∈ am_ewE (am_nm 21).cls (am_at 21 i), w ∈ am_G := fun w h => am_wl21 w (am_ewA_in h)
  refine am_e_ok hy hw ?_
  by_cases h0 : i < 41
  · exact List.all_eq_true.mp am_be21_0 i (List.mem_range'_1.mpr ⟨by omega, by omega⟩)
  exact am_eb_out (am_len_out (n := 41) (by decide) (by omega))
set_option maxRecDepth 100000 in
theorem am_wl22 : ∀ w ∈ am_ewA (am_nm 22).cls (am_prog 22), w ∈ am_G := by
  have e : am_ewA (am_nm 22).cls (am_prog 22) = [am_u102, am_u102, am_u466, am_u104, am_u104, am_u466, am_u106, am_u106, am_u466, am_u107, am_u107, am_u466, am_u109, am_u109, am_u466, am_u111, am_u111, am_u112, am_u112, am_u117, am_u117] := rfl
  rw [e]
  exact List.forall_mem_cons.mpr ⟨am_v102, List.forall_mem_cons.mpr ⟨am_v102, List.forall_mem_cons.mpr ⟨am_v466, List.forall_mem_cons.mpr ⟨am_v104, List.forall_mem_cons.mpr ⟨am_v104, List.forall_mem_cons.mpr ⟨am_v466, List.forall_mem_cons.mpr ⟨am_v106, List.forall_mem_cons.mpr ⟨am_v106, List.forall_mem_cons.mpr ⟨am_v466, List.forall_mem_cons.mpr ⟨am_v107, List.forall_mem_cons.mpr ⟨am_v107, List.forall_mem_cons.mpr ⟨am_v466, List.forall_mem_cons.mpr ⟨am_v109, List.forall_mem_cons.mpr ⟨am_v109, List.forall_mem_cons.mpr ⟨am_v466, List.forall_mem_cons.mpr ⟨am_v111, List.forall_mem_cons.mpr ⟨am_v111, List.forall_mem_cons.mpr ⟨am_v112, List.forall_mem_cons.mpr ⟨am_v112, List.forall_mem_cons.mpr ⟨am_v117, List.forall_mem_cons.mpr ⟨am_v117, fun _ h => absurd h List.not_mem_nil⟩⟩⟩⟩⟩⟩⟩⟩⟩⟩⟩⟩⟩⟩⟩⟩⟩⟩⟩⟩⟩
theorem am_be22_0 : (List.range' 0 53).all (am_eb 22) = true := by decide +kernel
theorem am_ok22 (i : Nat) : am_eOk 22 i := by
  have hy : 22 < am_law → am_cP 22 := fun _ => am_cms 22 (by decide)
  have hw : ∀ w ∈ am_ewE (am_nm 22).cls (am_at 22 i), w ∈ am_G := fun w h => am_wl22 w (am_ewA_in h)
  refine am_e_ok hy hw ?_
  by_cases h0 : i < 53
  · exact List.all_eq_true.mp am_be22_0 i (List.mem_range'_1.mpr ⟨by omega, by omega⟩)
  exact am_eb_out (am_len_out (n := 53) (by decide) (by omega))
set_option maxRecDepth 100000 in
theorem am_wl23 : ∀ w ∈ am_ewA (am_nm 23).cls (am_prog 23), w ∈ am_G := by
  have e : am_ewA (am_nm 23).cls (am_prog 23) = [] := rfl
  rw [e]
  exact fun _ h => absurd h List.not_mem_nil
theorem am_be23_0 : (List.range' 0 19).all (am_eb 23) = true := by decide +kernel
theorem am_ok23 (i : Nat) : am_eOk 23 i := by
  have hy : 23 < am_law → am_cP 23 := fun _ => am_cms 23 (by decide)
  have hw : ∀ w ∈ am_ewE (am_nm 23).cls (am_at 23 i), w ∈ am_G := fun w h => am_wl23 w (am_ewA_in h)
  refine am_e_ok hy hw ?_
  by_cases h0 : i < 19
  · exact List.all_eq_true.mp am_be23_0 i (List.mem_range'_1.mpr ⟨by omega, by omega⟩)
  exact am_eb_out (am_len_out (n := 19) (by decide) (by omega))
set_option maxRecDepth 100000 in
theorem am_wl24 : ∀ w ∈ am_ewA (am_nm 24).cls (am_prog 24), w ∈ am_G := by
  have e : am_ewA (am_nm 24).cls (am_prog 24) = [am_u109] := rfl
  rw [e]
  exact List.forall_mem_cons.mpr ⟨am_v109, fun _ h => absurd h List.not_mem_nil⟩
theorem am_be24_0 : (List.range' 0 13).all (am_eb 24) = true := by decide +kernel
theorem am_ok24 (i : Nat) : am_eOk 24 i := by
  have hy : 24 < am_law → am_cP 24 := fun _ => am_cms 24 (by decide)
  have hw : ∀ w ∈ am_ewE (am_nm 24).cls (am_at 24 i), w ∈ am_G := fun w h => am_wl24 w (am_ewA_in h)
  refine am_e_ok hy hw ?_
  by_cases h0 : i < 13
  · exact List.all_eq_true.mp am_be24_0 i (List.mem_range'_1.mpr ⟨by omega, by omega⟩)
  exact am_eb_out (am_len_out (n := 13) (by decide) (by omega))
set_option maxRecDepth 100000 in
theorem am_wl25 : ∀ w ∈ am_ewA (am_nm 25).cls (am_prog 25), w ∈ am_G := by
  have e : am_ewA (am_nm 25).cls (am_prog 25) = [am_u111] := rfl
  rw [e]
  exact List.forall_mem_cons.mpr ⟨am_v111, fun _ h => absurd h List.not_mem_nil⟩
theorem am_be25_0 : (List.range' 0 17).all (am_eb 25) = true := by decide +kernel
theorem am_ok25 (i : Nat) : am_eOk 25 i := by
  have hy : 25 < am_law → am_cP 25 := fun _ => am_cms 25 (by decide)
  have hw : ∀ w ∈ am_ewE (am_nm 25).cls (am_at 25 i), w ∈ am_G := fun w h => am_wl25 w (am_ewA_in h)
  refine am_e_ok hy hw ?_
  by_cases h0 : i < 17
  · exact List.all_eq_true.mp am_be25_0 i (List.mem_range'_1.mpr ⟨by omega, by omega⟩)
  exact am_eb_out (am_len_out (n := 17) (by decide) (by omega))
set_option maxRecDepth 100000 in
theorem am_wl26 : ∀ w ∈ am_ewA (am_nm 26).cls (am_prog 26), w ∈ am_G := by
  have e : am_ewA (am_nm 26).cls (am_prog 26) = [am_u109] := rfl
  rw [e]
  exact List.forall_mem_cons.mpr ⟨am_v109, fun _ h => absurd h List.not_mem_nil⟩
theorem am_be26_0 : (List.range' 0 12).all (am_eb 26) = true := by decide +kernel
theorem am_ok26 (i : Nat) : am_eOk 26 i := by
  have hy : 26 < am_law → am_cP 26 := fun _ => am_cms 26 (by decide)
  have hw : ∀ w ∈ am_ewE (am_nm 26).cls (am_at 26 i), w ∈ am_G := fun w h => am_wl26 w (am_ewA_in h)
  refine am_e_ok hy hw ?_
  by_cases h0 : i < 12
  · exact List.all_eq_true.mp am_be26_0 i (List.mem_range'_1.mpr ⟨by omega, by omega⟩)
  exact am_eb_out (am_len_out (n := 12) (by decide) (by omega))
set_option maxRecDepth 100000 in
theorem am_wl27 : ∀ w ∈ am_ewA (am_nm 27).cls (am_prog 27), w ∈ am_G := by
  have e : am_ewA (am_nm 27).cls (am_prog 27) = [am_u111, am_u111] := rfl
  rw [e]
  exact List.forall_mem_cons.mpr ⟨am_v111, List.forall_mem_cons.mpr ⟨am_v111, fun _ h => absurd h List.not_mem_nil⟩⟩
theorem am_be27_0 : (List.range' 0 9).all (am_eb 27) = true := by decide +kernel
theorem am_ok27 (i : Nat) : am_eOk 27 i := by
  have hy : 27 < am_law → am_cP 27 := fun _ => am_cms 27 (by decide)
  have hw : ∀ w ∈ am_ewE (am_nm 27).cls (am_at 27 i), w ∈ am_G := fun w h => am_wl27 w (am_ewA_in h)
  refine am_e_ok hy hw ?_
  by_cases h0 : i < 9
  · exact List.all_eq_true.mp am_be27_0 i (List.mem_range'_1.mpr ⟨by omega, by omega⟩)
  exact am_eb_out (am_len_out (n := 9) (by decide) (by omega))
set_option maxRecDepth 100000 in
theorem am_wl28 : ∀ w ∈ am_ewA (am_nm 28).cls (am_prog 28), w ∈ am_G := by
  have e : am_ewA (am_nm 28).cls (am_prog 28) = [am_u107] := rfl
  rw [e]
  exact List.forall_mem_cons.mpr ⟨am_v107, fun _ h => absurd h List.not_mem_nil⟩
theorem am_be28_0 : (List.range' 0 13).all (am_eb 28) = true := by decide +kernel
theorem am_ok28 (i : Nat) : am_eOk 28 i := by
  have hy : 28 < am_law → am_cP 28 := fun _ => am_cms 28 (by decide)
  have hw : ∀ w ∈ am_ewE (am_nm 28).cls (am_at 28 i), w ∈ am_G := fun w h => am_wl28 w (am_ewA_in h)
  refine am_e_ok hy hw ?_
  by_cases h0 : i < 13
  · exact List.all_eq_true.mp am_be28_0 i (List.mem_range'_1.mpr ⟨by omega, by omega⟩)
  exact am_eb_out (am_len_out (n := 13) (by decide) (by omega))
set_option maxRecDepth 100000 in
theorem am_wl29 : ∀ w ∈ am_ewA (am_nm 29).cls (am_prog 29), w ∈ am_G := by
  have e : am_ewA (am_nm 29).cls (am_prog 29) = [am_u176, am_u179, am_u180, am_u177, am_u178] := rfl
  rw [e]
  exact List.forall_mem_cons.mpr ⟨am_v176, List.forall_mem_cons.mpr ⟨am_v179, List.forall_mem_cons.mpr ⟨am_v180, List.forall_mem_cons.mpr ⟨am_v177, List.forall_mem_cons.mpr ⟨am_v178, fun _ h => absurd h List.not_mem_nil⟩⟩⟩⟩⟩
theorem am_be29_0 : (List.range' 0 17).all (am_eb 29) = true := by decide +kernel
theorem am_ok29 (i : Nat) : am_eOk 29 i := by
  have hy : 29 < am_law → am_cP 29 := fun _ => am_cms 29 (by decide)
  have hw : ∀ w ∈ am_ewE (am_nm 29).cls (am_at 29 i), w ∈ am_G := fun w h => am_wl29 w (am_ewA_in h)
  refine am_e_ok hy hw ?_
  by_cases h0 : i < 17
  · exact List.all_eq_true.mp am_be29_0 i (List.mem_range'_1.mpr ⟨by omega, by omega⟩)
  exact am_eb_out (am_len_out (n := 17) (by decide) (by omega))
set_option maxRecDepth 100000 in
theorem am_wl30 : ∀ w ∈ am_ewA (am_nm 30).cls (am_prog 30), w ∈ am_G := by
  have e : am_ewA (am_nm 30).cls (am_prog 30) = [am_u179, am_u179, am_u177, am_u39, am_u179, am_u103, am_u179, am_u105, am_u179, am_u177, am_u36, am_u179, am_u114, am_u179, am_u108, am_u179, am_u110, am_u179] := rfl
  rw [e]
  exact List.forall_mem_cons.mpr ⟨am_v179, List.forall_mem_cons.mpr ⟨am_v179, List.forall_mem_cons.mpr ⟨am_v177, List.forall_mem_cons.mpr ⟨am_v39, List.forall_mem_cons.mpr ⟨am_v179, List.forall_mem_cons.mpr ⟨am_v103, List.forall_mem_cons.mpr ⟨am_v179, List.forall_mem_cons.mpr ⟨am_v105, List.forall_mem_cons.mpr ⟨am_v179, List.forall_mem_cons.mpr ⟨am_v177, List.forall_mem_cons.mpr ⟨am_v36, List.forall_mem_cons.mpr ⟨am_v179, List.forall_mem_cons.mpr ⟨am_v114, List.forall_mem_cons.mpr ⟨am_v179, List.forall_mem_cons.mpr ⟨am_v108, List.forall_mem_cons.mpr ⟨am_v179, List.forall_mem_cons.mpr ⟨am_v110, List.forall_mem_cons.mpr ⟨am_v179, fun _ h => absurd h List.not_mem_nil⟩⟩⟩⟩⟩⟩⟩⟩⟩⟩⟩⟩⟩⟩⟩⟩⟩⟩
theorem am_be30_0 : (List.range' 0 64).all (am_eb 30) = true := by decide +kernel
theorem am_be30_1 : (List.range' 64 30).all (am_eb 30) = true := by decide +kernel
theorem am_ok30 (i : Nat) : am_eOk 30 i := by
  have hy : 30 < am_law → am_cP 30 := fun _ => am_cms 30 (by decide)
  have hw : ∀ w ∈ am_ewE (am_nm 30).cls (am_at 30 i), w ∈ am_G := fun w h => am_wl30 w (am_ewA_in h)
  refine am_e_ok hy hw ?_
  by_cases h0 : i < 64
  · exact List.all_eq_true.mp am_be30_0 i (List.mem_range'_1.mpr ⟨by omega, by omega⟩)
  by_cases h1 : i < 94
  · exact List.all_eq_true.mp am_be30_1 i (List.mem_range'_1.mpr ⟨by omega, by omega⟩)
  exact am_eb_out (am_len_out (n := 94) (by decide) (by omega))
set_option maxRecDepth 100000 in
theorem am_wl31 : ∀ w ∈ am_ewA (am_nm 31).cls (am_prog 31), w ∈ am_G := by
  have e : am_ewA (am_nm 31).cls (am_prog 31) = [am_u179, am_u179] := rfl
  rw [e]
  exact List.forall_mem_cons.mpr ⟨am_v179, List.forall_mem_cons.mpr ⟨am_v179, fun _ h => absurd h List.not_mem_nil⟩⟩
theorem am_be31_0 : (List.range' 0 23).all (am_eb 31) = true := by decide +kernel
theorem am_ok31 (i : Nat) : am_eOk 31 i := by
  have hy : 31 < am_law → am_cP 31 := fun _ => am_cms 31 (by decide)
  have hw : ∀ w ∈ am_ewE (am_nm 31).cls (am_at 31 i), w ∈ am_G := fun w h => am_wl31 w (am_ewA_in h)
  refine am_e_ok hy hw ?_
  by_cases h0 : i < 23
  · exact List.all_eq_true.mp am_be31_0 i (List.mem_range'_1.mpr ⟨by omega, by omega⟩)
  exact am_eb_out (am_len_out (n := 23) (by decide) (by omega))
set_option maxRecDepth 100000 in
theorem am_wl32 : ∀ w ∈ am_ewA (am_nm 32).cls (am_prog 32), w ∈ am_G := by
  have e : am_ewA (am_nm 32).cls (am_prog 32) = [] := rfl
  rw [e]
  exact fun _ h => absurd h List.not_mem_nil
theorem am_be32_0 : (List.range' 0 56).all (am_eb 32) = true := by decide +kernel
theorem am_ok32 (i : Nat) : am_eOk 32 i := by
  have hy : 32 < am_law → am_cP 32 := fun _ => am_cms 32 (by decide)
  have hw : ∀ w ∈ am_ewE (am_nm 32).cls (am_at 32 i), w ∈ am_G := fun w h => am_wl32 w (am_ewA_in h)
  refine am_e_ok hy hw ?_
  by_cases h0 : i < 56
  · exact List.all_eq_true.mp am_be32_0 i (List.mem_range'_1.mpr ⟨by omega, by omega⟩)
  exact am_eb_out (am_len_out (n := 56) (by decide) (by omega))
set_option maxRecDepth 100000 in
theorem am_wl33 : ∀ w ∈ am_ewA (am_nm 33).cls (am_prog 33), w ∈ am_G := by
  have e : am_ewA (am_nm 33).cls (am_prog 33) = [am_u533, am_u534, am_u535, am_u536] := rfl
  rw [e]
  exact List.forall_mem_cons.mpr ⟨am_v533, List.forall_mem_cons.mpr ⟨am_v534, List.forall_mem_cons.mpr ⟨am_v535, List.forall_mem_cons.mpr ⟨am_v536, fun _ h => absurd h List.not_mem_nil⟩⟩⟩⟩
theorem am_be33_0 : (List.range' 0 64).all (am_eb 33) = true := by decide +kernel
theorem am_be33_1 : (List.range' 64 53).all (am_eb 33) = true := by decide +kernel
theorem am_ok33 (i : Nat) : am_eOk 33 i := by
  have hy : 33 < am_law → am_cP 33 := fun _ => am_cms 33 (by decide)
  have hw : ∀ w ∈ am_ewE (am_nm 33).cls (am_at 33 i), w ∈ am_G := fun w h => am_wl33 w (am_ewA_in h)
  refine am_e_ok hy hw ?_
  by_cases h0 : i < 64
  · exact List.all_eq_true.mp am_be33_0 i (List.mem_range'_1.mpr ⟨by omega, by omega⟩)
  by_cases h1 : i < 117
  · exact List.all_eq_true.mp am_be33_1 i (List.mem_range'_1.mpr ⟨by omega, by omega⟩)
  exact am_eb_out (am_len_out (n := 117) (by decide) (by omega))
set_option maxRecDepth 100000 in
theorem am_wl34 : ∀ w ∈ am_ewA (am_nm 34).cls (am_prog 34), w ∈ am_G := by
  have e : am_ewA (am_nm 34).cls (am_prog 34) = [am_u323, am_u326, am_u327, am_u324, am_u325] := rfl
  rw [e]
  exact List.forall_mem_cons.mpr ⟨am_v323, List.forall_mem_cons.mpr ⟨am_v326, List.forall_mem_cons.mpr ⟨am_v327, List.forall_mem_cons.mpr ⟨am_v324, List.forall_mem_cons.mpr ⟨am_v325, fun _ h => absurd h List.not_mem_nil⟩⟩⟩⟩⟩
theorem am_be34_0 : (List.range' 0 17).all (am_eb 34) = true := by decide +kernel
theorem am_ok34 (i : Nat) : am_eOk 34 i := by
  have hy : 34 < am_law → am_cP 34 := fun _ => am_cms 34 (by decide)
  have hw : ∀ w ∈ am_ewE (am_nm 34).cls (am_at 34 i), w ∈ am_G := fun w h => am_wl34 w (am_ewA_in h)
  refine am_e_ok hy hw ?_
  by_cases h0 : i < 17
  · exact List.all_eq_true.mp am_be34_0 i (List.mem_range'_1.mpr ⟨by omega, by omega⟩)
  exact am_eb_out (am_len_out (n := 17) (by decide) (by omega))
set_option maxRecDepth 100000 in
theorem am_wl35 : ∀ w ∈ am_ewA (am_nm 35).cls (am_prog 35), w ∈ am_G := by
  have e : am_ewA (am_nm 35).cls (am_prog 35) = [] := rfl
  rw [e]
  exact fun _ h => absurd h List.not_mem_nil
theorem am_be35_0 : (List.range' 0 23).all (am_eb 35) = true := by decide +kernel
theorem am_ok35 (i : Nat) : am_eOk 35 i := by
  have hy : 35 < am_law → am_cP 35 := fun _ => am_cms 35 (by decide)
  have hw : ∀ w ∈ am_ewE (am_nm 35).cls (am_at 35 i), w ∈ am_G := fun w h => am_wl35 w (am_ewA_in h)
  refine am_e_ok hy hw ?_
  by_cases h0 : i < 23
  · exact List.all_eq_true.mp am_be35_0 i (List.mem_range'_1.mpr ⟨by omega, by omega⟩)
  exact am_eb_out (am_len_out (n := 23) (by decide) (by omega))
set_option maxRecDepth 100000 in
theorem am_wl36 : ∀ w ∈ am_ewA (am_nm 36).cls (am_prog 36), w ∈ am_G := by
  have e : am_ewA (am_nm 36).cls (am_prog 36) = [am_u328, am_u328, am_u326, am_u328, am_u328, am_u328, am_u328] := rfl
  rw [e]
  exact List.forall_mem_cons.mpr ⟨am_v328, List.forall_mem_cons.mpr ⟨am_v328, List.forall_mem_cons.mpr ⟨am_v326, List.forall_mem_cons.mpr ⟨am_v328, List.forall_mem_cons.mpr ⟨am_v328, List.forall_mem_cons.mpr ⟨am_v328, List.forall_mem_cons.mpr ⟨am_v328, fun _ h => absurd h List.not_mem_nil⟩⟩⟩⟩⟩⟩⟩
theorem am_be36_0 : (List.range' 0 41).all (am_eb 36) = true := by decide +kernel
theorem am_ok36 (i : Nat) : am_eOk 36 i := by
  have hy : 36 < am_law → am_cP 36 := fun _ => am_cms 36 (by decide)
  have hw : ∀ w ∈ am_ewE (am_nm 36).cls (am_at 36 i), w ∈ am_G := fun w h => am_wl36 w (am_ewA_in h)
  refine am_e_ok hy hw ?_
  by_cases h0 : i < 41
  · exact List.all_eq_true.mp am_be36_0 i (List.mem_range'_1.mpr ⟨by omega, by omega⟩)
  exact am_eb_out (am_len_out (n := 41) (by decide) (by omega))
set_option maxRecDepth 100000 in
theorem am_wl37 : ∀ w ∈ am_ewA (am_nm 37).cls (am_prog 37), w ∈ am_G := by
  have e : am_ewA (am_nm 37).cls (am_prog 37) = [am_u326, am_u326, am_u326, am_u326] := rfl
  rw [e]
  exact List.forall_mem_cons.mpr ⟨am_v326, List.forall_mem_cons.mpr ⟨am_v326, List.forall_mem_cons.mpr ⟨am_v326, List.forall_mem_cons.mpr ⟨am_v326, fun _ h => absurd h List.not_mem_nil⟩⟩⟩⟩
theorem am_be37_0 : (List.range' 0 30).all (am_eb 37) = true := by decide +kernel
theorem am_ok37 (i : Nat) : am_eOk 37 i := by
  have hy : 37 < am_law → am_cP 37 := fun _ => am_cms 37 (by decide)
  have hw : ∀ w ∈ am_ewE (am_nm 37).cls (am_at 37 i), w ∈ am_G := fun w h => am_wl37 w (am_ewA_in h)
  refine am_e_ok hy hw ?_
  by_cases h0 : i < 30
  · exact List.all_eq_true.mp am_be37_0 i (List.mem_range'_1.mpr ⟨by omega, by omega⟩)
  exact am_eb_out (am_len_out (n := 30) (by decide) (by omega))
set_option maxRecDepth 100000 in
theorem am_wl38 : ∀ w ∈ am_ewA (am_nm 38).cls (am_prog 38), w ∈ am_G := by
  have e : am_ewA (am_nm 38).cls (am_prog 38) = [am_u228, am_u229, am_u230, am_u231, am_u240] := rfl
  rw [e]
  exact List.forall_mem_cons.mpr ⟨am_v228, List.forall_mem_cons.mpr ⟨am_v229, List.forall_mem_cons.mpr ⟨am_v230, List.forall_mem_cons.mpr ⟨am_v231, List.forall_mem_cons.mpr ⟨am_v240, fun _ h => absurd h List.not_mem_nil⟩⟩⟩⟩⟩
theorem am_be38_0 : (List.range' 0 18).all (am_eb 38) = true := by decide +kernel
theorem am_ok38 (i : Nat) : am_eOk 38 i := by
  have hy : 38 < am_law → am_cP 38 := fun _ => am_cms 38 (by decide)
  have hw : ∀ w ∈ am_ewE (am_nm 38).cls (am_at 38 i), w ∈ am_G := fun w h => am_wl38 w (am_ewA_in h)
  refine am_e_ok hy hw ?_
  by_cases h0 : i < 18
  · exact List.all_eq_true.mp am_be38_0 i (List.mem_range'_1.mpr ⟨by omega, by omega⟩)
  exact am_eb_out (am_len_out (n := 18) (by decide) (by omega))
set_option maxRecDepth 100000 in
theorem am_wl39 : ∀ w ∈ am_ewA (am_nm 39).cls (am_prog 39), w ∈ am_G := by
  have e : am_ewA (am_nm 39).cls (am_prog 39) = [am_u232, am_u232, am_u229, am_u229, am_u232, am_u230, am_u232, am_u231, am_u232, am_u232, am_u232] := rfl
  rw [e]
  exact List.forall_mem_cons.mpr ⟨am_v232, List.forall_mem_cons.mpr ⟨am_v232, List.forall_mem_cons.mpr ⟨am_v229, List.forall_mem_cons.mpr ⟨am_v229, List.forall_mem_cons.mpr ⟨am_v232, List.forall_mem_cons.mpr ⟨am_v230, List.forall_mem_cons.mpr ⟨am_v232, List.forall_mem_cons.mpr ⟨am_v231, List.forall_mem_cons.mpr ⟨am_v232, List.forall_mem_cons.mpr ⟨am_v232, List.forall_mem_cons.mpr ⟨am_v232, fun _ h => absurd h List.not_mem_nil⟩⟩⟩⟩⟩⟩⟩⟩⟩⟩⟩
theorem am_be39_0 : (List.range' 0 35).all (am_eb 39) = true := by decide +kernel
theorem am_ok39 (i : Nat) : am_eOk 39 i := by
  have hy : 39 < am_law → am_cP 39 := fun _ => am_cms 39 (by decide)
  have hw : ∀ w ∈ am_ewE (am_nm 39).cls (am_at 39 i), w ∈ am_G := fun w h => am_wl39 w (am_ewA_in h)
  refine am_e_ok hy hw ?_
  by_cases h0 : i < 35
  · exact List.all_eq_true.mp am_be39_0 i (List.mem_range'_1.mpr ⟨by omega, by omega⟩)
  exact am_eb_out (am_len_out (n := 35) (by decide) (by omega))
set_option maxRecDepth 100000 in
theorem am_wl40 : ∀ w ∈ am_ewA (am_nm 40).cls (am_prog 40), w ∈ am_G := by
  have e : am_ewA (am_nm 40).cls (am_prog 40) = [] := rfl
  rw [e]
  exact fun _ h => absurd h List.not_mem_nil
theorem am_be40_0 : (List.range' 0 19).all (am_eb 40) = true := by decide +kernel
theorem am_ok40 (i : Nat) : am_eOk 40 i := by
  have hy : 40 < am_law → am_cP 40 := fun _ => am_cms 40 (by decide)
  have hw : ∀ w ∈ am_ewE (am_nm 40).cls (am_at 40 i), w ∈ am_G := fun w h => am_wl40 w (am_ewA_in h)
  refine am_e_ok hy hw ?_
  by_cases h0 : i < 19
  · exact List.all_eq_true.mp am_be40_0 i (List.mem_range'_1.mpr ⟨by omega, by omega⟩)
  exact am_eb_out (am_len_out (n := 19) (by decide) (by omega))
set_option maxRecDepth 100000 in
theorem am_wl41 : ∀ w ∈ am_ewA (am_nm 41).cls (am_prog 41), w ∈ am_G := by
  have e : am_ewA (am_nm 41).cls (am_prog 41) = [] := rfl
  rw [e]
  exact fun _ h => absurd h List.not_mem_nil
theorem am_be41_0 : (List.range' 0 11).all (am_eb 41) = true := by decide +kernel
theorem am_ok41 (i : Nat) : am_eOk 41 i := by
  have hy : 41 < am_law → am_cP 41 := fun _ => am_cms 41 (by decide)
  have hw : ∀ w ∈ am_ewE (am_nm 41).cls (am_at 41 i), w ∈ am_G := fun w h => am_wl41 w (am_ewA_in h)
  refine am_e_ok hy hw ?_
  by_cases h0 : i < 11
  · exact List.all_eq_true.mp am_be41_0 i (List.mem_range'_1.mpr ⟨by omega, by omega⟩)
  exact am_eb_out (am_len_out (n := 11) (by decide) (by omega))
set_option maxRecDepth 100000 in
theorem am_wl42 : ∀ w ∈ am_ewA (am_nm 42).cls (am_prog 42), w ∈ am_G := by
  have e : am_ewA (am_nm 42).cls (am_prog 42) = [am_u747] := rfl
  rw [e]
  exact List.forall_mem_cons.mpr ⟨am_v747, fun _ h => absurd h List.not_mem_nil⟩
theorem am_be42_0 : (List.range' 0 31).all (am_eb 42) = true := by decide +kernel
theorem am_ok42 (i : Nat) : am_eOk 42 i := by
  have hy : 42 < am_law → am_cP 42 := fun _ => am_cms 42 (by decide)
  have hw : ∀ w ∈ am_ewE (am_nm 42).cls (am_at 42 i), w ∈ am_G := fun w h => am_wl42 w (am_ewA_in h)
  refine am_e_ok hy hw ?_
  by_cases h0 : i < 31
  · exact List.all_eq_true.mp am_be42_0 i (List.mem_range'_1.mpr ⟨by omega, by omega⟩)
  exact am_eb_out (am_len_out (n := 31) (by decide) (by omega))
