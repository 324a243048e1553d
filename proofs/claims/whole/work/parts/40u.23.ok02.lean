/-! rows of the methods 90 .. 128 -/
set_option maxRecDepth 100000 in
theorem am_wl90 : ∀ w ∈ am_ewA (am_nm 90).cls (am_prog 90), w ∈ am_G := by
  have e : am_ewA (am_nm 90).cls (am_prog 90) = [am_u1236, am_u1236, am_u1197, am_u1236, am_u1238, am_u1236, am_u1239, am_u1236, am_u1197, am_u1236, am_u1244] := rfl
  rw [e]
  exact List.forall_mem_cons.mpr ⟨am_v1236, List.forall_mem_cons.mpr ⟨am_v1236, List.forall_mem_cons.mpr ⟨am_v1197, List.forall_mem_cons.mpr ⟨am_v1236, List.forall_mem_cons.mpr ⟨am_v1238, List.forall_mem_cons.mpr ⟨am_v1236, List.forall_mem_cons.mpr ⟨am_v1239, List.forall_mem_cons.mpr ⟨am_v1236, List.forall_mem_cons.mpr ⟨am_v1197, List.forall_mem_cons.mpr ⟨am_v1236, List.forall_mem_cons.mpr ⟨am_v1244, fun _ h => absurd h List.not_mem_nil⟩⟩⟩⟩⟩⟩⟩⟩⟩⟩⟩
theorem am_be90_0 : (List.range' 0 56).all (am_eb 90) = true := by decide +kernel
theorem am_ok90 (i : Nat) : am_eOk 90 i := by
  have hy : 90 < am_law → am_cP 90 := fun _ => am_cms 90 (by decide)
  have hw : ∀ w ∈ am_ewE (am_nm 90).cls (am_at 90 i), w ∈ am_G := fun w h => am_wl90 w (am_ewA_in h)
  refine am_e_ok hy hw ?_
  by_cases h0 : i < 56
  · exact List.all_eq_true.mp am_be90_0 i (List.mem_range'_1.mpr ⟨by omega, by omega⟩)
  exact am_eb_out (am_len_out (n := 56) (by decide) (by omega))
set_option maxRecDepth 100000 in
theorem am_wl91 : ∀ w ∈ am_ewA (am_nm 91).cls (am_prog 91), w ∈ am_G := by
  have e : am_ewA (am_nm 91).cls (am_prog 91) = [am_u1197, am_u1197] := rfl
  rw [e]
  exact List.forall_mem_cons.mpr ⟨am_v1197, List.forall_mem_cons.mpr ⟨am_v1197, fun _ h => absurd h List.not_mem_nil⟩⟩
theorem am_be91_0 : (List.range' 0 24).all (am_eb 91) = true := by decide +kernel
theorem am_ok91 (i : Nat) : am_eOk 91 i := by
  have hy : 91 < am_law → am_cP 91 := fun _ => am_cms 91 (by decide)
  have hw : ∀ w ∈ am_ewE (am_nm 91).cls (am_at 91 i), w ∈ am_G := fun w h => am_wl91 w (am_ewA_in h)
  refine am_e_ok hy hw ?_
  by_cases h0 : i < 24
  · exact List.all_eq_true.mp am_be91_0 i (List.mem_range'_1.mpr ⟨by omega, by omega⟩)
  exact am_eb_out (am_len_out (n := 24) (by decide) (by omega))
set_option maxRecDepth 100000 in
theorem am_wl92 : ∀ w ∈ am_ewA (am_nm 92).cls (am_prog 92), w ∈ am_G := by
  have e : am_ewA (am_nm 92).cls (am_prog 92) = [am_u1197, am_u1197, am_u1197] := rfl
  rw [e]
  exact List.forall_mem_cons.mpr ⟨am_v1197, List.forall_mem_cons.mpr ⟨am_v1197, List.forall_mem_cons.mpr ⟨am_v1197, fun _ h => absurd h List.not_mem_nil⟩⟩⟩
theorem am_be92_0 : (List.range' 0 23).all (am_eb 92) = true := by decide +kernel
theorem am_ok92 (i : Nat) : am_eOk 92 i := by
  have hy : 92 < am_law → am_cP 92 := fun _ => am_cms 92 (by decide)
  have hw : ∀ w ∈ am_ewE (am_nm 92).cls (am_at 92 i), w ∈ am_G := fun w h => am_wl92 w (am_ewA_in h)
  refine am_e_ok hy hw ?_
  by_cases h0 : i < 23
  · exact List.all_eq_true.mp am_be92_0 i (List.mem_range'_1.mpr ⟨by omega, by omega⟩)
  exact am_eb_out (am_len_out (n := 23) (by decide) (by omega))
set_option maxRecDepth 100000 in
theorem am_wl93 : ∀ w ∈ am_ewA (am_nm 93).cls (am_prog 93), w ∈ am_G := by
  have e : am_ewA (am_nm 93).cls (am_prog 93) = [am_u1245, am_u1197, am_u1197, am_u1245] := rfl
  rw [e]
  exact List.forall_mem_cons.mpr ⟨am_v1245, List.forall_mem_cons.mpr ⟨am_v1197, List.forall_mem_cons.mpr ⟨am_v1197, List.forall_mem_cons.mpr ⟨am_v1245, fun _ h => absurd h List.not_mem_nil⟩⟩⟩⟩
theorem am_be93_0 : (List.range' 0 47).all (am_eb 93) = true := by decide +kernel
theorem am_ok93 (i : Nat) : am_eOk 93 i := by
  have hy : 93 < am_law → am_cP 93 := fun _ => am_cms 93 (by decide)
  have hw : ∀ w ∈ am_ewE (am_nm 93).cls (am_at 93 i), w ∈ am_G := fun w h => am_wl93 w (am_ewA_in h)
  refine am_e_ok hy hw ?_
  by_cases h0 : i < 47
  · exact List.all_eq_true.mp am_be93_0 i (List.mem_range'_1.mpr ⟨by omega, by omega⟩)
  exact am_eb_out (am_len_out (n := 47) (by decide) (by omega))
set_option maxRecDepth 100000 in
theorem am_wl94 : ∀ w ∈ am_ewA (am_nm 94).cls (am_prog 94), w ∈ am_G := by
  have e : am_ewA (am_nm 94).cls (am_prog 94) = [] := rfl
  rw [e]
  exact fun _ h => absurd h List.not_mem_nil
theorem am_be94_0 : (List.range' 0 20).all (am_eb 94) = true := by decide +kernel
theorem am_ok94 (i : Nat) : am_eOk 94 i := by
  have hy : 94 < am_law → am_cP 94 := fun _ => am_cms 94 (by decide)
  have hw : ∀ w ∈ am_ewE (am_nm 94).cls (am_at 94 i), w ∈ am_G := fun w h => am_wl94 w (am_ewA_in h)
  refine am_e_ok hy hw ?_
  by_cases h0 : i < 20
  · exact List.all_eq_true.mp am_be94_0 i (List.mem_range'_1.mpr ⟨by omega, by omega⟩)
  exact am_eb_out (am_len_out (n := 20) (by decide) (by omega))
set_option maxRecDepth 100000 in
theorem am_wl95 : ∀ w ∈ am_ewA (am_nm 95).cls (am_prog 95), w ∈ am_G := by
  have e : am_ewA (am_nm 95).cls (am_prog 95) = [] := rfl
  rw [e]
  exact fun _ h => absurd h List.not_mem_nil
theorem am_be95_0 : (List.range' 0 16).all (am_eb 95) = true := by decide +kernel
theorem am_ok95 (i : Nat) : am_eOk 95 i := by
  have hy : 95 < am_law → am_cP 95 := fun _ => am_cms 95 (by decide)
  have hw : ∀ w ∈ am_ewE (am_nm 95).cls (am_at 95 i), w ∈ am_G := fun w h => am_wl95 w (am_ewA_in h)
  refine am_e_ok hy hw ?_
  by_cases h0 : i < 16
  · exact List.all_eq_true.mp am_be95_0 i (List.mem_range'_1.mpr ⟨by omega, by omega⟩)
  exact am_eb_out (am_len_out (n := 16) (by decide) (by omega))
set_option maxRecDepth 100000 in
theorem am_wl96 : ∀ w ∈ am_ewA (am_nm 96).cls (am_prog 96), w ∈ am_G := by
  have e : am_ewA (am_nm 96).cls (am_prog 96) = [am_u1249, am_u1248] := rfl
  rw [e]
  exact List.forall_mem_cons.mpr ⟨am_v1249, List.forall_mem_cons.mpr ⟨am_v1248, fun _ h => absurd h List.not_mem_nil⟩⟩
theorem am_be96_0 : (List.range' 0 17).all (am_eb 96) = true := by decide +kernel
theorem am_ok96 (i : Nat) : am_eOk 96 i := by
  have hy : 96 < am_law → am_cP 96 := fun _ => am_cms 96 (by decide)
  have hw : ∀ w ∈ am_ewE (am_nm 96).cls (am_at 96 i), w ∈ am_G := fun w h => am_wl96 w (am_ewA_in h)
  refine am_e_ok hy hw ?_
  by_cases h0 : i < 17
  · exact List.all_eq_true.mp am_be96_0 i (List.mem_range'_1.mpr ⟨by omega, by omega⟩)
  exact am_eb_out (am_len_out (n := 17) (by decide) (by omega))
set_option maxRecDepth 100000 in
theorem am_wl97 : ∀ w ∈ am_ewA (am_nm 97).cls (am_prog 97), w ∈ am_G := by
  have e : am_ewA (am_nm 97).cls (am_prog 97) = [am_u1840, am_u1197, am_u1248, am_u1197, am_u1248, am_u1840] := rfl
  rw [e]
  exact List.forall_mem_cons.mpr ⟨am_v1840, List.forall_mem_cons.mpr ⟨am_v1197, List.forall_mem_cons.mpr ⟨am_v1248, List.forall_mem_cons.mpr ⟨am_v1197, List.forall_mem_cons.mpr ⟨am_v1248, List.forall_mem_cons.mpr ⟨am_v1840, fun _ h => absurd h List.not_mem_nil⟩⟩⟩⟩⟩⟩
theorem am_be97_0 : (List.range' 0 64).all (am_eb 97) = true := by decide +kernel
theorem am_be97_1 : (List.range' 64 4).all (am_eb 97) = true := by decide +kernel
theorem am_ok97 (i : Nat) : am_eOk 97 i := by
  have hy : 97 < am_law → am_cP 97 := fun _ => am_cms 97 (by decide)
  have hw : ∀ w ∈ am_ewE (am_nm 97).cls (am_at 97 i), w ∈ am_G := fun w h => am_wl97 w (am_ewA_in h)
  refine am_e_ok hy hw ?_
  by_cases h0 : i < 64
  · exact List.all_eq_true.mp am_be97_0 i (List.mem_range'_1.mpr ⟨by omega, by omega⟩)
  by_cases h1 : i < 68
  · exact List.all_eq_true.mp am_be97_1 i (List.mem_range'_1.mpr ⟨by omega, by omega⟩)
  exact am_eb_out (am_len_out (n := 68) (by decide) (by omega))
set_option maxRecDepth 100000 in
theorem am_wl98 : ∀ w ∈ am_ewA (am_nm 98).cls (am_prog 98), w ∈ am_G := by
  have e : am_ewA (am_nm 98).cls (am_prog 98) = [am_u1197, am_u1197, am_u1197, am_u1197, am_u1197, am_u1197, am_u1197, am_u1197, am_u1197, am_u1197, am_u1200] := rfl
  rw [e]
  exact List.forall_mem_cons.mpr ⟨am_v1197, List.forall_mem_cons.mpr ⟨am_v1197, List.forall_mem_cons.mpr ⟨am_v1197, List.forall_mem_cons.mpr ⟨am_v1197, List.forall_mem_cons.mpr ⟨am_v1197, List.forall_mem_cons.mpr ⟨am_v1197, List.forall_mem_cons.mpr ⟨am_v1197, List.forall_mem_cons.mpr ⟨am_v1197, List.forall_mem_cons.mpr ⟨am_v1197, List.forall_mem_cons.mpr ⟨am_v1197, List.forall_mem_cons.mpr ⟨am_v1200, fun _ h => absurd h List.not_mem_nil⟩⟩⟩⟩⟩⟩⟩⟩⟩⟩⟩
theorem am_be98_0 : (List.range' 0 57).all (am_eb 98) = true := by decide +kernel
theorem am_ok98 (i : Nat) : am_eOk 98 i := by
  have hy : 98 < am_law → am_cP 98 := fun _ => am_cms 98 (by decide)
  have hw : ∀ w ∈ am_ewE (am_nm 98).cls (am_at 98 i), w ∈ am_G := fun w h => am_wl98 w (am_ewA_in h)
  refine am_e_ok hy hw ?_
  by_cases h0 : i < 57
  · exact List.all_eq_true.mp am_be98_0 i (List.mem_range'_1.mpr ⟨by omega, by omega⟩)
  exact am_eb_out (am_len_out (n := 57) (by decide) (by omega))
set_option maxRecDepth 100000 in
theorem am_wl99 : ∀ w ∈ am_ewA (am_nm 99).cls (am_prog 99), w ∈ am_G := by
  have e : am_ewA (am_nm 99).cls (am_prog 99) = [am_u605, am_u606, am_u606, am_u607] := rfl
  rw [e]
  exact List.forall_mem_cons.mpr ⟨am_v605, List.forall_mem_cons.mpr ⟨am_v606, List.forall_mem_cons.mpr ⟨am_v606, List.forall_mem_cons.mpr ⟨am_v607, fun _ h => absurd h List.not_mem_nil⟩⟩⟩⟩
theorem am_be99_0 : (List.range' 0 42).all (am_eb 99) = true := by decide +kernel
theorem am_ok99 (i : Nat) : am_eOk 99 i := by
  have hy : 99 < am_law → am_cP 99 := fun _ => am_cms 99 (by decide)
  have hw : ∀ w ∈ am_ewE (am_nm 99).cls (am_at 99 i), w ∈ am_G := fun w h => am_wl99 w (am_ewA_in h)
  refine am_e_ok hy hw ?_
  by_cases h0 : i < 42
  · exact List.all_eq_true.mp am_be99_0 i (List.mem_range'_1.mpr ⟨by omega, by omega⟩)
  exact am_eb_out (am_len_out (n := 42) (by decide) (by omega))
set_option maxRecDepth 100000 in
theorem am_wl100 : ∀ w ∈ am_ewA (am_nm 100).cls (am_prog 100), w ∈ am_G := by
  have e : am_ewA (am_nm 100).cls (am_prog 100) = [am_u694, am_u1890] := rfl
  rw [e]
  exact List.forall_mem_cons.mpr ⟨am_v694, List.forall_mem_cons.mpr ⟨am_v1890, fun _ h => absurd h List.not_mem_nil⟩⟩
theorem am_be100_0 : (List.range' 0 7).all (am_eb 100) = true := by decide +kernel
theorem am_ok100 (i : Nat) : am_eOk 100 i := by
  have hy : 100 < am_law → am_cP 100 := fun _ => am_cms 100 (by decide)
  have hw : ∀ w ∈ am_ewE (am_nm 100).cls (am_at 100 i), w ∈ am_G := fun w h => am_wl100 w (am_ewA_in h)
  refine am_e_ok hy hw ?_
  by_cases h0 : i < 7
  · exact List.all_eq_true.mp am_be100_0 i (List.mem_range'_1.mpr ⟨by omega, by omega⟩)
  exact am_eb_out (am_len_out (n := 7) (by decide) (by omega))
set_option maxRecDepth 100000 in
theorem am_wl101 : ∀ w ∈ am_ewA (am_nm 101).cls (am_prog 101), w ∈ am_G := by
  have e : am_ewA (am_nm 101).cls (am_prog 101) = [am_u694, am_u1890] := rfl
  rw [e]
  exact List.forall_mem_cons.mpr ⟨am_v694, List.forall_mem_cons.mpr ⟨am_v1890, fun _ h => absurd h List.not_mem_nil⟩⟩
theorem am_be101_0 : (List.range' 0 10).all (am_eb 101) = true := by decide +kernel
theorem am_ok101 (i : Nat) : am_eOk 101 i := by
  have hy : 101 < am_law → am_cP 101 := fun _ => am_cms 101 (by decide)
  have hw : ∀ w ∈ am_ewE (am_nm 101).cls (am_at 101 i), w ∈ am_G := fun w h => am_wl101 w (am_ewA_in h)
  refine am_e_ok hy hw ?_
  by_cases h0 : i < 10
  · exact List.all_eq_true.mp am_be101_0 i (List.mem_range'_1.mpr ⟨by omega, by omega⟩)
  exact am_eb_out (am_len_out (n := 10) (by decide) (by omega))
set_option maxRecDepth 100000 in
theorem am_wl102 : ∀ w ∈ am_ewA (am_nm 102).cls (am_prog 102), w ∈ am_G := by
  have e : am_ewA (am_nm 102).cls (am_prog 102) = [] := rfl
  rw [e]
  exact fun _ h => absurd h List.not_mem_nil
theorem am_be102_0 : (List.range' 0 10).all (am_eb 102) = true := by decide +kernel
theorem am_ok102 (i : Nat) : am_eOk 102 i := by
  have hy : 102 < am_law → am_cP 102 := fun _ => am_cms 102 (by decide)
  have hw : ∀ w ∈ am_ewE (am_nm 102).cls (am_at 102 i), w ∈ am_G := fun w h => am_wl102 w (am_ewA_in h)
  refine am_e_ok hy hw ?_
  by_cases h0 : i < 10
  · exact List.all_eq_true.mp am_be102_0 i (List.mem_range'_1.mpr ⟨by omega, by omega⟩)
  exact am_eb_out (am_len_out (n := 10) (by decide) (by omega))
set_option maxRecDepth 100000 in
theorem am_wl103 : ∀ w ∈ am_ewA (am_nm 103).cls (am_prog 103), w ∈ am_G := by
  have e : am_ewA (am_nm 103).cls (am_prog 103) = [] := rfl
  rw [e]
  exact fun _ h => absurd h List.not_mem_nil
theorem am_be103_0 : (List.range' 0 20).all (am_eb 103) = true := by decide +kernel
theorem am_ok103 (i : Nat) : am_eOk 103 i := by
  have hy : 103 < am_law → am_cP 103 := fun _ => am_cms 103 (by decide)
  have hw : ∀ w ∈ am_ewE (am_nm 103).cls (am_at 103 i), w ∈ am_G := fun w h => am_wl103 w (am_ewA_in h)
  refine am_e_ok hy hw ?_
  by_cases h0 : i < 20
  · exact List.all_eq_true.mp am_be103_0 i (List.mem_range'_1.mpr ⟨by omega, by omega⟩)
  exact am_eb_out (am_len_out (n := 20) (by decide) (by omega))
set_option maxRecDepth 100000 in
theorem am_wl104 : ∀ w ∈ am_ewA (am_nm 104).cls (am_prog 104), w ∈ am_G := by
  have e : am_ewA (am_nm 104).cls (am_prog 104) = [] := rfl
  rw [e]
  exact fun _ h => absurd h List.not_mem_nil
theorem am_be104_0 : (List.range' 0 14).all (am_eb 104) = true := by decide +kernel
theorem am_ok104 (i : Nat) : am_eOk 104 i := by
  have hy : 104 < am_law → am_cP 104 := fun _ => am_cms 104 (by decide)
  have hw : ∀ w ∈ am_ewE (am_nm 104).cls (am_at 104 i), w ∈ am_G := fun w h => am_wl104 w (am_ewA_in h)
  refine am_e_ok hy hw ?_
  by_cases h0 : i < 14
  · exact List.all_eq_true.mp am_be104_0 i (List.mem_range'_1.mpr ⟨by omega, by omega⟩)
  exact am_eb_out (am_len_out (n := 14) (by decide) (by omega))
set_option maxRecDepth 100000 in
theorem am_wl105 : ∀ w ∈ am_ewA (am_nm 105).cls (am_prog 105), w ∈ am_G := by
  have e : am_ewA (am_nm 105).cls (am_prog 105) = [am_u269, am_u270, am_u271, am_u278, am_u272, am_u279, am_u280, am_u281, am_u274, am_u275, am_u276, am_u277] := rfl
  rw [e]
  exact List.forall_mem_cons.mpr ⟨am_v269, List.forall_mem_cons.mpr ⟨am_v270, List.forall_mem_cons.mpr ⟨am_v271, List.forall_mem_cons.mpr ⟨am_v278, List.forall_mem_cons.mpr ⟨am_v272, List.forall_mem_cons.mpr ⟨am_v279, List.forall_mem_cons.mpr ⟨am_v280, List.forall_mem_cons.mpr ⟨am_v281, List.forall_mem_cons.mpr ⟨am_v274, List.forall_mem_cons.mpr ⟨am_v275, List.forall_mem_cons.mpr ⟨am_v276, List.forall_mem_cons.mpr ⟨am_v277, fun _ h => absurd h List.not_mem_nil⟩⟩⟩⟩⟩⟩⟩⟩⟩⟩⟩⟩
theorem am_be105_0 : (List.range' 0 33).all (am_eb 105) = true := by decide +kernel
theorem am_ok105 (i : Nat) : am_eOk 105 i := by
  have hy : 105 < am_law → am_cP 105 := fun _ => am_cms 105 (by decide)
  have hw : ∀ w ∈ am_ewE (am_nm 105).cls (am_at 105 i), w ∈ am_G := fun w h => am_wl105 w (am_ewA_in h)
  refine am_e_ok hy hw ?_
  by_cases h0 : i < 33
  · exact List.all_eq_true.mp am_be105_0 i (List.mem_range'_1.mpr ⟨by omega, by omega⟩)
  exact am_eb_out (am_len_out (n := 33) (by decide) (by omega))
set_option maxRecDepth 100000 in
theorem am_wl106 : ∀ w ∈ am_ewA (am_nm 106).cls (am_prog 106), w ∈ am_G := by
  have e : am_ewA (am_nm 106).cls (am_prog 106) = [am_u274, am_u47, am_u280, am_u996, am_u1000, am_u280, am_u281, am_u1004, am_u1005, am_u281, am_u281] := rfl
  rw [e]
  exact List.forall_mem_cons.mpr ⟨am_v274, List.forall_mem_cons.mpr ⟨am_v47, List.forall_mem_cons.mpr ⟨am_v280, List.forall_mem_cons.mpr ⟨am_v996, List.forall_mem_cons.mpr ⟨am_v1000, List.forall_mem_cons.mpr ⟨am_v280, List.forall_mem_cons.mpr ⟨am_v281, List.forall_mem_cons.mpr ⟨am_v1004, List.forall_mem_cons.mpr ⟨am_v1005, List.forall_mem_cons.mpr ⟨am_v281, List.forall_mem_cons.mpr ⟨am_v281, fun _ h => absurd h List.not_mem_nil⟩⟩⟩⟩⟩⟩⟩⟩⟩⟩⟩
theorem am_be106_0 : (List.range' 0 64).all (am_eb 106) = true := by decide +kernel
theorem am_be106_1 : (List.range' 64 36).all (am_eb 106) = true := by decide +kernel
theorem am_ok106 (i : Nat) : am_eOk 106 i := by
  have hy : 106 < am_law → am_cP 106 := fun _ => am_cms 106 (by decide)
  have hw : ∀ w ∈ am_ewE (am_nm 106).cls (am_at 106 i), w ∈ am_G := fun w h => am_wl106 w (am_ewA_in h)
  refine am_e_ok hy hw ?_
  by_cases h0 : i < 64
  · exact List.all_eq_true.mp am_be106_0 i (List.mem_range'_1.mpr ⟨by omega, by omega⟩)
  by_cases h1 : i < 100
  · exact List.all_eq_true.mp am_be106_1 i (List.mem_range'_1.mpr ⟨by omega, by omega⟩)
  exact am_eb_out (am_len_out (n := 100) (by decide) (by omega))
set_option maxRecDepth 100000 in
theorem am_wl107 : ∀ w ∈ am_ewA (am_nm 107).cls (am_prog 107), w ∈ am_G := by
  have e : am_ewA (am_nm 107).cls (am_prog 107) = [am_u442, am_u402] := rfl
  rw [e]
  exact List.forall_mem_cons.mpr ⟨am_v442, List.forall_mem_cons.mpr ⟨am_v402, fun _ h => absurd h List.not_mem_nil⟩⟩
theorem am_be107_0 : (List.range' 0 13).all (am_eb 107) = true := by decide +kernel
theorem am_ok107 (i : Nat) : am_eOk 107 i := by
  have hy : 107 < am_law → am_cP 107 := fun _ => am_cms 107 (by decide)
  have hw : ∀ w ∈ am_ewE (am_nm 107).cls (am_at 107 i), w ∈ am_G := fun w h => am_wl107 w (am_ewA_in h)
  refine am_e_ok hy hw ?_
  by_cases h0 : i < 13
  · exact List.all_eq_true.mp am_be107_0 i (List.mem_range'_1.mpr ⟨by omega, by omega⟩)
  exact am_eb_out (am_len_out (n := 13) (by decide) (by omega))
set_option maxRecDepth 100000 in
theorem am_wl108 : ∀ w ∈ am_ewA (am_nm 108).cls (am_prog 108), w ∈ am_G := by
  have e : am_ewA (am_nm 108).cls (am_prog 108) = [am_u422] := rfl
  rw [e]
  exact List.forall_mem_cons.mpr ⟨am_v422, fun _ h => absurd h List.not_mem_nil⟩
theorem am_be108_0 : (List.range' 0 11).all (am_eb 108) = true := by decide +kernel
theorem am_ok108 (i : Nat) : am_eOk 108 i := by
  have hy : 108 < am_law → am_cP 108 := fun _ => am_cms 108 (by decide)
  have hw : ∀ w ∈ am_ewE (am_nm 108).cls (am_at 108 i), w ∈ am_G := fun w h => am_wl108 w (am_ewA_in h)
  refine am_e_ok hy hw ?_
  by_cases h0 : i < 11
  · exact List.all_eq_true.mp am_be108_0 i (List.mem_range'_1.mpr ⟨by omega, by omega⟩)
  exact am_eb_out (am_len_out (n := 11) (by decide) (by omega))
set_option maxRecDepth 100000 in
theorem am_wl109 : ∀ w ∈ am_ewA (am_nm 109).cls (am_prog 109), w ∈ am_G := by
  have e : am_ewA (am_nm 109).cls (am_prog 109) = [am_u402, am_u402, am_u37, am_u37] := rfl
  rw [e]
  exact List.forall_mem_cons.mpr ⟨am_v402, List.forall_mem_cons.mpr ⟨am_v402, List.forall_mem_cons.mpr ⟨am_v37, List.forall_mem_cons.mpr ⟨am_v37, fun _ h => absurd h List.not_mem_nil⟩⟩⟩⟩
theorem am_be109_0 : (List.range' 0 35).all (am_eb 109) = true := by decide +kernel
theorem am_ok109 (i : Nat) : am_eOk 109 i := by
  have hy : 109 < am_law → am_cP 109 := fun _ => am_cms 109 (by decide)
  have hw : ∀ w ∈ am_ewE (am_nm 109).cls (am_at 109 i), w ∈ am_G := fun w h => am_wl109 w (am_ewA_in h)
  refine am_e_ok hy hw ?_
  by_cases h0 : i < 35
  · exact List.all_eq_true.mp am_be109_0 i (List.mem_range'_1.mpr ⟨by omega, by omega⟩)
  exact am_eb_out (am_len_out (n := 35) (by decide) (by omega))
set_option maxRecDepth 100000 in
theorem am_wl110 : ∀ w ∈ am_ewA (am_nm 110).cls (am_prog 110), w ∈ am_G := by
  have e : am_ewA (am_nm 110).cls (am_prog 110) = [am_u402, am_u35] := rfl
  rw [e]
  exact List.forall_mem_cons.mpr ⟨am_v402, List.forall_mem_cons.mpr ⟨am_v35, fun _ h => absurd h List.not_mem_nil⟩⟩
theorem am_be110_0 : (List.range' 0 11).all (am_eb 110) = true := by decide +kernel
theorem am_ok110 (i : Nat) : am_eOk 110 i := by
  have hy : 110 < am_law → am_cP 110 := fun _ => am_cms 110 (by decide)
  have hw : ∀ w ∈ am_ewE (am_nm 110).cls (am_at 110 i), w ∈ am_G := fun w h => am_wl110 w (am_ewA_in h)
  refine am_e_ok hy hw ?_
  by_cases h0 : i < 11
  · exact List.all_eq_true.mp am_be110_0 i (List.mem_range'_1.mpr ⟨by omega, by omega⟩)
  exact am_eb_out (am_len_out (n := 11) (by decide) (by omega))
set_option maxRecDepth 100000 in
theorem am_wl111 : ∀ w ∈ am_ewA (am_nm 111).cls (am_prog 111), w ∈ am_G := by
  have e : am_ewA (am_nm 111).cls (am_prog 111) = [am_u402, am_u37] := rfl
  rw [e]
  exact List.forall_mem_cons.mpr ⟨am_v402, List.forall_mem_cons.mpr ⟨am_v37, fun _ h => absurd h List.not_mem_nil⟩⟩
theorem am_be111_0 : (List.range' 0 11).all (am_eb 111) = true := by decide +kernel
theorem am_ok111 (i : Nat) : am_eOk 111 i := by
  have hy : 111 < am_law → am_cP 111 := fun _ => am_cms 111 (by decide)
  have hw : ∀ w ∈ am_ewE (am_nm 111).cls (am_at 111 i), w ∈ am_G := fun w h => am_wl111 w (am_ewA_in h)
  refine am_e_ok hy hw ?_
  by_cases h0 : i < 11
  · exact List.all_eq_true.mp am_be111_0 i (List.mem_range'_1.mpr ⟨by omega, by omega⟩)
  exact am_eb_out (am_len_out (n := 11) (by decide) (by omega))
set_option maxRecDepth 100000 in
theorem am_wl112 : ∀ w ∈ am_ewA (am_nm 112).cls (am_prog 112), w ∈ am_G := by
  have e : am_ewA (am_nm 112).cls (am_prog 112) = [am_u442, am_u38] := rfl
  rw [e]
  exact List.forall_mem_cons.mpr ⟨am_v442, List.forall_mem_cons.mpr ⟨am_v38, fun _ h => absurd h List.not_mem_nil⟩⟩
theorem am_be112_0 : (List.range' 0 11).all (am_eb 112) = true := by decide +kernel
theorem am_ok112 (i : Nat) : am_eOk 112 i := by
  have hy : 112 < am_law → am_cP 112 := fun _ => am_cms 112 (by decide)
  have hw : ∀ w ∈ am_ewE (am_nm 112).cls (am_at 112 i), w ∈ am_G := fun w h => am_wl112 w (am_ewA_in h)
  refine am_e_ok hy hw ?_
  by_cases h0 : i < 11
  · exact List.all_eq_true.mp am_be112_0 i (List.mem_range'_1.mpr ⟨by omega, by omega⟩)
  exact am_eb_out (am_len_out (n := 11) (by decide) (by omega))
set_option maxRecDepth 100000 in
theorem am_wl113 : ∀ w ∈ am_ewA (am_nm 113).cls (am_prog 113), w ∈ am_G := by
  have e : am_ewA (am_nm 113).cls (am_prog 113) = [am_u56, am_u1030, am_u41] := rfl
  rw [e]
  exact List.forall_mem_cons.mpr ⟨am_v56, List.forall_mem_cons.mpr ⟨am_v1030, List.forall_mem_cons.mpr ⟨am_v41, fun _ h => absurd h List.not_mem_nil⟩⟩⟩
theorem am_be113_0 : (List.range' 0 33).all (am_eb 113) = true := by decide +kernel
theorem am_ok113 (i : Nat) : am_eOk 113 i := by
  have hy : 113 < am_law → am_cP 113 := fun _ => am_cms 113 (by decide)
  have hw : ∀ w ∈ am_ewE (am_nm 113).cls (am_at 113 i), w ∈ am_G := fun w h => am_wl113 w (am_ewA_in h)
  refine am_e_ok hy hw ?_
  by_cases h0 : i < 33
  · exact List.all_eq_true.mp am_be113_0 i (List.mem_range'_1.mpr ⟨by omega, by omega⟩)
  exact am_eb_out (am_len_out (n := 33) (by decide) (by omega))
set_option maxRecDepth 100000 in
theorem am_wl114 : ∀ w ∈ am_ewA (am_nm 114).cls (am_prog 114), w ∈ am_G := by
  have e : am_ewA (am_nm 114).cls (am_prog 114) = [am_u476, am_u102] := rfl
  rw [e]
  exact List.forall_mem_cons.mpr ⟨am_v476, List.forall_mem_cons.mpr ⟨am_v102, fun _ h => absurd h List.not_mem_nil⟩⟩
theorem am_be114_0 : (List.range' 0 13).all (am_eb 114) = true := by decide +kernel
theorem am_ok114 (i : Nat) : am_eOk 114 i := by
  have hy : 114 < am_law → am_cP 114 := fun _ => am_cms 114 (by decide)
  have hw : ∀ w ∈ am_ewE (am_nm 114).cls (am_at 114 i), w ∈ am_G := fun w h => am_wl114 w (am_ewA_in h)
  refine am_e_ok hy hw ?_
  by_cases h0 : i < 13
  · exact List.all_eq_true.mp am_be114_0 i (List.mem_range'_1.mpr ⟨by omega, by omega⟩)
  exact am_eb_out (am_len_out (n := 13) (by decide) (by omega))
set_option maxRecDepth 100000 in
theorem am_wl115 : ∀ w ∈ am_ewA (am_nm 115).cls (am_prog 115), w ∈ am_G := by
  have e : am_ewA (am_nm 115).cls (am_prog 115) = [am_u476, am_u104] := rfl
  rw [e]
  exact List.forall_mem_cons.mpr ⟨am_v476, List.forall_mem_cons.mpr ⟨am_v104, fun _ h => absurd h List.not_mem_nil⟩⟩
theorem am_be115_0 : (List.range' 0 13).all (am_eb 115) = true := by decide +kernel
theorem am_ok115 (i : Nat) : am_eOk 115 i := by
  have hy : 115 < am_law → am_cP 115 := fun _ => am_cms 115 (by decide)
  have hw : ∀ w ∈ am_ewE (am_nm 115).cls (am_at 115 i), w ∈ am_G := fun w h => am_wl115 w (am_ewA_in h)
  refine am_e_ok hy hw ?_
  by_cases h0 : i < 13
  · exact List.all_eq_true.mp am_be115_0 i (List.mem_range'_1.mpr ⟨by omega, by omega⟩)
  exact am_eb_out (am_len_out (n := 13) (by decide) (by omega))
set_option maxRecDepth 100000 in
theorem am_wl116 : ∀ w ∈ am_ewA (am_nm 116).cls (am_prog 116), w ∈ am_G := by
  have e : am_ewA (am_nm 116).cls (am_prog 116) = [am_u476, am_u106] := rfl
  rw [e]
  exact List.forall_mem_cons.mpr ⟨am_v476, List.forall_mem_cons.mpr ⟨am_v106, fun _ h => absurd h List.not_mem_nil⟩⟩
theorem am_be116_0 : (List.range' 0 13).all (am_eb 116) = true := by decide +kernel
theorem am_ok116 (i : Nat) : am_eOk 116 i := by
  have hy : 116 < am_law → am_cP 116 := fun _ => am_cms 116 (by decide)
  have hw : ∀ w ∈ am_ewE (am_nm 116).cls (am_at 116 i), w ∈ am_G := fun w h => am_wl116 w (am_ewA_in h)
  refine am_e_ok hy hw ?_
  by_cases h0 : i < 13
  · exact List.all_eq_true.mp am_be116_0 i (List.mem_range'_1.mpr ⟨by omega, by omega⟩)
  exact am_eb_out (am_len_out (n := 13) (by decide) (by omega))
set_option maxRecDepth 100000 in
theorem am_wl117 : ∀ w ∈ am_ewA (am_nm 117).cls (am_prog 117), w ∈ am_G := by
  have e : am_ewA (am_nm 117).cls (am_prog 117) = [am_u476, am_u107] := rfl
  rw [e]
  exact List.forall_mem_cons.mpr ⟨am_v476, List.forall_mem_cons.mpr ⟨am_v107, fun _ h => absurd h List.not_mem_nil⟩⟩
theorem am_be117_0 : (List.range' 0 18).all (am_eb 117) = true := by decide +kernel
theorem am_ok117 (i : Nat) : am_eOk 117 i := by
  have hy : 117 < am_law → am_cP 117 := fun _ => am_cms 117 (by decide)
  have hw : ∀ w ∈ am_ewE (am_nm 117).cls (am_at 117 i), w ∈ am_G := fun w h => am_wl117 w (am_ewA_in h)
  refine am_e_ok hy hw ?_
  by_cases h0 : i < 18
  · exact List.all_eq_true.mp am_be117_0 i (List.mem_range'_1.mpr ⟨by omega, by omega⟩)
  exact am_eb_out (am_len_out (n := 18) (by decide) (by omega))
set_option maxRecDepth 100000 in
theorem am_wl118 : ∀ w ∈ am_ewA (am_nm 118).cls (am_prog 118), w ∈ am_G := by
  have e : am_ewA (am_nm 118).cls (am_prog 118) = [am_u450, am_u454] := rfl
  rw [e]
  exact List.forall_mem_cons.mpr ⟨am_v450, List.forall_mem_cons.mpr ⟨am_v454, fun _ h => absurd h List.not_mem_nil⟩⟩
theorem am_be118_0 : (List.range' 0 14).all (am_eb 118) = true := by decide +kernel
theorem am_ok118 (i : Nat) : am_eOk 118 i := by
  have hy : 118 < am_law → am_cP 118 := fun _ => am_cms 118 (by decide)
  have hw : ∀ w ∈ am_ewE (am_nm 118).cls (am_at 118 i), w ∈ am_G := fun w h => am_wl118 w (am_ewA_in h)
  refine am_e_ok hy hw ?_
  by_cases h0 : i < 14
  · exact List.all_eq_true.mp am_be118_0 i (List.mem_range'_1.mpr ⟨by omega, by omega⟩)
  exact am_eb_out (am_len_out (n := 14) (by decide) (by omega))
set_option maxRecDepth 100000 in
theorem am_wl119 : ∀ w ∈ am_ewA (am_nm 119).cls (am_prog 119), w ∈ am_G := by
  have e : am_ewA (am_nm 119).cls (am_prog 119) = [am_u476, am_u102, am_u106, am_u106, am_u102, am_u483] := rfl
  rw [e]
  exact List.forall_mem_cons.mpr ⟨am_v476, List.forall_mem_cons.mpr ⟨am_v102, List.forall_mem_cons.mpr ⟨am_v106, List.forall_mem_cons.mpr ⟨am_v106, List.forall_mem_cons.mpr ⟨am_v102, List.forall_mem_cons.mpr ⟨am_v483, fun _ h => absurd h List.not_mem_nil⟩⟩⟩⟩⟩⟩
theorem am_be119_0 : (List.range' 0 35).all (am_eb 119) = true := by decide +kernel
theorem am_ok119 (i : Nat) : am_eOk 119 i := by
  have hy : 119 < am_law → am_cP 119 := fun _ => am_cms 119 (by decide)
  have hw : ∀ w ∈ am_ewE (am_nm 119).cls (am_at 119 i), w ∈ am_G := fun w h => am_wl119 w (am_ewA_in h)
  refine am_e_ok hy hw ?_
  by_cases h0 : i < 35
  · exact List.all_eq_true.mp am_be119_0 i (List.mem_range'_1.mpr ⟨by omega, by omega⟩)
  exact am_eb_out (am_len_out (n := 35) (by decide) (by omega))
set_option maxRecDepth 100000 in
theorem am_wl120 : ∀ w ∈ am_ewA (am_nm 120).cls (am_prog 120), w ∈ am_G := by
  have e : am_ewA (am_nm 120).cls (am_prog 120) = [am_u476, am_u104] := rfl
  rw [e]
  exact List.forall_mem_cons.mpr ⟨am_v476, List.forall_mem_cons.mpr ⟨am_v104, fun _ h => absurd h List.not_mem_nil⟩⟩
theorem am_be120_0 : (List.range' 0 22).all (am_eb 120) = true := by decide +kernel
theorem am_ok120 (i : Nat) : am_eOk 120 i := by
  have hy : 120 < am_law → am_cP 120 := fun _ => am_cms 120 (by decide)
  have hw : ∀ w ∈ am_ewE (am_nm 120).cls (am_at 120 i), w ∈ am_G := fun w h => am_wl120 w (am_ewA_in h)
  refine am_e_ok hy hw ?_
  by_cases h0 : i < 22
  · exact List.all_eq_true.mp am_be120_0 i (List.mem_range'_1.mpr ⟨by omega, by omega⟩)
  exact am_eb_out (am_len_out (n := 22) (by decide) (by omega))
set_option maxRecDepth 100000 in
theorem am_wl121 : ∀ w ∈ am_ewA (am_nm 121).cls (am_prog 121), w ∈ am_G := by
  have e : am_ewA (am_nm 121).cls (am_prog 121) = [am_u476, am_u107] := rfl
  rw [e]
  exact List.forall_mem_cons.mpr ⟨am_v476, List.forall_mem_cons.mpr ⟨am_v107, fun _ h => absurd h List.not_mem_nil⟩⟩
theorem am_be121_0 : (List.range' 0 16).all (am_eb 121) = true := by decide +kernel
theorem am_ok121 (i : Nat) : am_eOk 121 i := by
  have hy : 121 < am_law → am_cP 121 := fun _ => am_cms 121 (by decide)
  have hw : ∀ w ∈ am_ewE (am_nm 121).cls (am_at 121 i), w ∈ am_G := fun w h => am_wl121 w (am_ewA_in h)
  refine am_e_ok hy hw ?_
  by_cases h0 : i < 16
  · exact List.all_eq_true.mp am_be121_0 i (List.mem_range'_1.mpr ⟨by omega, by omega⟩)
  exact am_eb_out (am_len_out (n := 16) (by decide) (by omega))
set_option maxRecDepth 100000 in
theorem am_wl122 : ∀ w ∈ am_ewA (am_nm 122).cls (am_prog 122), w ∈ am_G := by
  have e : am_ewA (am_nm 122).cls (am_prog 122) = [am_u450] := rfl
  rw [e]
  exact List.forall_mem_cons.mpr ⟨am_v450, fun _ h => absurd h List.not_mem_nil⟩
theorem am_be122_0 : (List.range' 0 22).all (am_eb 122) = true := by decide +kernel
theorem am_ok122 (i : Nat) : am_eOk 122 i := by
  have hy : 122 < am_law → am_cP 122 := fun _ => am_cms 122 (by decide)
  have hw : ∀ w ∈ am_ewE (am_nm 122).cls (am_at 122 i), w ∈ am_G := fun w h => am_wl122 w (am_ewA_in h)
  refine am_e_ok hy hw ?_
  by_cases h0 : i < 22
  · exact List.all_eq_true.mp am_be122_0 i (List.mem_range'_1.mpr ⟨by omega, by omega⟩)
  exact am_eb_out (am_len_out (n := 22) (by decide) (by omega))
set_option maxRecDepth 100000 in
theorem am_wl123 : ∀ w ∈ am_ewA (am_nm 123).cls (am_prog 123), w ∈ am_G := by
  have e : am_ewA (am_nm 123).cls (am_prog 123) = [am_u145, am_u180, am_u180, am_u180, am_u179, am_u180, am_u527, am_u530, am_u180] := rfl
  rw [e]
  exact List.forall_mem_cons.mpr ⟨am_v145, List.forall_mem_cons.mpr ⟨am_v180, List.forall_mem_cons.mpr ⟨am_v180, List.forall_mem_cons.mpr ⟨am_v180, List.forall_mem_cons.mpr ⟨am_v179, List.forall_mem_cons.mpr ⟨am_v180, List.forall_mem_cons.mpr ⟨am_v527, List.forall_mem_cons.mpr ⟨am_v530, List.forall_mem_cons.mpr ⟨am_v180, fun _ h => absurd h List.not_mem_nil⟩⟩⟩⟩⟩⟩⟩⟩⟩
theorem am_be123_0 : (List.range' 0 64).all (am_eb 123) = true := by decide +kernel
theorem am_be123_1 : (List.range' 64 64).all (am_eb 123) = true := by decide +kernel
theorem am_be123_2 : (List.range' 128 21).all (am_eb 123) = true := by decide +kernel
theorem am_ok123 (i : Nat) : am_eOk 123 i := by
  have hy : 123 < am_law → am_cP 123 := fun _ => am_cms 123 (by decide)
  have hw : ∀ w ∈ am_ewE (am_nm 123).cls (am_at 123 i), w ∈ am_G := fun w h => am_wl123 w (am_ewA_in h)
  refine am_e_ok hy hw ?_
  by_cases h0 : i < 64
  · exact List.all_eq_true.mp am_be123_0 i (List.mem_range'_1.mpr ⟨by omega, by omega⟩)
  by_cases h1 : i < 128
  · exact List.all_eq_true.mp am_be123_1 i (List.mem_range'_1.mpr ⟨by omega, by omega⟩)
  by_cases h2 : i < 149
  · exact List.all_eq_true.mp am_be123_2 i (List.mem_range'_1.mpr ⟨by omega, by omega⟩)
  exact am_eb_out (am_len_out (n := 149) (by decide) (by omega))
set_option maxRecDepth 100000 in
theorem am_wl124 : ∀ w ∈ am_ewA (am_nm 124).cls (am_prog 124), w ∈ am_G := by
  have e : am_ewA (am_nm 124).cls (am_prog 124) = [am_u328, am_u324, am_u326, am_u1127, am_u326] := rfl
  rw [e]
  exact List.forall_mem_cons.mpr ⟨am_v328, List.forall_mem_cons.mpr ⟨am_v324, List.forall_mem_cons.mpr ⟨am_v326, List.forall_mem_cons.mpr ⟨am_v1127, List.forall_mem_cons.mpr ⟨am_v326, fun _ h => absurd h List.not_mem_nil⟩⟩⟩⟩⟩
theorem am_be124_0 : (List.range' 0 45).all (am_eb 124) = true := by decide +kernel
theorem am_ok124 (i : Nat) : am_eOk 124 i := by
  have hy : 124 < am_law → am_cP 124 := fun _ => am_cms 124 (by decide)
  have hw : ∀ w ∈ am_ewE (am_nm 124).cls (am_at 124 i), w ∈ am_G := fun w h => am_wl124 w (am_ewA_in h)
  refine am_e_ok hy hw ?_
  by_cases h0 : i < 45
  · exact List.all_eq_true.mp am_be124_0 i (List.mem_range'_1.mpr ⟨by omega, by omega⟩)
  exact am_eb_out (am_len_out (n := 45) (by decide) (by omega))
set_option maxRecDepth 100000 in
theorem am_wl125 : ∀ w ∈ am_ewA (am_nm 125).cls (am_prog 125), w ∈ am_G := by
  have e : am_ewA (am_nm 125).cls (am_prog 125) = [am_u328, am_u1100, am_u326, am_u326, am_u326, am_u326, am_u1109, am_u1109] := rfl
  rw [e]
  exact List.forall_mem_cons.mpr ⟨am_v328, List.forall_mem_cons.mpr ⟨am_v1100, List.forall_mem_cons.mpr ⟨am_v326, List.forall_mem_cons.mpr ⟨am_v326, List.forall_mem_cons.mpr ⟨am_v326, List.forall_mem_cons.mpr ⟨am_v326, List.forall_mem_cons.mpr ⟨am_v1109, List.forall_mem_cons.mpr ⟨am_v1109, fun _ h => absurd h List.not_mem_nil⟩⟩⟩⟩⟩⟩⟩⟩
theorem am_be125_0 : (List.range' 0 64).all (am_eb 125) = true := by decide +kernel
theorem am_be125_1 : (List.range' 64 11).all (am_eb 125) = true := by decide +kernel
theorem am_ok125 (i : Nat) : am_eOk 125 i := by
  have hy : 125 < am_law → am_cP 125 := fun _ => am_cms 125 (by decide)
  have hw : ∀ w ∈ am_ewE (am_nm 125).cls (am_at 125 i), w ∈ am_G := fun w h => am_wl125 w (am_ewA_in h)
  refine am_e_ok hy hw ?_
  by_cases h0 : i < 64
  · exact List.all_eq_true.mp am_be125_0 i (List.mem_range'_1.mpr ⟨by omega, by omega⟩)
  by_cases h1 : i < 75
  · exact List.all_eq_true.mp am_be125_1 i (List.mem_range'_1.mpr ⟨by omega, by omega⟩)
  exact am_eb_out (am_len_out (n := 75) (by decide) (by omega))
set_option maxRecDepth 100000 in
theorem am_wl126 : ∀ w ∈ am_ewA (am_nm 126).cls (am_prog 126), w ∈ am_G := by
  have e : am_ewA (am_nm 126).cls (am_prog 126) = [am_u807, am_u233, am_u233, am_u815] := rfl
  rw [e]
  exact List.forall_mem_cons.mpr ⟨am_v807, List.forall_mem_cons.mpr ⟨am_v233, List.forall_mem_cons.mpr ⟨am_v233, List.forall_mem_cons.mpr ⟨am_v815, fun _ h => absurd h List.not_mem_nil⟩⟩⟩⟩
theorem am_be126_0 : (List.range' 0 16).all (am_eb 126) = true := by decide +kernel
theorem am_ok126 (i : Nat) : am_eOk 126 i := by
  have hy : 126 < am_law → am_cP 126 := fun _ => am_cms 126 (by decide)
  have hw : ∀ w ∈ am_ewE (am_nm 126).cls (am_at 126 i), w ∈ am_G := fun w h => am_wl126 w (am_ewA_in h)
  refine am_e_ok hy hw ?_
  by_cases h0 : i < 16
  · exact List.all_eq_true.mp am_be126_0 i (List.mem_range'_1.mpr ⟨by omega, by omega⟩)
  exact am_eb_out (am_len_out (n := 16) (by decide) (by omega))
set_option maxRecDepth 100000 in
theorem am_wl127 : ∀ w ∈ am_ewA (am_nm 127).cls (am_prog 127), w ∈ am_G := by
  have e : am_ewA (am_nm 127).cls (am_prog 127) = [am_u807, am_u815, am_u844, am_u844, am_u815, am_u235, am_u844, am_u864, am_u233, am_u233] := rfl
  rw [e]
  exact List.forall_mem_cons.mpr ⟨am_v807, List.forall_mem_cons.mpr ⟨am_v815, List.forall_mem_cons.mpr ⟨am_v844, List.forall_mem_cons.mpr ⟨am_v844, List.forall_mem_cons.mpr ⟨am_v815, List.forall_mem_cons.mpr ⟨am_v235, List.forall_mem_cons.mpr ⟨am_v844, List.forall_mem_cons.mpr ⟨am_v864, List.forall_mem_cons.mpr ⟨am_v233, List.forall_mem_cons.mpr ⟨am_v233, fun _ h => absurd h List.not_mem_nil⟩⟩⟩⟩⟩⟩⟩⟩⟩⟩
theorem am_be127_0 : (List.range' 0 35).all (am_eb 127) = true := by decide +kernel
theorem am_ok127 (i : Nat) : am_eOk 127 i := by
  have hy : 127 < am_law → am_cP 127 := fun _ => am_cms 127 (by decide)
  have hw : ∀ w ∈ am_ewE (am_nm 127).cls (am_at 127 i), w ∈ am_G := fun w h => am_wl127 w (am_ewA_in h)
  refine am_e_ok hy hw ?_
  by_cases h0 : i < 35
  · exact List.all_eq_true.mp am_be127_0 i (List.mem_range'_1.mpr ⟨by omega, by omega⟩)
  exact am_eb_out (am_len_out (n := 35) (by decide) (by omega))
set_option maxRecDepth 100000 in
theorem am_wl128 : ∀ w ∈ am_ewA (am_nm 128).cls (am_prog 128), w ∈ am_G := by
  have e : am_ewA (am_nm 128).cls (am_prog 128) = [am_u807, am_u844, am_u815, am_u235, am_u844, am_u848, am_u233, am_u233, am_u852, am_u815, am_u235, am_u848, am_u233, am_u233, am_u815, am_u815, am_u233, am_u233, am_u836, am_u807, am_u233, am_u233, am_u815, am_u233, am_u233, am_u840, am_u235, am_u848] := rfl
  rw [e]
  exact List.forall_mem_cons.mpr ⟨am_v807, List.forall_mem_cons.mpr ⟨am_v844, List.forall_mem_cons.mpr ⟨am_v815, List.forall_mem_cons.mpr ⟨am_v235, List.forall_mem_cons.mpr ⟨am_v844, List.forall_mem_cons.mpr ⟨am_v848, List.forall_mem_cons.mpr ⟨am_v233, List.forall_mem_cons.mpr ⟨am_v233, List.forall_mem_cons.mpr ⟨am_v852, List.forall_mem_cons.mpr ⟨am_v815, List.forall_mem_cons.mpr ⟨am_v235, List.forall_mem_cons.mpr ⟨am_v848, List.forall_mem_cons.mpr ⟨am_v233, List.forall_mem_cons.mpr ⟨am_v233, List.forall_mem_cons.mpr ⟨am_v815, List.forall_mem_cons.mpr ⟨am_v815, List.forall_mem_cons.mpr ⟨am_v233, List.forall_mem_cons.mpr ⟨am_v233, List.forall_mem_cons.mpr ⟨am_v836, List.forall_mem_cons.mpr ⟨am_v807, List.forall_mem_cons.mpr ⟨am_v233, List.forall_mem_cons.mpr ⟨am_v233, List.forall_mem_cons.mpr ⟨am_v815, List.forall_mem_cons.mpr ⟨am_v233, List.forall_mem_cons.mpr ⟨am_v233, List.forall_mem_cons.mpr ⟨am_v840, List.forall_mem_cons.mpr ⟨am_v235, List.forall_mem_cons.mpr ⟨am_v848, fun _ h => absurd h List.not_mem_nil⟩⟩⟩⟩⟩⟩⟩⟩⟩⟩⟩⟩⟩⟩⟩⟩⟩⟩⟩⟩⟩⟩⟩⟩⟩⟩⟩⟩
theorem am_be128_0 : (List.range' 0 64).all (am_eb 128) = true := by decide +kernel
theorem am_be128_1 : (List.range' 64 64).all (am_eb 128) = true := by decide +kernel
theorem am_be128_2 : (List.range' 128 8).all (am_eb 128) = true := by decide +kernel
theorem am_ok128 (i : Nat) : am_eOk 128 i := by
  have hy : 128 < am_law → am_cP 128 := fun _ => am_cms 128 (by decide)
  have hw : ∀ w ∈ am_ewE (am_nm 128).cls (am_at 128 i), w ∈ am_G := fun w h => am_wl128 w (am_ewA_in h)
  refine am_e_ok hy hw ?_
  by_cases h0 : i < 64
  · exact List.all_eq_true.mp am_be128_0 i (List.mem_range'_1.mpr ⟨by omega, by omega⟩)
  by_cases h1 : i < 128
  · exact List.all_eq_true.mp am_be128_1 i (List.mem_range'_1.mpr ⟨by omega, by omega⟩)
  by_cases h2 : i < 136
  · exact List.all_eq_true.mp am_be128_2 i (List.mem_range'_1.mpr ⟨by omega, by omega⟩)
  exact am_eb_out (am_len_out (n := 136) (by decide) (by omega))
