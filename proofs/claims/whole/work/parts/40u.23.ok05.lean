/-! rows of the methods 196 .. 230 -/
set_option maxRecDepth 100000 in
theorem am_wl196 : ∀ w ∈ am_ewA (am_nm 196).cls (am_prog 196), w ∈ am_G := by
  have e : am_ewA (am_nm 196).cls (am_prog 196) = [am_u1660, am_u1197] := rfl
  rw [e]
  exact List.forall_mem_cons.mpr ⟨am_v1660, List.forall_mem_cons.mpr ⟨am_v1197, fun _ h => absurd h List.not_mem_nil⟩⟩
theorem am_be196_0 : (List.range' 0 16).all (am_eb 196) = true := by decide +kernel
theorem am_ok196 (i : Nat) : am_eOk 196 i := by
  have hy : 196 < am_law → am_cP 196 := fun _ => am_cms 196 (by decide)
  have hw : ∀ w ∈ am_ewE (am_nm 196).cls (am_at 196 i), w ∈ am_G := fun w h => am_wl196 w (am_ewA_in h)
  refine am_e_ok hy hw ?_
  by_cases h0 : i < 16
  · exact List.all_eq_true.mp am_be196_0 i (List.mem_range'_1.mpr ⟨by omega, by omega⟩)
  exact am_eb_out (am_len_out (n := 16) (by decide) (by omega))
set_option maxRecDepth 100000 in
theorem am_wl197 : ∀ w ∈ am_ewA (am_nm 197).cls (am_prog 197), w ∈ am_G := by
  have e : am_ewA (am_nm 197).cls (am_prog 197) = [am_u1573, am_u1238, am_u1621, am_u1640] := rfl
  rw [e]
  exact List.forall_mem_cons.mpr ⟨am_v1573, List.forall_mem_cons.mpr ⟨am_v1238, List.forall_mem_cons.mpr ⟨am_v1621, List.forall_mem_cons.mpr ⟨am_v1640, fun _ h => absurd h List.not_mem_nil⟩⟩⟩⟩
theorem am_be197_0 : (List.range' 0 19).all (am_eb 197) = true := by decide +kernel
theorem am_ok197 (i : Nat) : am_eOk 197 i := by
  have hy : 197 < am_law → am_cP 197 := fun _ => am_cms 197 (by decide)
  have hw : ∀ w ∈ am_ewE (am_nm 197).cls (am_at 197 i), w ∈ am_G := fun w h => am_wl197 w (am_ewA_in h)
  refine am_e_ok hy hw ?_
  by_cases h0 : i < 19
  · exact List.all_eq_true.mp am_be197_0 i (List.mem_range'_1.mpr ⟨by omega, by omega⟩)
  exact am_eb_out (am_len_out (n := 19) (by decide) (by omega))
set_option maxRecDepth 100000 in
theorem am_wl198 : ∀ w ∈ am_ewA (am_nm 198).cls (am_prog 198), w ∈ am_G := by
  have e : am_ewA (am_nm 198).cls (am_prog 198) = [am_u1372, am_u1197, am_u1197] := rfl
  rw [e]
  exact List.forall_mem_cons.mpr ⟨am_v1372, List.forall_mem_cons.mpr ⟨am_v1197, List.forall_mem_cons.mpr ⟨am_v1197, fun _ h => absurd h List.not_mem_nil⟩⟩⟩
theorem am_be198_0 : (List.range' 0 27).all (am_eb 198) = true := by decide +kernel
theorem am_ok198 (i : Nat) : am_eOk 198 i := by
  have hy : 198 < am_law → am_cP 198 := fun _ => am_cms 198 (by decide)
  have hw : ∀ w ∈ am_ewE (am_nm 198).cls (am_at 198 i), w ∈ am_G := fun w h => am_wl198 w (am_ewA_in h)
  refine am_e_ok hy hw ?_
  by_cases h0 : i < 27
  · exact List.all_eq_true.mp am_be198_0 i (List.mem_range'_1.mpr ⟨by omega, by omega⟩)
  exact am_eb_out (am_len_out (n := 27) (by decide) (by omega))
set_option maxRecDepth 100000 in
theorem am_wl199 : ∀ w ∈ am_ewA (am_nm 199).cls (am_prog 199), w ∈ am_G := by
  have e : am_ewA (am_nm 199).cls (am_prog 199) = [am_u1197, am_u1372, am_u1197, am_u1197, am_u1197, am_u1197, am_u1197, am_u1197, am_u1197] := rfl
  rw [e]
  exact List.forall_mem_cons.mpr ⟨am_v1197, List.forall_mem_cons.mpr ⟨am_v1372, List.forall_mem_cons.mpr ⟨am_v1197, List.forall_mem_cons.mpr ⟨am_v1197, List.forall_mem_cons.mpr ⟨am_v1197, List.forall_mem_cons.mpr ⟨am_v1197, List.forall_mem_cons.mpr ⟨am_v1197, List.forall_mem_cons.mpr ⟨am_v1197, List.forall_mem_cons.mpr ⟨am_v1197, fun _ h => absurd h List.not_mem_nil⟩⟩⟩⟩⟩⟩⟩⟩⟩
theorem am_be199_0 : (List.range' 0 64).all (am_eb 199) = true := by decide +kernel
theorem am_be199_1 : (List.range' 64 2).all (am_eb 199) = true := by decide +kernel
theorem am_ok199 (i : Nat) : am_eOk 199 i := by
  have hy : 199 < am_law → am_cP 199 := fun _ => am_cms 199 (by decide)
  have hw : ∀ w ∈ am_ewE (am_nm 199).cls (am_at 199 i), w ∈ am_G := fun w h => am_wl199 w (am_ewA_in h)
  refine am_e_ok hy hw ?_
  by_cases h0 : i < 64
  · exact List.all_eq_true.mp am_be199_0 i (List.mem_range'_1.mpr ⟨by omega, by omega⟩)
  by_cases h1 : i < 66
  · exact List.all_eq_true.mp am_be199_1 i (List.mem_range'_1.mpr ⟨by omega, by omega⟩)
  exact am_eb_out (am_len_out (n := 66) (by decide) (by omega))
set_option maxRecDepth 100000 in
theorem am_wl200 : ∀ w ∈ am_ewA (am_nm 200).cls (am_prog 200), w ∈ am_G := by
  have e : am_ewA (am_nm 200).cls (am_prog 200) = [am_u1197, am_u1376, am_u1788, am_u1197, am_u1197, am_u1376, am_u1197] := rfl
  rw [e]
  exact List.forall_mem_cons.mpr ⟨am_v1197, List.forall_mem_cons.mpr ⟨am_v1376, List.forall_mem_cons.mpr ⟨am_v1788, List.forall_mem_cons.mpr ⟨am_v1197, List.forall_mem_cons.mpr ⟨am_v1197, List.forall_mem_cons.mpr ⟨am_v1376, List.forall_mem_cons.mpr ⟨am_v1197, fun _ h => absurd h List.not_mem_nil⟩⟩⟩⟩⟩⟩⟩
theorem am_be200_0 : (List.range' 0 64).all (am_eb 200) = true := by decide +kernel
theorem am_be200_1 : (List.range' 64 6).all (am_eb 200) = true := by decide +kernel
theorem am_ok200 (i : Nat) : am_eOk 200 i := by
  have hy : 200 < am_law → am_cP 200 := fun _ => am_cms 200 (by decide)
  have hw : ∀ w ∈ am_ewE (am_nm 200).cls (am_at 200 i), w ∈ am_G := fun w h => am_wl200 w (am_ewA_in h)
  refine am_e_ok hy hw ?_
  by_cases h0 : i < 64
  · exact List.all_eq_true.mp am_be200_0 i (List.mem_range'_1.mpr ⟨by omega, by omega⟩)
  by_cases h1 : i < 70
  · exact List.all_eq_true.mp am_be200_1 i (List.mem_range'_1.mpr ⟨by omega, by omega⟩)
  exact am_eb_out (am_len_out (n := 70) (by decide) (by omega))
set_option maxRecDepth 100000 in
theorem am_wl201 : ∀ w ∈ am_ewA (am_nm 201).cls (am_prog 201), w ∈ am_G := by
  have e : am_ewA (am_nm 201).cls (am_prog 201) = [am_u1197, am_u1376, am_u1197, am_u1704] := rfl
  rw [e]
  exact List.forall_mem_cons.mpr ⟨am_v1197, List.forall_mem_cons.mpr ⟨am_v1376, List.forall_mem_cons.mpr ⟨am_v1197, List.forall_mem_cons.mpr ⟨am_v1704, fun _ h => absurd h List.not_mem_nil⟩⟩⟩⟩
theorem am_be201_0 : (List.range' 0 32).all (am_eb 201) = true := by decide +kernel
theorem am_ok201 (i : Nat) : am_eOk 201 i := by
  have hy : 201 < am_law → am_cP 201 := fun _ => am_cms 201 (by decide)
  have hw : ∀ w ∈ am_ewE (am_nm 201).cls (am_at 201 i), w ∈ am_G := fun w h => am_wl201 w (am_ewA_in h)
  refine am_e_ok hy hw ?_
  by_cases h0 : i < 32
  · exact List.all_eq_true.mp am_be201_0 i (List.mem_range'_1.mpr ⟨by omega, by omega⟩)
  exact am_eb_out (am_len_out (n := 32) (by decide) (by omega))
set_option maxRecDepth 100000 in
theorem am_wl202 : ∀ w ∈ am_ewA (am_nm 202).cls (am_prog 202), w ∈ am_G := by
  have e : am_ewA (am_nm 202).cls (am_prog 202) = [am_u1660, am_u1387, am_u1637, am_u1365, am_u1637, am_u1365, am_u1824, am_u1825, am_u1796, am_u1829, am_u1832, am_u1836, am_u1841, am_u1249, am_u1840, am_u1798] := rfl
  rw [e]
  exact List.forall_mem_cons.mpr ⟨am_v1660, List.forall_mem_cons.mpr ⟨am_v1387, List.forall_mem_cons.mpr ⟨am_v1637, List.forall_mem_cons.mpr ⟨am_v1365, List.forall_mem_cons.mpr ⟨am_v1637, List.forall_mem_cons.mpr ⟨am_v1365, List.forall_mem_cons.mpr ⟨am_v1824, List.forall_mem_cons.mpr ⟨am_v1825, List.forall_mem_cons.mpr ⟨am_v1796, List.forall_mem_cons.mpr ⟨am_v1829, List.forall_mem_cons.mpr ⟨am_v1832, List.forall_mem_cons.mpr ⟨am_v1836, List.forall_mem_cons.mpr ⟨am_v1841, List.forall_mem_cons.mpr ⟨am_v1249, List.forall_mem_cons.mpr ⟨am_v1840, List.forall_mem_cons.mpr ⟨am_v1798, fun _ h => absurd h List.not_mem_nil⟩⟩⟩⟩⟩⟩⟩⟩⟩⟩⟩⟩⟩⟩⟩⟩
theorem am_be202_0 : (List.range' 0 64).all (am_eb 202) = true := by decide +kernel
theorem am_be202_1 : (List.range' 64 32).all (am_eb 202) = true := by decide +kernel
theorem am_ok202 (i : Nat) : am_eOk 202 i := by
  have hy : 202 < am_law → am_cP 202 := fun _ => am_cms 202 (by decide)
  have hw : ∀ w ∈ am_ewE (am_nm 202).cls (am_at 202 i), w ∈ am_G := fun w h => am_wl202 w (am_ewA_in h)
  refine am_e_ok hy hw ?_
  by_cases h0 : i < 64
  · exact List.all_eq_true.mp am_be202_0 i (List.mem_range'_1.mpr ⟨by omega, by omega⟩)
  by_cases h1 : i < 96
  · exact List.all_eq_true.mp am_be202_1 i (List.mem_range'_1.mpr ⟨by omega, by omega⟩)
  exact am_eb_out (am_len_out (n := 96) (by decide) (by omega))
set_option maxRecDepth 100000 in
theorem am_wl203 : ∀ w ∈ am_ewA (am_nm 203).cls (am_prog 203), w ∈ am_G := by
  have e : am_ewA (am_nm 203).cls (am_prog 203) = [am_u1387, am_u1637, am_u1365, am_u1637, am_u1365, am_u1825, am_u1829, am_u1832, am_u1849, am_u1841, am_u1249] := rfl
  rw [e]
  exact List.forall_mem_cons.mpr ⟨am_v1387, List.forall_mem_cons.mpr ⟨am_v1637, List.forall_mem_cons.mpr ⟨am_v1365, List.forall_mem_cons.mpr ⟨am_v1637, List.forall_mem_cons.mpr ⟨am_v1365, List.forall_mem_cons.mpr ⟨am_v1825, List.forall_mem_cons.mpr ⟨am_v1829, List.forall_mem_cons.mpr ⟨am_v1832, List.forall_mem_cons.mpr ⟨am_v1849, List.forall_mem_cons.mpr ⟨am_v1841, List.forall_mem_cons.mpr ⟨am_v1249, fun _ h => absurd h List.not_mem_nil⟩⟩⟩⟩⟩⟩⟩⟩⟩⟩⟩
theorem am_be203_0 : (List.range' 0 64).all (am_eb 203) = true := by decide +kernel
theorem am_be203_1 : (List.range' 64 3).all (am_eb 203) = true := by decide +kernel
theorem am_ok203 (i : Nat) : am_eOk 203 i := by
  have hy : 203 < am_law → am_cP 203 := fun _ => am_cms 203 (by decide)
  have hw : ∀ w ∈ am_ewE (am_nm 203).cls (am_at 203 i), w ∈ am_G := fun w h => am_wl203 w (am_ewA_in h)
  refine am_e_ok hy hw ?_
  by_cases h0 : i < 64
  · exact List.all_eq_true.mp am_be203_0 i (List.mem_range'_1.mpr ⟨by omega, by omega⟩)
  by_cases h1 : i < 67
  · exact List.all_eq_true.mp am_be203_1 i (List.mem_range'_1.mpr ⟨by omega, by omega⟩)
  exact am_eb_out (am_len_out (n := 67) (by decide) (by omega))
set_option maxRecDepth 100000 in
theorem am_wl204 : ∀ w ∈ am_ewA (am_nm 204).cls (am_prog 204), w ∈ am_G := by
  have e : am_ewA (am_nm 204).cls (am_prog 204) = [am_u1197, am_u1376, am_u1250, am_u1869] := rfl
  rw [e]
  exact List.forall_mem_cons.mpr ⟨am_v1197, List.forall_mem_cons.mpr ⟨am_v1376, List.forall_mem_cons.mpr ⟨am_v1250, List.forall_mem_cons.mpr ⟨am_v1869, fun _ h => absurd h List.not_mem_nil⟩⟩⟩⟩
theorem am_be204_0 : (List.range' 0 30).all (am_eb 204) = true := by decide +kernel
theorem am_ok204 (i : Nat) : am_eOk 204 i := by
  have hy : 204 < am_law → am_cP 204 := fun _ => am_cms 204 (by decide)
  have hw : ∀ w ∈ am_ewE (am_nm 204).cls (am_at 204 i), w ∈ am_G := fun w h => am_wl204 w (am_ewA_in h)
  refine am_e_ok hy hw ?_
  by_cases h0 : i < 30
  · exact List.all_eq_true.mp am_be204_0 i (List.mem_range'_1.mpr ⟨by omega, by omega⟩)
  exact am_eb_out (am_len_out (n := 30) (by decide) (by omega))
set_option maxRecDepth 100000 in
theorem am_wl205 : ∀ w ∈ am_ewA (am_nm 205).cls (am_prog 205), w ∈ am_G := by
  have e : am_ewA (am_nm 205).cls (am_prog 205) = [am_u700, am_u1889, am_u760, am_u761, am_u1889, am_u760] := rfl
  rw [e]
  exact List.forall_mem_cons.mpr ⟨am_v700, List.forall_mem_cons.mpr ⟨am_v1889, List.forall_mem_cons.mpr ⟨am_v760, List.forall_mem_cons.mpr ⟨am_v761, List.forall_mem_cons.mpr ⟨am_v1889, List.forall_mem_cons.mpr ⟨am_v760, fun _ h => absurd h List.not_mem_nil⟩⟩⟩⟩⟩⟩
theorem am_be205_0 : (List.range' 0 19).all (am_eb 205) = true := by decide +kernel
theorem am_ok205 (i : Nat) : am_eOk 205 i := by
  have hy : 205 < am_law → am_cP 205 := fun _ => am_cms 205 (by decide)
  have hw : ∀ w ∈ am_ewE (am_nm 205).cls (am_at 205 i), w ∈ am_G := fun w h => am_wl205 w (am_ewA_in h)
  refine am_e_ok hy hw ?_
  by_cases h0 : i < 19
  · exact List.all_eq_true.mp am_be205_0 i (List.mem_range'_1.mpr ⟨by omega, by omega⟩)
  exact am_eb_out (am_len_out (n := 19) (by decide) (by omega))
set_option maxRecDepth 100000 in
theorem am_wl206 : ∀ w ∈ am_ewA (am_nm 206).cls (am_prog 206), w ∈ am_G := by
  have e : am_ewA (am_nm 206).cls (am_prog 206) = [am_u707] := rfl
  rw [e]
  exact List.forall_mem_cons.mpr ⟨am_v707, fun _ h => absurd h List.not_mem_nil⟩
theorem am_be206_0 : (List.range' 0 11).all (am_eb 206) = true := by decide +kernel
theorem am_ok206 (i : Nat) : am_eOk 206 i := by
  have hy : 206 < am_law → am_cP 206 := fun _ => am_cms 206 (by decide)
  have hw : ∀ w ∈ am_ewE (am_nm 206).cls (am_at 206 i), w ∈ am_G := fun w h => am_wl206 w (am_ewA_in h)
  refine am_e_ok hy hw ?_
  by_cases h0 : i < 11
  · exact List.all_eq_true.mp am_be206_0 i (List.mem_range'_1.mpr ⟨by omega, by omega⟩)
  exact am_eb_out (am_len_out (n := 11) (by decide) (by omega))
set_option maxRecDepth 100000 in
theorem am_wl207 : ∀ w ∈ am_ewA (am_nm 207).cls (am_prog 207), w ∈ am_G := by
  have e : am_ewA (am_nm 207).cls (am_prog 207) = [am_u495, am_u499, am_u503, am_u197, am_u507, am_u537, am_u538] := rfl
  rw [e]
  exact List.forall_mem_cons.mpr ⟨am_v495, List.forall_mem_cons.mpr ⟨am_v499, List.forall_mem_cons.mpr ⟨am_v503, List.forall_mem_cons.mpr ⟨am_v197, List.forall_mem_cons.mpr ⟨am_v507, List.forall_mem_cons.mpr ⟨am_v537, List.forall_mem_cons.mpr ⟨am_v538, fun _ h => absurd h List.not_mem_nil⟩⟩⟩⟩⟩⟩⟩
theorem am_be207_0 : (List.range' 0 36).all (am_eb 207) = true := by decide +kernel
theorem am_ok207 (i : Nat) : am_eOk 207 i := by
  have hy : 207 < am_law → am_cP 207 := fun _ => am_cms 207 (by decide)
  have hw : ∀ w ∈ am_ewE (am_nm 207).cls (am_at 207 i), w ∈ am_G := fun w h => am_wl207 w (am_ewA_in h)
  refine am_e_ok hy hw ?_
  by_cases h0 : i < 36
  · exact List.all_eq_true.mp am_be207_0 i (List.mem_range'_1.mpr ⟨by omega, by omega⟩)
  exact am_eb_out (am_len_out (n := 36) (by decide) (by omega))
set_option maxRecDepth 100000 in
theorem am_wl208 : ∀ w ∈ am_ewA (am_nm 208).cls (am_prog 208), w ∈ am_G := by
  have e : am_ewA (am_nm 208).cls (am_prog 208) = [am_u503, am_u197, am_u507, am_u197, am_u507, am_u537, am_u538, am_u495, am_u499] := rfl
  rw [e]
  exact List.forall_mem_cons.mpr ⟨am_v503, List.forall_mem_cons.mpr ⟨am_v197, List.forall_mem_cons.mpr ⟨am_v507, List.forall_mem_cons.mpr ⟨am_v197, List.forall_mem_cons.mpr ⟨am_v507, List.forall_mem_cons.mpr ⟨am_v537, List.forall_mem_cons.mpr ⟨am_v538, List.forall_mem_cons.mpr ⟨am_v495, List.forall_mem_cons.mpr ⟨am_v499, fun _ h => absurd h List.not_mem_nil⟩⟩⟩⟩⟩⟩⟩⟩⟩
theorem am_be208_0 : (List.range' 0 46).all (am_eb 208) = true := by decide +kernel
theorem am_ok208 (i : Nat) : am_eOk 208 i := by
  have hy : 208 < am_law → am_cP 208 := fun _ => am_cms 208 (by decide)
  have hw : ∀ w ∈ am_ewE (am_nm 208).cls (am_at 208 i), w ∈ am_G := fun w h => am_wl208 w (am_ewA_in h)
  refine am_e_ok hy hw ?_
  by_cases h0 : i < 46
  · exact List.all_eq_true.mp am_be208_0 i (List.mem_range'_1.mpr ⟨by omega, by omega⟩)
  exact am_eb_out (am_len_out (n := 46) (by decide) (by omega))
set_option maxRecDepth 100000 in
theorem am_wl209 : ∀ w ∈ am_ewA (am_nm 209).cls (am_prog 209), w ∈ am_G := by
  have e : am_ewA (am_nm 209).cls (am_prog 209) = [am_u177, am_u43, am_u601] := rfl
  rw [e]
  exact List.forall_mem_cons.mpr ⟨am_v177, List.forall_mem_cons.mpr ⟨am_v43, List.forall_mem_cons.mpr ⟨am_v601, fun _ h => absurd h List.not_mem_nil⟩⟩⟩
theorem am_be209_0 : (List.range' 0 30).all (am_eb 209) = true := by decide +kernel
theorem am_ok209 (i : Nat) : am_eOk 209 i := by
  have hy : 209 < am_law → am_cP 209 := fun _ => am_cms 209 (by decide)
  have hw : ∀ w ∈ am_ewE (am_nm 209).cls (am_at 209 i), w ∈ am_G := fun w h => am_wl209 w (am_ewA_in h)
  refine am_e_ok hy hw ?_
  by_cases h0 : i < 30
  · exact List.all_eq_true.mp am_be209_0 i (List.mem_range'_1.mpr ⟨by omega, by omega⟩)
  exact am_eb_out (am_len_out (n := 30) (by decide) (by omega))
set_option maxRecDepth 100000 in
theorem am_wl210 : ∀ w ∈ am_ewA (am_nm 210).cls (am_prog 210), w ∈ am_G := by
  have e : am_ewA (am_nm 210).cls (am_prog 210) = [am_u1091, am_u1092, am_u1096, am_u326, am_u327, am_u1104, am_u1105, am_u328, am_u327, am_u1113, am_u328, am_u1103, am_u1114, am_u1113] := rfl
  rw [e]
  exact List.forall_mem_cons.mpr ⟨am_v1091, List.forall_mem_cons.mpr ⟨am_v1092, List.forall_mem_cons.mpr ⟨am_v1096, List.forall_mem_cons.mpr ⟨am_v326, List.forall_mem_cons.mpr ⟨am_v327, List.forall_mem_cons.mpr ⟨am_v1104, List.forall_mem_cons.mpr ⟨am_v1105, List.forall_mem_cons.mpr ⟨am_v328, List.forall_mem_cons.mpr ⟨am_v327, List.forall_mem_cons.mpr ⟨am_v1113, List.forall_mem_cons.mpr ⟨am_v328, List.forall_mem_cons.mpr ⟨am_v1103, List.forall_mem_cons.mpr ⟨am_v1114, List.forall_mem_cons.mpr ⟨am_v1113, fun _ h => absurd h List.not_mem_nil⟩⟩⟩⟩⟩⟩⟩⟩⟩⟩⟩⟩⟩⟩
theorem am_be210_0 : (List.range' 0 64).all (am_eb 210) = true := by decide +kernel
theorem am_be210_1 : (List.range' 64 34).all (am_eb 210) = true := by decide +kernel
theorem am_ok210 (i : Nat) : am_eOk 210 i := by
  have hy : 210 < am_law → am_cP 210 := fun _ => am_cms 210 (by decide)
  have hw : ∀ w ∈ am_ewE (am_nm 210).cls (am_at 210 i), w ∈ am_G := fun w h => am_wl210 w (am_ewA_in h)
  refine am_e_ok hy hw ?_
  by_cases h0 : i < 64
  · exact List.all_eq_true.mp am_be210_0 i (List.mem_range'_1.mpr ⟨by omega, by omega⟩)
  by_cases h1 : i < 98
  · exact List.all_eq_true.mp am_be210_1 i (List.mem_range'_1.mpr ⟨by omega, by omega⟩)
  exact am_eb_out (am_len_out (n := 98) (by decide) (by omega))
set_option maxRecDepth 100000 in
theorem am_wl211 : ∀ w ∈ am_ewA (am_nm 211).cls (am_prog 211), w ∈ am_G := by
  have e : am_ewA (am_nm 211).cls (am_prog 211) = [am_u807, am_u233, am_u233, am_u807, am_u815, am_u836, am_u807, am_u233, am_u233, am_u836, am_u235, am_u848, am_u815, am_u235, am_u848] := rfl
  rw [e]
  exact List.forall_mem_cons.mpr ⟨am_v807, List.forall_mem_cons.mpr ⟨am_v233, List.forall_mem_cons.mpr ⟨am_v233, List.forall_mem_cons.mpr ⟨am_v807, List.forall_mem_cons.mpr ⟨am_v815, List.forall_mem_cons.mpr ⟨am_v836, List.forall_mem_cons.mpr ⟨am_v807, List.forall_mem_cons.mpr ⟨am_v233, List.forall_mem_cons.mpr ⟨am_v233, List.forall_mem_cons.mpr ⟨am_v836, List.forall_mem_cons.mpr ⟨am_v235, List.forall_mem_cons.mpr ⟨am_v848, List.forall_mem_cons.mpr ⟨am_v815, List.forall_mem_cons.mpr ⟨am_v235, List.forall_mem_cons.mpr ⟨am_v848, fun _ h => absurd h List.not_mem_nil⟩⟩⟩⟩⟩⟩⟩⟩⟩⟩⟩⟩⟩⟩⟩
theorem am_be211_0 : (List.range' 0 64).all (am_eb 211) = true := by decide +kernel
theorem am_be211_1 : (List.range' 64 15).all (am_eb 211) = true := by decide +kernel
theorem am_ok211 (i : Nat) : am_eOk 211 i := by
  have hy : 211 < am_law → am_cP 211 := fun _ => am_cms 211 (by decide)
  have hw : ∀ w ∈ am_ewE (am_nm 211).cls (am_at 211 i), w ∈ am_G := fun w h => am_wl211 w (am_ewA_in h)
  refine am_e_ok hy hw ?_
  by_cases h0 : i < 64
  · exact List.all_eq_true.mp am_be211_0 i (List.mem_range'_1.mpr ⟨by omega, by omega⟩)
  by_cases h1 : i < 79
  · exact List.all_eq_true.mp am_be211_1 i (List.mem_range'_1.mpr ⟨by omega, by omega⟩)
  exact am_eb_out (am_len_out (n := 79) (by decide) (by omega))
set_option maxRecDepth 100000 in
theorem am_wl212 : ∀ w ∈ am_ewA (am_nm 212).cls (am_prog 212), w ∈ am_G := by
  have e : am_ewA (am_nm 212).cls (am_prog 212) = [am_u340, am_u543, am_u342, am_u490, am_u344, am_u342, am_u458, am_u342, am_u544] := rfl
  rw [e]
  exact List.forall_mem_cons.mpr ⟨am_v340, List.forall_mem_cons.mpr ⟨am_v543, List.forall_mem_cons.mpr ⟨am_v342, List.forall_mem_cons.mpr ⟨am_v490, List.forall_mem_cons.mpr ⟨am_v344, List.forall_mem_cons.mpr ⟨am_v342, List.forall_mem_cons.mpr ⟨am_v458, List.forall_mem_cons.mpr ⟨am_v342, List.forall_mem_cons.mpr ⟨am_v544, fun _ h => absurd h List.not_mem_nil⟩⟩⟩⟩⟩⟩⟩⟩⟩
theorem am_be212_0 : (List.range' 0 24).all (am_eb 212) = true := by decide +kernel
theorem am_ok212 (i : Nat) : am_eOk 212 i := by
  have hy : 212 < am_law → am_cP 212 := fun _ => am_cms 212 (by decide)
  have hw : ∀ w ∈ am_ewE (am_nm 212).cls (am_at 212 i), w ∈ am_G := fun w h => am_wl212 w (am_ewA_in h)
  refine am_e_ok hy hw ?_
  by_cases h0 : i < 24
  · exact List.all_eq_true.mp am_be212_0 i (List.mem_range'_1.mpr ⟨by omega, by omega⟩)
  exact am_eb_out (am_len_out (n := 24) (by decide) (by omega))
set_option maxRecDepth 100000 in
theorem am_wl213 : ∀ w ∈ am_ewA (am_nm 213).cls (am_prog 213), w ∈ am_G := by
  have e : am_ewA (am_nm 213).cls (am_prog 213) = [am_u340, am_u543, am_u340, am_u573, am_u342, am_u490, am_u344, am_u342, am_u458, am_u340, am_u577, am_u342, am_u581] := rfl
  rw [e]
  exact List.forall_mem_cons.mpr ⟨am_v340, List.forall_mem_cons.mpr ⟨am_v543, List.forall_mem_cons.mpr ⟨am_v340, List.forall_mem_cons.mpr ⟨am_v573, List.forall_mem_cons.mpr ⟨am_v342, List.forall_mem_cons.mpr ⟨am_v490, List.forall_mem_cons.mpr ⟨am_v344, List.forall_mem_cons.mpr ⟨am_v342, List.forall_mem_cons.mpr ⟨am_v458, List.forall_mem_cons.mpr ⟨am_v340, List.forall_mem_cons.mpr ⟨am_v577, List.forall_mem_cons.mpr ⟨am_v342, List.forall_mem_cons.mpr ⟨am_v581, fun _ h => absurd h List.not_mem_nil⟩⟩⟩⟩⟩⟩⟩⟩⟩⟩⟩⟩⟩
theorem am_be213_0 : (List.range' 0 37).all (am_eb 213) = true := by decide +kernel
theorem am_ok213 (i : Nat) : am_eOk 213 i := by
  have hy : 213 < am_law → am_cP 213 := fun _ => am_cms 213 (by decide)
  have hw : ∀ w ∈ am_ewE (am_nm 213).cls (am_at 213 i), w ∈ am_G := fun w h => am_wl213 w (am_ewA_in h)
  refine am_e_ok hy hw ?_
  by_cases h0 : i < 37
  · exact List.all_eq_true.mp am_be213_0 i (List.mem_range'_1.mpr ⟨by omega, by omega⟩)
  exact am_eb_out (am_len_out (n := 37) (by decide) (by omega))
set_option maxRecDepth 100000 in
theorem am_wl214 : ∀ w ∈ am_ewA (am_nm 214).cls (am_prog 214), w ∈ am_G := by
  have e : am_ewA (am_nm 214).cls (am_prog 214) = [am_u340, am_u438, am_u342, am_u472, am_u342, am_u937, am_u342, am_u938, am_u350, am_u342, am_u939, am_u350, am_u342, am_u939] := rfl
  rw [e]
  exact List.forall_mem_cons.mpr ⟨am_v340, List.forall_mem_cons.mpr ⟨am_v438, List.forall_mem_cons.mpr ⟨am_v342, List.forall_mem_cons.mpr ⟨am_v472, List.forall_mem_cons.mpr ⟨am_v342, List.forall_mem_cons.mpr ⟨am_v937, List.forall_mem_cons.mpr ⟨am_v342, List.forall_mem_cons.mpr ⟨am_v938, List.forall_mem_cons.mpr ⟨am_v350, List.forall_mem_cons.mpr ⟨am_v342, List.forall_mem_cons.mpr ⟨am_v939, List.forall_mem_cons.mpr ⟨am_v350, List.forall_mem_cons.mpr ⟨am_v342, List.forall_mem_cons.mpr ⟨am_v939, fun _ h => absurd h List.not_mem_nil⟩⟩⟩⟩⟩⟩⟩⟩⟩⟩⟩⟩⟩⟩
theorem am_be214_0 : (List.range' 0 50).all (am_eb 214) = true := by decide +kernel
theorem am_ok214 (i : Nat) : am_eOk 214 i := by
  have hy : 214 < am_law → am_cP 214 := fun _ => am_cms 214 (by decide)
  have hw : ∀ w ∈ am_ewE (am_nm 214).cls (am_at 214 i), w ∈ am_G := fun w h => am_wl214 w (am_ewA_in h)
  refine am_e_ok hy hw ?_
  by_cases h0 : i < 50
  · exact List.all_eq_true.mp am_be214_0 i (List.mem_range'_1.mpr ⟨by omega, by omega⟩)
  exact am_eb_out (am_len_out (n := 50) (by decide) (by omega))
set_option maxRecDepth 100000 in
theorem am_wl215 : ∀ w ∈ am_ewA (am_nm 215).cls (am_prog 215), w ∈ am_G := by
  have e : am_ewA (am_nm 215).cls (am_prog 215) = [am_u353, am_u1022] := rfl
  rw [e]
  exact List.forall_mem_cons.mpr ⟨am_v353, List.forall_mem_cons.mpr ⟨am_v1022, fun _ h => absurd h List.not_mem_nil⟩⟩
theorem am_be215_0 : (List.range' 0 6).all (am_eb 215) = true := by decide +kernel
theorem am_ok215 (i : Nat) : am_eOk 215 i := by
  have hy : 215 < am_law → am_cP 215 := fun _ => am_cms 215 (by decide)
  have hw : ∀ w ∈ am_ewE (am_nm 215).cls (am_at 215 i), w ∈ am_G := fun w h => am_wl215 w (am_ewA_in h)
  refine am_e_ok hy hw ?_
  by_cases h0 : i < 6
  · exact List.all_eq_true.mp am_be215_0 i (List.mem_range'_1.mpr ⟨by omega, by omega⟩)
  exact am_eb_out (am_len_out (n := 6) (by decide) (by omega))
set_option maxRecDepth 100000 in
theorem am_wl216 : ∀ w ∈ am_ewA (am_nm 216).cls (am_prog 216), w ∈ am_G := by
  have e : am_ewA (am_nm 216).cls (am_prog 216) = [am_u1085, am_u340, am_u418, am_u354, am_u1119] := rfl
  rw [e]
  exact List.forall_mem_cons.mpr ⟨am_v1085, List.forall_mem_cons.mpr ⟨am_v340, List.forall_mem_cons.mpr ⟨am_v418, List.forall_mem_cons.mpr ⟨am_v354, List.forall_mem_cons.mpr ⟨am_v1119, fun _ h => absurd h List.not_mem_nil⟩⟩⟩⟩⟩
theorem am_be216_0 : (List.range' 0 29).all (am_eb 216) = true := by decide +kernel
theorem am_ok216 (i : Nat) : am_eOk 216 i := by
  have hy : 216 < am_law → am_cP 216 := fun _ => am_cms 216 (by decide)
  have hw : ∀ w ∈ am_ewE (am_nm 216).cls (am_at 216 i), w ∈ am_G := fun w h => am_wl216 w (am_ewA_in h)
  refine am_e_ok hy hw ?_
  by_cases h0 : i < 29
  · exact List.all_eq_true.mp am_be216_0 i (List.mem_range'_1.mpr ⟨by omega, by omega⟩)
  exact am_eb_out (am_len_out (n := 29) (by decide) (by omega))
set_option maxRecDepth 100000 in
theorem am_wl217 : ∀ w ∈ am_ewA (am_nm 217).cls (am_prog 217), w ∈ am_G := by
  have e : am_ewA (am_nm 217).cls (am_prog 217) = [am_u1218, am_u1468, am_u1218, am_u1218, am_u1472, am_u1415] := rfl
  rw [e]
  exact List.forall_mem_cons.mpr ⟨am_v1218, List.forall_mem_cons.mpr ⟨am_v1468, List.forall_mem_cons.mpr ⟨am_v1218, List.forall_mem_cons.mpr ⟨am_v1218, List.forall_mem_cons.mpr ⟨am_v1472, List.forall_mem_cons.mpr ⟨am_v1415, fun _ h => absurd h List.not_mem_nil⟩⟩⟩⟩⟩⟩
theorem am_be217_0 : (List.range' 0 22).all (am_eb 217) = true := by decide +kernel
theorem am_ok217 (i : Nat) : am_eOk 217 i := by
  have hy : 217 < am_law → am_cP 217 := fun _ => am_cms 217 (by decide)
  have hw : ∀ w ∈ am_ewE (am_nm 217).cls (am_at 217 i), w ∈ am_G := fun w h => am_wl217 w (am_ewA_in h)
  refine am_e_ok hy hw ?_
  by_cases h0 : i < 22
  · exact List.all_eq_true.mp am_be217_0 i (List.mem_range'_1.mpr ⟨by omega, by omega⟩)
  exact am_eb_out (am_len_out (n := 22) (by decide) (by omega))
set_option maxRecDepth 100000 in
theorem am_wl218 : ∀ w ∈ am_ewA (am_nm 218).cls (am_prog 218), w ∈ am_G := by
  have e : am_ewA (am_nm 218).cls (am_prog 218) = [am_u1511, am_u1514, am_u1223, am_u1222, am_u1224, am_u1222, am_u1219, am_u1222, am_u1222, am_u1415] := rfl
  rw [e]
  exact List.forall_mem_cons.mpr ⟨am_v1511, List.forall_mem_cons.mpr ⟨am_v1514, List.forall_mem_cons.mpr ⟨am_v1223, List.forall_mem_cons.mpr ⟨am_v1222, List.forall_mem_cons.mpr ⟨am_v1224, List.forall_mem_cons.mpr ⟨am_v1222, List.forall_mem_cons.mpr ⟨am_v1219, List.forall_mem_cons.mpr ⟨am_v1222, List.forall_mem_cons.mpr ⟨am_v1222, List.forall_mem_cons.mpr ⟨am_v1415, fun _ h => absurd h List.not_mem_nil⟩⟩⟩⟩⟩⟩⟩⟩⟩⟩
theorem am_be218_0 : (List.range' 0 26).all (am_eb 218) = true := by decide +kernel
theorem am_ok218 (i : Nat) : am_eOk 218 i := by
  have hy : 218 < am_law → am_cP 218 := fun _ => am_cms 218 (by decide)
  have hw : ∀ w ∈ am_ewE (am_nm 218).cls (am_at 218 i), w ∈ am_G := fun w h => am_wl218 w (am_ewA_in h)
  refine am_e_ok hy hw ?_
  by_cases h0 : i < 26
  · exact List.all_eq_true.mp am_be218_0 i (List.mem_range'_1.mpr ⟨by omega, by omega⟩)
  exact am_eb_out (am_len_out (n := 26) (by decide) (by omega))
set_option maxRecDepth 100000 in
theorem am_wl219 : ∀ w ∈ am_ewA (am_nm 219).cls (am_prog 219), w ∈ am_G := by
  have e : am_ewA (am_nm 219).cls (am_prog 219) = [am_u1514, am_u1219, am_u1484, am_u1226, am_u1226, am_u1415, am_u1225] := rfl
  rw [e]
  exact List.forall_mem_cons.mpr ⟨am_v1514, List.forall_mem_cons.mpr ⟨am_v1219, List.forall_mem_cons.mpr ⟨am_v1484, List.forall_mem_cons.mpr ⟨am_v1226, List.forall_mem_cons.mpr ⟨am_v1226, List.forall_mem_cons.mpr ⟨am_v1415, List.forall_mem_cons.mpr ⟨am_v1225, fun _ h => absurd h List.not_mem_nil⟩⟩⟩⟩⟩⟩⟩
theorem am_be219_0 : (List.range' 0 22).all (am_eb 219) = true := by decide +kernel
theorem am_ok219 (i : Nat) : am_eOk 219 i := by
  have hy : 219 < am_law → am_cP 219 := fun _ => am_cms 219 (by decide)
  have hw : ∀ w ∈ am_ewE (am_nm 219).cls (am_at 219 i), w ∈ am_G := fun w h => am_wl219 w (am_ewA_in h)
  refine am_e_ok hy hw ?_
  by_cases h0 : i < 22
  · exact List.all_eq_true.mp am_be219_0 i (List.mem_range'_1.mpr ⟨by omega, by omega⟩)
  exact am_eb_out (am_len_out (n := 22) (by decide) (by omega))
set_option maxRecDepth 100000 in
theorem am_wl220 : ∀ w ∈ am_ewA (am_nm 220).cls (am_prog 220), w ∈ am_G := by
  have e : am_ewA (am_nm 220).cls (am_prog 220) = [am_u1216, am_u1214, am_u1468, am_u1215, am_u1365, am_u1468, am_u1215, am_u1415] := rfl
  rw [e]
  exact List.forall_mem_cons.mpr ⟨am_v1216, List.forall_mem_cons.mpr ⟨am_v1214, List.forall_mem_cons.mpr ⟨am_v1468, List.forall_mem_cons.mpr ⟨am_v1215, List.forall_mem_cons.mpr ⟨am_v1365, List.forall_mem_cons.mpr ⟨am_v1468, List.forall_mem_cons.mpr ⟨am_v1215, List.forall_mem_cons.mpr ⟨am_v1415, fun _ h => absurd h List.not_mem_nil⟩⟩⟩⟩⟩⟩⟩⟩
theorem am_be220_0 : (List.range' 0 31).all (am_eb 220) = true := by decide +kernel
theorem am_ok220 (i : Nat) : am_eOk 220 i := by
  have hy : 220 < am_law → am_cP 220 := fun _ => am_cms 220 (by decide)
  have hw : ∀ w ∈ am_ewE (am_nm 220).cls (am_at 220 i), w ∈ am_G := fun w h => am_wl220 w (am_ewA_in h)
  refine am_e_ok hy hw ?_
  by_cases h0 : i < 31
  · exact List.all_eq_true.mp am_be220_0 i (List.mem_range'_1.mpr ⟨by omega, by omega⟩)
  exact am_eb_out (am_len_out (n := 31) (by decide) (by omega))
set_option maxRecDepth 100000 in
theorem am_wl221 : ∀ w ∈ am_ewA (am_nm 221).cls (am_prog 221), w ∈ am_G := by
  have e : am_ewA (am_nm 221).cls (am_prog 221) = [am_u1589, am_u1593, am_u1236, am_u1236, am_u1597] := rfl
  rw [e]
  exact List.forall_mem_cons.mpr ⟨am_v1589, List.forall_mem_cons.mpr ⟨am_v1593, List.forall_mem_cons.mpr ⟨am_v1236, List.forall_mem_cons.mpr ⟨am_v1236, List.forall_mem_cons.mpr ⟨am_v1597, fun _ h => absurd h List.not_mem_nil⟩⟩⟩⟩⟩
theorem am_be221_0 : (List.range' 0 34).all (am_eb 221) = true := by decide +kernel
theorem am_ok221 (i : Nat) : am_eOk 221 i := by
  have hy : 221 < am_law → am_cP 221 := fun _ => am_cms 221 (by decide)
  have hw : ∀ w ∈ am_ewE (am_nm 221).cls (am_at 221 i), w ∈ am_G := fun w h => am_wl221 w (am_ewA_in h)
  refine am_e_ok hy hw ?_
  by_cases h0 : i < 34
  · exact List.all_eq_true.mp am_be221_0 i (List.mem_range'_1.mpr ⟨by omega, by omega⟩)
  exact am_eb_out (am_len_out (n := 34) (by decide) (by omega))
set_option maxRecDepth 100000 in
theorem am_wl222 : ∀ w ∈ am_ewA (am_nm 222).cls (am_prog 222), w ∈ am_G := by
  have e : am_ewA (am_nm 222).cls (am_prog 222) = [am_u1589, am_u1593, am_u1236, am_u1241, am_u1376, am_u1236, am_u1242, am_u1597, am_u1614] := rfl
  rw [e]
  exact List.forall_mem_cons.mpr ⟨am_v1589, List.forall_mem_cons.mpr ⟨am_v1593, List.forall_mem_cons.mpr ⟨am_v1236, List.forall_mem_cons.mpr ⟨am_v1241, List.forall_mem_cons.mpr ⟨am_v1376, List.forall_mem_cons.mpr ⟨am_v1236, List.forall_mem_cons.mpr ⟨am_v1242, List.forall_mem_cons.mpr ⟨am_v1597, List.forall_mem_cons.mpr ⟨am_v1614, fun _ h => absurd h List.not_mem_nil⟩⟩⟩⟩⟩⟩⟩⟩⟩
theorem am_be222_0 : (List.range' 0 47).all (am_eb 222) = true := by decide +kernel
theorem am_ok222 (i : Nat) : am_eOk 222 i := by
  have hy : 222 < am_law → am_cP 222 := fun _ => am_cms 222 (by decide)
  have hw : ∀ w ∈ am_ewE (am_nm 222).cls (am_at 222 i), w ∈ am_G := fun w h => am_wl222 w (am_ewA_in h)
  refine am_e_ok hy hw ?_
  by_cases h0 : i < 47
  · exact List.all_eq_true.mp am_be222_0 i (List.mem_range'_1.mpr ⟨by omega, by omega⟩)
  exact am_eb_out (am_len_out (n := 47) (by decide) (by omega))
set_option maxRecDepth 100000 in
theorem am_wl223 : ∀ w ∈ am_ewA (am_nm 223).cls (am_prog 223), w ∈ am_G := by
  have e : am_ewA (am_nm 223).cls (am_prog 223) = [am_u1589, am_u1593, am_u1597, am_u1614] := rfl
  rw [e]
  exact List.forall_mem_cons.mpr ⟨am_v1589, List.forall_mem_cons.mpr ⟨am_v1593, List.forall_mem_cons.mpr ⟨am_v1597, List.forall_mem_cons.mpr ⟨am_v1614, fun _ h => absurd h List.not_mem_nil⟩⟩⟩⟩
theorem am_be223_0 : (List.range' 0 20).all (am_eb 223) = true := by decide +kernel
theorem am_ok223 (i : Nat) : am_eOk 223 i := by
  have hy : 223 < am_law → am_cP 223 := fun _ => am_cms 223 (by decide)
  have hw : ∀ w ∈ am_ewE (am_nm 223).cls (am_at 223 i), w ∈ am_G := fun w h => am_wl223 w (am_ewA_in h)
  refine am_e_ok hy hw ?_
  by_cases h0 : i < 20
  · exact List.all_eq_true.mp am_be223_0 i (List.mem_range'_1.mpr ⟨by omega, by omega⟩)
  exact am_eb_out (am_len_out (n := 20) (by decide) (by omega))
set_option maxRecDepth 100000 in
theorem am_wl224 : ∀ w ∈ am_ewA (am_nm 224).cls (am_prog 224), w ∈ am_G := by
  have e : am_ewA (am_nm 224).cls (am_prog 224) = [am_u1589, am_u1593, am_u1236, am_u1597, am_u1614] := rfl
  rw [e]
  exact List.forall_mem_cons.mpr ⟨am_v1589, List.forall_mem_cons.mpr ⟨am_v1593, List.forall_mem_cons.mpr ⟨am_v1236, List.forall_mem_cons.mpr ⟨am_v1597, List.forall_mem_cons.mpr ⟨am_v1614, fun _ h => absurd h List.not_mem_nil⟩⟩⟩⟩⟩
theorem am_be224_0 : (List.range' 0 27).all (am_eb 224) = true := by decide +kernel
theorem am_ok224 (i : Nat) : am_eOk 224 i := by
  have hy : 224 < am_law → am_cP 224 := fun _ => am_cms 224 (by decide)
  have hw : ∀ w ∈ am_ewE (am_nm 224).cls (am_at 224 i), w ∈ am_G := fun w h => am_wl224 w (am_ewA_in h)
  refine am_e_ok hy hw ?_
  by_cases h0 : i < 27
  · exact List.all_eq_true.mp am_be224_0 i (List.mem_range'_1.mpr ⟨by omega, by omega⟩)
  exact am_eb_out (am_len_out (n := 27) (by decide) (by omega))
set_option maxRecDepth 100000 in
theorem am_wl225 : ∀ w ∈ am_ewA (am_nm 225).cls (am_prog 225), w ∈ am_G := by
  have e : am_ewA (am_nm 225).cls (am_prog 225) = [am_u1656, am_u1372, am_u1197] := rfl
  rw [e]
  exact List.forall_mem_cons.mpr ⟨am_v1656, List.forall_mem_cons.mpr ⟨am_v1372, List.forall_mem_cons.mpr ⟨am_v1197, fun _ h => absurd h List.not_mem_nil⟩⟩⟩
theorem am_be225_0 : (List.range' 0 21).all (am_eb 225) = true := by decide +kernel
theorem am_ok225 (i : Nat) : am_eOk 225 i := by
  have hy : 225 < am_law → am_cP 225 := fun _ => am_cms 225 (by decide)
  have hw : ∀ w ∈ am_ewE (am_nm 225).cls (am_at 225 i), w ∈ am_G := fun w h => am_wl225 w (am_ewA_in h)
  refine am_e_ok hy hw ?_
  by_cases h0 : i < 21
  · exact List.all_eq_true.mp am_be225_0 i (List.mem_range'_1.mpr ⟨by omega, by omega⟩)
  exact am_eb_out (am_len_out (n := 21) (by decide) (by omega))
set_option maxRecDepth 100000 in
theorem am_wl226 : ∀ w ∈ am_ewA (am_nm 226).cls (am_prog 226), w ∈ am_G := by
  have e : am_ewA (am_nm 226).cls (am_prog 226) = [am_u1656, am_u1565, am_u1688] := rfl
  rw [e]
  exact List.forall_mem_cons.mpr ⟨am_v1656, List.forall_mem_cons.mpr ⟨am_v1565, List.forall_mem_cons.mpr ⟨am_v1688, fun _ h => absurd h List.not_mem_nil⟩⟩⟩
theorem am_be226_0 : (List.range' 0 13).all (am_eb 226) = true := by decide +kernel
theorem am_ok226 (i : Nat) : am_eOk 226 i := by
  have hy : 226 < am_law → am_cP 226 := fun _ => am_cms 226 (by decide)
  have hw : ∀ w ∈ am_ewE (am_nm 226).cls (am_at 226 i), w ∈ am_G := fun w h => am_wl226 w (am_ewA_in h)
  refine am_e_ok hy hw ?_
  by_cases h0 : i < 13
  · exact List.all_eq_true.mp am_be226_0 i (List.mem_range'_1.mpr ⟨by omega, by omega⟩)
  exact am_eb_out (am_len_out (n := 13) (by decide) (by omega))
set_option maxRecDepth 100000 in
theorem am_wl227 : ∀ w ∈ am_ewA (am_nm 227).cls (am_prog 227), w ∈ am_G := by
  have e : am_ewA (am_nm 227).cls (am_prog 227) = [am_u1656, am_u1372, am_u1197, am_u1376, am_u1565, am_u1197, am_u1197] := rfl
  rw [e]
  exact List.forall_mem_cons.mpr ⟨am_v1656, List.forall_mem_cons.mpr ⟨am_v1372, List.forall_mem_cons.mpr ⟨am_v1197, List.forall_mem_cons.mpr ⟨am_v1376, List.forall_mem_cons.mpr ⟨am_v1565, List.forall_mem_cons.mpr ⟨am_v1197, List.forall_mem_cons.mpr ⟨am_v1197, fun _ h => absurd h List.not_mem_nil⟩⟩⟩⟩⟩⟩⟩
theorem am_be227_0 : (List.range' 0 41).all (am_eb 227) = true := by decide +kernel
theorem am_ok227 (i : Nat) : am_eOk 227 i := by
  have hy : 227 < am_law → am_cP 227 := fun _ => am_cms 227 (by decide)
  have hw : ∀ w ∈ am_ewE (am_nm 227).cls (am_at 227 i), w ∈ am_G := fun w h => am_wl227 w (am_ewA_in h)
  refine am_e_ok hy hw ?_
  by_cases h0 : i < 41
  · exact List.all_eq_true.mp am_be227_0 i (List.mem_range'_1.mpr ⟨by omega, by omega⟩)
  exact am_eb_out (am_len_out (n := 41) (by decide) (by omega))
set_option maxRecDepth 100000 in
theorem am_wl228 : ∀ w ∈ am_ewA (am_nm 228).cls (am_prog 228), w ∈ am_G := by
  have e : am_ewA (am_nm 228).cls (am_prog 228) = [am_u1656, am_u1372, am_u1197, am_u1565, am_u1197] := rfl
  rw [e]
  exact List.forall_mem_cons.mpr ⟨am_v1656, List.forall_mem_cons.mpr ⟨am_v1372, List.forall_mem_cons.mpr ⟨am_v1197, List.forall_mem_cons.mpr ⟨am_v1565, List.forall_mem_cons.mpr ⟨am_v1197, fun _ h => absurd h List.not_mem_nil⟩⟩⟩⟩⟩
theorem am_be228_0 : (List.range' 0 34).all (am_eb 228) = true := by decide +kernel
theorem am_ok228 (i : Nat) : am_eOk 228 i := by
  have hy : 228 < am_law → am_cP 228 := fun _ => am_cms 228 (by decide)
  have hw : ∀ w ∈ am_ewE (am_nm 228).cls (am_at 228 i), w ∈ am_G := fun w h => am_wl228 w (am_ewA_in h)
  refine am_e_ok hy hw ?_
  by_cases h0 : i < 34
  · exact List.all_eq_true.mp am_be228_0 i (List.mem_range'_1.mpr ⟨by omega, by omega⟩)
  exact am_eb_out (am_len_out (n := 34) (by decide) (by omega))
set_option maxRecDepth 100000 in
theorem am_wl229 : ∀ w ∈ am_ewA (am_nm 229).cls (am_prog 229), w ∈ am_G := by
  have e : am_ewA (am_nm 229).cls (am_prog 229) = [am_u1656, am_u1197, am_u1365, am_u1565, am_u1197, am_u1704, am_u1197, am_u1197, am_u1376, am_u1197, am_u1197] := rfl
  rw [e]
  exact List.forall_mem_cons.mpr ⟨am_v1656, List.forall_mem_cons.mpr ⟨am_v1197, List.forall_mem_cons.mpr ⟨am_v1365, List.forall_mem_cons.mpr ⟨am_v1565, List.forall_mem_cons.mpr ⟨am_v1197, List.forall_mem_cons.mpr ⟨am_v1704, List.forall_mem_cons.mpr ⟨am_v1197, List.forall_mem_cons.mpr ⟨am_v1197, List.forall_mem_cons.mpr ⟨am_v1376, List.forall_mem_cons.mpr ⟨am_v1197, List.forall_mem_cons.mpr ⟨am_v1197, fun _ h => absurd h List.not_mem_nil⟩⟩⟩⟩⟩⟩⟩⟩⟩⟩⟩
theorem am_be229_0 : (List.range' 0 64).all (am_eb 229) = true := by decide +kernel
theorem am_be229_1 : (List.range' 64 6).all (am_eb 229) = true := by decide +kernel
theorem am_ok229 (i : Nat) : am_eOk 229 i := by
  have hy : 229 < am_law → am_cP 229 := fun _ => am_cms 229 (by decide)
  have hw : ∀ w ∈ am_ewE (am_nm 229).cls (am_at 229 i), w ∈ am_G := fun w h => am_wl229 w (am_ewA_in h)
  refine am_e_ok hy hw ?_
  by_cases h0 : i < 64
  · exact List.all_eq_true.mp am_be229_0 i (List.mem_range'_1.mpr ⟨by omega, by omega⟩)
  by_cases h1 : i < 70
  · exact List.all_eq_true.mp am_be229_1 i (List.mem_range'_1.mpr ⟨by omega, by omega⟩)
  exact am_eb_out (am_len_out (n := 70) (by decide) (by omega))
set_option maxRecDepth 100000 in
theorem am_wl230 : ∀ w ∈ am_ewA (am_nm 230).cls (am_prog 230), w ∈ am_G := by
  have e : am_ewA (am_nm 230).cls (am_prog 230) = [am_u1197, am_u1784] := rfl
  rw [e]
  exact List.forall_mem_cons.mpr ⟨am_v1197, List.forall_mem_cons.mpr ⟨am_v1784, fun _ h => absurd h List.not_mem_nil⟩⟩
theorem am_be230_0 : (List.range' 0 39).all (am_eb 230) = true := by decide +kernel
theorem am_ok230 (i : Nat) : am_eOk 230 i := by
  have hy : 230 < am_law → am_cP 230 := fun _ => am_cms 230 (by decide)
  have hw : ∀ w ∈ am_ewE (am_nm 230).cls (am_at 230 i), w ∈ am_G := fun w h => am_wl230 w (am_ewA_in h)
  refine am_e_ok hy hw ?_
  by_cases h0 : i < 39
  · exact List.all_eq_true.mp am_be230_0 i (List.mem_range'_1.mpr ⟨by omega, by omega⟩)
  exact am_eb_out (am_len_out (n := 39) (by decide) (by omega))
