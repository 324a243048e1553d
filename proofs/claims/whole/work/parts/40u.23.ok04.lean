/-! rows of the methods 165 .. 195 -/
set_option maxRecDepth 100000 in
theorem am_wl165 : ∀ w ∈ am_ewA (am_nm 165).cls (am_prog 165), w ∈ am_G := by
  have e : am_ewA (am_nm 165).cls (am_prog 165) = [am_u1197, am_u1376, am_u1197] := rfl
  rw [e]
  exact List.forall_mem_cons.mpr ⟨am_v1197, List.forall_mem_cons.mpr ⟨am_v1376, List.forall_mem_cons.mpr ⟨am_v1197, fun _ h => absurd h List.not_mem_nil⟩⟩⟩
theorem am_be165_0 : (List.range' 0 30).all (am_eb 165) = true := by decide +kernel
theorem am_ok165 (i : Nat) : am_eOk 165 i := by
  have hy : 165 < am_law → am_cP 165 := fun _ => am_cms 165 (by decide)
  have hw : ∀ w ∈ am_ewE (am_nm 165).cls (am_at 165 i), w ∈ am_G := fun w h => am_wl165 w (am_ewA_in h)
  refine am_e_ok hy hw ?_
  by_cases h0 : i < 30
  · exact List.all_eq_true.mp am_be165_0 i (List.mem_range'_1.mpr ⟨by omega, by omega⟩)
  exact am_eb_out (am_len_out (n := 30) (by decide) (by omega))
set_option maxRecDepth 100000 in
theorem am_wl166 : ∀ w ∈ am_ewA (am_nm 166).cls (am_prog 166), w ∈ am_G := by
  have e : am_ewA (am_nm 166).cls (am_prog 166) = [am_u1197, am_u1376, am_u1250] := rfl
  rw [e]
  exact List.forall_mem_cons.mpr ⟨am_v1197, List.forall_mem_cons.mpr ⟨am_v1376, List.forall_mem_cons.mpr ⟨am_v1250, fun _ h => absurd h List.not_mem_nil⟩⟩⟩
theorem am_be166_0 : (List.range' 0 28).all (am_eb 166) = true := by decide +kernel
theorem am_ok166 (i : Nat) : am_eOk 166 i := by
  have hy : 166 < am_law → am_cP 166 := fun _ => am_cms 166 (by decide)
  have hw : ∀ w ∈ am_ewE (am_nm 166).cls (am_at 166 i), w ∈ am_G := fun w h => am_wl166 w (am_ewA_in h)
  refine am_e_ok hy hw ?_
  by_cases h0 : i < 28
  · exact List.all_eq_true.mp am_be166_0 i (List.mem_range'_1.mpr ⟨by omega, by omega⟩)
  exact am_eb_out (am_len_out (n := 28) (by decide) (by omega))
set_option maxRecDepth 100000 in
theorem am_wl167 : ∀ w ∈ am_ewA (am_nm 167).cls (am_prog 167), w ∈ am_G := by
  have e : am_ewA (am_nm 167).cls (am_prog 167) = [am_u1193, am_u1197] := rfl
  rw [e]
  exact List.forall_mem_cons.mpr ⟨am_v1193, List.forall_mem_cons.mpr ⟨am_v1197, fun _ h => absurd h List.not_mem_nil⟩⟩
theorem am_be167_0 : (List.range' 0 8).all (am_eb 167) = true := by decide +kernel
theorem am_ok167 (i : Nat) : am_eOk 167 i := by
  have hy : 167 < am_law → am_cP 167 := fun _ => am_cms 167 (by decide)
  have hw : ∀ w ∈ am_ewE (am_nm 167).cls (am_at 167 i), w ∈ am_G := fun w h => am_wl167 w (am_ewA_in h)
  refine am_e_ok hy hw ?_
  by_cases h0 : i < 8
  · exact List.all_eq_true.mp am_be167_0 i (List.mem_range'_1.mpr ⟨by omega, by omega⟩)
  exact am_eb_out (am_len_out (n := 8) (by decide) (by omega))
set_option maxRecDepth 100000 in
theorem am_wl168 : ∀ w ∈ am_ewA (am_nm 168).cls (am_prog 168), w ∈ am_G := by
  have e : am_ewA (am_nm 168).cls (am_prog 168) = [am_u1193, am_u1197] := rfl
  rw [e]
  exact List.forall_mem_cons.mpr ⟨am_v1193, List.forall_mem_cons.mpr ⟨am_v1197, fun _ h => absurd h List.not_mem_nil⟩⟩
theorem am_be168_0 : (List.range' 0 8).all (am_eb 168) = true := by decide +kernel
theorem am_ok168 (i : Nat) : am_eOk 168 i := by
  have hy : 168 < am_law → am_cP 168 := fun _ => am_cms 168 (by decide)
  have hw : ∀ w ∈ am_ewE (am_nm 168).cls (am_at 168 i), w ∈ am_G := fun w h => am_wl168 w (am_ewA_in h)
  refine am_e_ok hy hw ?_
  by_cases h0 : i < 8
  · exact List.all_eq_true.mp am_be168_0 i (List.mem_range'_1.mpr ⟨by omega, by omega⟩)
  exact am_eb_out (am_len_out (n := 8) (by decide) (by omega))
set_option maxRecDepth 100000 in
theorem am_wl169 : ∀ w ∈ am_ewA (am_nm 169).cls (am_prog 169), w ∈ am_G := by
  have e : am_ewA (am_nm 169).cls (am_prog 169) = [am_u1889, am_u690] := rfl
  rw [e]
  exact List.forall_mem_cons.mpr ⟨am_v1889, List.forall_mem_cons.mpr ⟨am_v690, fun _ h => absurd h List.not_mem_nil⟩⟩
theorem am_be169_0 : (List.range' 0 7).all (am_eb 169) = true := by decide +kernel
theorem am_ok169 (i : Nat) : am_eOk 169 i := by
  have hy : 169 < am_law → am_cP 169 := fun _ => am_cms 169 (by decide)
  have hw : ∀ w ∈ am_ewE (am_nm 169).cls (am_at 169 i), w ∈ am_G := fun w h => am_wl169 w (am_ewA_in h)
  refine am_e_ok hy hw ?_
  by_cases h0 : i < 7
  · exact List.all_eq_true.mp am_be169_0 i (List.mem_range'_1.mpr ⟨by omega, by omega⟩)
  exact am_eb_out (am_len_out (n := 7) (by decide) (by omega))
set_option maxRecDepth 100000 in
theorem am_wl170 : ∀ w ∈ am_ewA (am_nm 170).cls (am_prog 170), w ∈ am_G := by
  have e : am_ewA (am_nm 170).cls (am_prog 170) = [am_u710, am_u712] := rfl
  rw [e]
  exact List.forall_mem_cons.mpr ⟨am_v710, List.forall_mem_cons.mpr ⟨am_v712, fun _ h => absurd h List.not_mem_nil⟩⟩
theorem am_be170_0 : (List.range' 0 6).all (am_eb 170) = true := by decide +kernel
theorem am_ok170 (i : Nat) : am_eOk 170 i := by
  have hy : 170 < am_law → am_cP 170 := fun _ => am_cms 170 (by decide)
  have hw : ∀ w ∈ am_ewE (am_nm 170).cls (am_at 170 i), w ∈ am_G := fun w h => am_wl170 w (am_ewA_in h)
  refine am_e_ok hy hw ?_
  by_cases h0 : i < 6
  · exact List.all_eq_true.mp am_be170_0 i (List.mem_range'_1.mpr ⟨by omega, by omega⟩)
  exact am_eb_out (am_len_out (n := 6) (by decide) (by omega))
set_option maxRecDepth 100000 in
theorem am_wl171 : ∀ w ∈ am_ewA (am_nm 171).cls (am_prog 171), w ∈ am_G := by
  have e : am_ewA (am_nm 171).cls (am_prog 171) = [am_u764, am_u767, am_u768, am_u769] := rfl
  rw [e]
  exact List.forall_mem_cons.mpr ⟨am_v764, List.forall_mem_cons.mpr ⟨am_v767, List.forall_mem_cons.mpr ⟨am_v768, List.forall_mem_cons.mpr ⟨am_v769, fun _ h => absurd h List.not_mem_nil⟩⟩⟩⟩
theorem am_be171_0 : (List.range' 0 25).all (am_eb 171) = true := by decide +kernel
theorem am_ok171 (i : Nat) : am_eOk 171 i := by
  have hy : 171 < am_law → am_cP 171 := fun _ => am_cms 171 (by decide)
  have hw : ∀ w ∈ am_ewE (am_nm 171).cls (am_at 171 i), w ∈ am_G := fun w h => am_wl171 w (am_ewA_in h)
  refine am_e_ok hy hw ?_
  by_cases h0 : i < 25
  · exact List.all_eq_true.mp am_be171_0 i (List.mem_range'_1.mpr ⟨by omega, by omega⟩)
  exact am_eb_out (am_len_out (n := 25) (by decide) (by omega))
set_option maxRecDepth 100000 in
theorem am_wl172 : ∀ w ∈ am_ewA (am_nm 172).cls (am_prog 172), w ∈ am_G := by
  have e : am_ewA (am_nm 172).cls (am_prog 172) = [am_u548, am_u549, am_u550] := rfl
  rw [e]
  exact List.forall_mem_cons.mpr ⟨am_v548, List.forall_mem_cons.mpr ⟨am_v549, List.forall_mem_cons.mpr ⟨am_v550, fun _ h => absurd h List.not_mem_nil⟩⟩⟩
theorem am_be172_0 : (List.range' 0 25).all (am_eb 172) = true := by decide +kernel
theorem am_ok172 (i : Nat) : am_eOk 172 i := by
  have hy : 172 < am_law → am_cP 172 := fun _ => am_cms 172 (by decide)
  have hw : ∀ w ∈ am_ewE (am_nm 172).cls (am_at 172 i), w ∈ am_G := fun w h => am_wl172 w (am_ewA_in h)
  refine am_e_ok hy hw ?_
  by_cases h0 : i < 25
  · exact List.all_eq_true.mp am_be172_0 i (List.mem_range'_1.mpr ⟨by omega, by omega⟩)
  exact am_eb_out (am_len_out (n := 25) (by decide) (by omega))
set_option maxRecDepth 100000 in
theorem am_wl173 : ∀ w ∈ am_ewA (am_nm 173).cls (am_prog 173), w ∈ am_G := by
  have e : am_ewA (am_nm 173).cls (am_prog 173) = [am_u585, am_u550] := rfl
  rw [e]
  exact List.forall_mem_cons.mpr ⟨am_v585, List.forall_mem_cons.mpr ⟨am_v550, fun _ h => absurd h List.not_mem_nil⟩⟩
theorem am_be173_0 : (List.range' 0 24).all (am_eb 173) = true := by decide +kernel
theorem am_ok173 (i : Nat) : am_eOk 173 i := by
  have hy : 173 < am_law → am_cP 173 := fun _ => am_cms 173 (by decide)
  have hw : ∀ w ∈ am_ewE (am_nm 173).cls (am_at 173 i), w ∈ am_G := fun w h => am_wl173 w (am_ewA_in h)
  refine am_e_ok hy hw ?_
  by_cases h0 : i < 24
  · exact List.all_eq_true.mp am_be173_0 i (List.mem_range'_1.mpr ⟨by omega, by omega⟩)
  exact am_eb_out (am_len_out (n := 24) (by decide) (by omega))
set_option maxRecDepth 100000 in
theorem am_wl174 : ∀ w ∈ am_ewA (am_nm 174).cls (am_prog 174), w ∈ am_G := by
  have e : am_ewA (am_nm 174).cls (am_prog 174) = [am_u511, am_u177, am_u66, am_u178, am_u178, am_u515, am_u519, am_u148, am_u150, am_u523] := rfl
  rw [e]
  exact List.forall_mem_cons.mpr ⟨am_v511, List.forall_mem_cons.mpr ⟨am_v177, List.forall_mem_cons.mpr ⟨am_v66, List.forall_mem_cons.mpr ⟨am_v178, List.forall_mem_cons.mpr ⟨am_v178, List.forall_mem_cons.mpr ⟨am_v515, List.forall_mem_cons.mpr ⟨am_v519, List.forall_mem_cons.mpr ⟨am_v148, List.forall_mem_cons.mpr ⟨am_v150, List.forall_mem_cons.mpr ⟨am_v523, fun _ h => absurd h List.not_mem_nil⟩⟩⟩⟩⟩⟩⟩⟩⟩⟩
theorem am_be174_0 : (List.range' 0 64).all (am_eb 174) = true := by decide +kernel
theorem am_be174_1 : (List.range' 64 8).all (am_eb 174) = true := by decide +kernel
theorem am_ok174 (i : Nat) : am_eOk 174 i := by
  have hy : 174 < am_law → am_cP 174 := fun _ => am_cms 174 (by decide)
  have hw : ∀ w ∈ am_ewE (am_nm 174).cls (am_at 174 i), w ∈ am_G := fun w h => am_wl174 w (am_ewA_in h)
  refine am_e_ok hy hw ?_
  by_cases h0 : i < 64
  · exact List.all_eq_true.mp am_be174_0 i (List.mem_range'_1.mpr ⟨by omega, by omega⟩)
  by_cases h1 : i < 72
  · exact List.all_eq_true.mp am_be174_1 i (List.mem_range'_1.mpr ⟨by omega, by omega⟩)
  exact am_eb_out (am_len_out (n := 72) (by decide) (by omega))
set_option maxRecDepth 100000 in
theorem am_wl175 : ∀ w ∈ am_ewA (am_nm 175).cls (am_prog 175), w ∈ am_G := by
  have e : am_ewA (am_nm 175).cls (am_prog 175) = [am_u328, am_u1100, am_u325, am_u326, am_u1101, am_u324, am_u326, am_u1102, am_u1103] := rfl
  rw [e]
  exact List.forall_mem_cons.mpr ⟨am_v328, List.forall_mem_cons.mpr ⟨am_v1100, List.forall_mem_cons.mpr ⟨am_v325, List.forall_mem_cons.mpr ⟨am_v326, List.forall_mem_cons.mpr ⟨am_v1101, List.forall_mem_cons.mpr ⟨am_v324, List.forall_mem_cons.mpr ⟨am_v326, List.forall_mem_cons.mpr ⟨am_v1102, List.forall_mem_cons.mpr ⟨am_v1103, fun _ h => absurd h List.not_mem_nil⟩⟩⟩⟩⟩⟩⟩⟩⟩
theorem am_be175_0 : (List.range' 0 49).all (am_eb 175) = true := by decide +kernel
theorem am_ok175 (i : Nat) : am_eOk 175 i := by
  have hy : 175 < am_law → am_cP 175 := fun _ => am_cms 175 (by decide)
  have hw : ∀ w ∈ am_ewE (am_nm 175).cls (am_at 175 i), w ∈ am_G := fun w h => am_wl175 w (am_ewA_in h)
  refine am_e_ok hy hw ?_
  by_cases h0 : i < 49
  · exact List.all_eq_true.mp am_be175_0 i (List.mem_range'_1.mpr ⟨by omega, by omega⟩)
  exact am_eb_out (am_len_out (n := 49) (by decide) (by omega))
set_option maxRecDepth 100000 in
theorem am_wl176 : ∀ w ∈ am_ewA (am_nm 176).cls (am_prog 176), w ∈ am_G := by
  have e : am_ewA (am_nm 176).cls (am_prog 176) = [am_u1092, am_u1123, am_u328, am_u326, am_u1105] := rfl
  rw [e]
  exact List.forall_mem_cons.mpr ⟨am_v1092, List.forall_mem_cons.mpr ⟨am_v1123, List.forall_mem_cons.mpr ⟨am_v328, List.forall_mem_cons.mpr ⟨am_v326, List.forall_mem_cons.mpr ⟨am_v1105, fun _ h => absurd h List.not_mem_nil⟩⟩⟩⟩⟩
theorem am_be176_0 : (List.range' 0 50).all (am_eb 176) = true := by decide +kernel
theorem am_ok176 (i : Nat) : am_eOk 176 i := by
  have hy : 176 < am_law → am_cP 176 := fun _ => am_cms 176 (by decide)
  have hw : ∀ w ∈ am_ewE (am_nm 176).cls (am_at 176 i), w ∈ am_G := fun w h => am_wl176 w (am_ewA_in h)
  refine am_e_ok hy hw ?_
  by_cases h0 : i < 50
  · exact List.all_eq_true.mp am_be176_0 i (List.mem_range'_1.mpr ⟨by omega, by omega⟩)
  exact am_eb_out (am_len_out (n := 50) (by decide) (by omega))
set_option maxRecDepth 100000 in
theorem am_wl177 : ∀ w ∈ am_ewA (am_nm 177).cls (am_prog 177), w ∈ am_G := by
  have e : am_ewA (am_nm 177).cls (am_prog 177) = [am_u860, am_u868, am_u860, am_u868, am_u860, am_u860, am_u868, am_u860, am_u860, am_u868, am_u860, am_u860, am_u860] := rfl
  rw [e]
  exact List.forall_mem_cons.mpr ⟨am_v860, List.forall_mem_cons.mpr ⟨am_v868, List.forall_mem_cons.mpr ⟨am_v860, List.forall_mem_cons.mpr ⟨am_v868, List.forall_mem_cons.mpr ⟨am_v860, List.forall_mem_cons.mpr ⟨am_v860, List.forall_mem_cons.mpr ⟨am_v868, List.forall_mem_cons.mpr ⟨am_v860, List.forall_mem_cons.mpr ⟨am_v860, List.forall_mem_cons.mpr ⟨am_v868, List.forall_mem_cons.mpr ⟨am_v860, List.forall_mem_cons.mpr ⟨am_v860, List.forall_mem_cons.mpr ⟨am_v860, fun _ h => absurd h List.not_mem_nil⟩⟩⟩⟩⟩⟩⟩⟩⟩⟩⟩⟩⟩
theorem am_be177_0 : (List.range' 0 64).all (am_eb 177) = true := by decide +kernel
theorem am_be177_1 : (List.range' 64 6).all (am_eb 177) = true := by decide +kernel
theorem am_ok177 (i : Nat) : am_eOk 177 i := by
  have hy : 177 < am_law → am_cP 177 := fun _ => am_cms 177 (by decide)
  have hw : ∀ w ∈ am_ewE (am_nm 177).cls (am_at 177 i), w ∈ am_G := fun w h => am_wl177 w (am_ewA_in h)
  refine am_e_ok hy hw ?_
  by_cases h0 : i < 64
  · exact List.all_eq_true.mp am_be177_0 i (List.mem_range'_1.mpr ⟨by omega, by omega⟩)
  by_cases h1 : i < 70
  · exact List.all_eq_true.mp am_be177_1 i (List.mem_range'_1.mpr ⟨by omega, by omega⟩)
  exact am_eb_out (am_len_out (n := 70) (by decide) (by omega))
set_option maxRecDepth 100000 in
theorem am_wl178 : ∀ w ∈ am_ewA (am_nm 178).cls (am_prog 178), w ∈ am_G := by
  have e : am_ewA (am_nm 178).cls (am_prog 178) = [am_u840, am_u232, am_u807, am_u807, am_u807, am_u233, am_u233, am_u235, am_u848, am_u840, am_u235, am_u848, am_u235, am_u848] := rfl
  rw [e]
  exact List.forall_mem_cons.mpr ⟨am_v840, List.forall_mem_cons.mpr ⟨am_v232, List.forall_mem_cons.mpr ⟨am_v807, List.forall_mem_cons.mpr ⟨am_v807, List.forall_mem_cons.mpr ⟨am_v807, List.forall_mem_cons.mpr ⟨am_v233, List.forall_mem_cons.mpr ⟨am_v233, List.forall_mem_cons.mpr ⟨am_v235, List.forall_mem_cons.mpr ⟨am_v848, List.forall_mem_cons.mpr ⟨am_v840, List.forall_mem_cons.mpr ⟨am_v235, List.forall_mem_cons.mpr ⟨am_v848, List.forall_mem_cons.mpr ⟨am_v235, List.forall_mem_cons.mpr ⟨am_v848, fun _ h => absurd h List.not_mem_nil⟩⟩⟩⟩⟩⟩⟩⟩⟩⟩⟩⟩⟩⟩
theorem am_be178_0 : (List.range' 0 64).all (am_eb 178) = true := by decide +kernel
theorem am_be178_1 : (List.range' 64 12).all (am_eb 178) = true := by decide +kernel
theorem am_ok178 (i : Nat) : am_eOk 178 i := by
  have hy : 178 < am_law → am_cP 178 := fun _ => am_cms 178 (by decide)
  have hw : ∀ w ∈ am_ewE (am_nm 178).cls (am_at 178 i), w ∈ am_G := fun w h => am_wl178 w (am_ewA_in h)
  refine am_e_ok hy hw ?_
  by_cases h0 : i < 64
  · exact List.all_eq_true.mp am_be178_0 i (List.mem_range'_1.mpr ⟨by omega, by omega⟩)
  by_cases h1 : i < 76
  · exact List.all_eq_true.mp am_be178_1 i (List.mem_range'_1.mpr ⟨by omega, by omega⟩)
  exact am_eb_out (am_len_out (n := 76) (by decide) (by omega))
set_option maxRecDepth 100000 in
theorem am_wl179 : ∀ w ∈ am_ewA (am_nm 179).cls (am_prog 179), w ∈ am_G := by
  have e : am_ewA (am_nm 179).cls (am_prog 179) = [am_u305, am_u1026, am_u305, am_u1026, am_u305, am_u1034, am_u1035] := rfl
  rw [e]
  exact List.forall_mem_cons.mpr ⟨am_v305, List.forall_mem_cons.mpr ⟨am_v1026, List.forall_mem_cons.mpr ⟨am_v305, List.forall_mem_cons.mpr ⟨am_v1026, List.forall_mem_cons.mpr ⟨am_v305, List.forall_mem_cons.mpr ⟨am_v1034, List.forall_mem_cons.mpr ⟨am_v1035, fun _ h => absurd h List.not_mem_nil⟩⟩⟩⟩⟩⟩⟩
theorem am_be179_0 : (List.range' 0 55).all (am_eb 179) = true := by decide +kernel
theorem am_ok179 (i : Nat) : am_eOk 179 i := by
  have hy : 179 < am_law → am_cP 179 := fun _ => am_cms 179 (by decide)
  have hw : ∀ w ∈ am_ewE (am_nm 179).cls (am_at 179 i), w ∈ am_G := fun w h => am_wl179 w (am_ewA_in h)
  refine am_e_ok hy hw ?_
  by_cases h0 : i < 55
  · exact List.all_eq_true.mp am_be179_0 i (List.mem_range'_1.mpr ⟨by omega, by omega⟩)
  exact am_eb_out (am_len_out (n := 55) (by decide) (by omega))
set_option maxRecDepth 100000 in
theorem am_wl180 : ∀ w ∈ am_ewA (am_nm 180).cls (am_prog 180), w ∈ am_G := by
  have e : am_ewA (am_nm 180).cls (am_prog 180) = [am_u1079, am_u1079, am_u1148, am_u1148] := rfl
  rw [e]
  exact List.forall_mem_cons.mpr ⟨am_v1079, List.forall_mem_cons.mpr ⟨am_v1079, List.forall_mem_cons.mpr ⟨am_v1148, List.forall_mem_cons.mpr ⟨am_v1148, fun _ h => absurd h List.not_mem_nil⟩⟩⟩⟩
theorem am_be180_0 : (List.range' 0 25).all (am_eb 180) = true := by decide +kernel
theorem am_ok180 (i : Nat) : am_eOk 180 i := by
  have hy : 180 < am_law → am_cP 180 := fun _ => am_cms 180 (by decide)
  have hw : ∀ w ∈ am_ewE (am_nm 180).cls (am_at 180 i), w ∈ am_G := fun w h => am_wl180 w (am_ewA_in h)
  refine am_e_ok hy hw ?_
  by_cases h0 : i < 25
  · exact List.all_eq_true.mp am_be180_0 i (List.mem_range'_1.mpr ⟨by omega, by omega⟩)
  exact am_eb_out (am_len_out (n := 25) (by decide) (by omega))
set_option maxRecDepth 100000 in
theorem am_wl181 : ∀ w ∈ am_ewA (am_nm 181).cls (am_prog 181), w ∈ am_G := by
  have e : am_ewA (am_nm 181).cls (am_prog 181) = [am_u26, am_u29, am_u31, am_u96, am_u98, am_u137, am_u137, am_u140, am_u171, am_u173, am_u190, am_u192, am_u340, am_u29, am_u31, am_u341, am_u342, am_u96, am_u98, am_u343, am_u203, am_u205, am_u344, am_u203, am_u205, am_u345, am_u346, am_u347, am_u223, am_u225, am_u349, am_u350, am_u351, am_u264, am_u266, am_u352, am_u299, am_u301, am_u353, am_u318, am_u320, am_u354] := rfl
  rw [e]
  exact List.forall_mem_cons.mpr ⟨am_v26, List.forall_mem_cons.mpr ⟨am_v29, List.forall_mem_cons.mpr ⟨am_v31, List.forall_mem_cons.mpr ⟨am_v96, List.forall_mem_cons.mpr ⟨am_v98, List.forall_mem_cons.mpr ⟨am_v137, List.forall_mem_cons.mpr ⟨am_v137, List.forall_mem_cons.mpr ⟨am_v140, List.forall_mem_cons.mpr ⟨am_v171, List.forall_mem_cons.mpr ⟨am_v173, List.forall_mem_cons.mpr ⟨am_v190, List.forall_mem_cons.mpr ⟨am_v192, List.forall_mem_cons.mpr ⟨am_v340, List.forall_mem_cons.mpr ⟨am_v29, List.forall_mem_cons.mpr ⟨am_v31, List.forall_mem_cons.mpr ⟨am_v341, List.forall_mem_cons.mpr ⟨am_v342, List.forall_mem_cons.mpr ⟨am_v96, List.forall_mem_cons.mpr ⟨am_v98, List.forall_mem_cons.mpr ⟨am_v343, List.forall_mem_cons.mpr ⟨am_v203, List.forall_mem_cons.mpr ⟨am_v205, List.forall_mem_cons.mpr ⟨am_v344, List.forall_mem_cons.mpr ⟨am_v203, List.forall_mem_cons.mpr ⟨am_v205, List.forall_mem_cons.mpr ⟨am_v345, List.forall_mem_cons.mpr ⟨am_v346, List.forall_mem_cons.mpr ⟨am_v347, List.forall_mem_cons.mpr ⟨am_v223, List.forall_mem_cons.mpr ⟨am_v225, List.forall_mem_cons.mpr ⟨am_v349, List.forall_mem_cons.mpr ⟨am_v350, List.forall_mem_cons.mpr ⟨am_v351, List.forall_mem_cons.mpr ⟨am_v264, List.forall_mem_cons.mpr ⟨am_v266, List.forall_mem_cons.mpr ⟨am_v352, List.forall_mem_cons.mpr ⟨am_v299, List.forall_mem_cons.mpr ⟨am_v301, List.forall_mem_cons.mpr ⟨am_v353, List.forall_mem_cons.mpr ⟨am_v318, List.forall_mem_cons.mpr ⟨am_v320, List.forall_mem_cons.mpr ⟨am_v354, fun _ h => absurd h List.not_mem_nil⟩⟩⟩⟩⟩⟩⟩⟩⟩⟩⟩⟩⟩⟩⟩⟩⟩⟩⟩⟩⟩⟩⟩⟩⟩⟩⟩⟩⟩⟩⟩⟩⟩⟩⟩⟩⟩⟩⟩⟩⟩⟩
theorem am_be181_0 : (List.range' 0 64).all (am_eb 181) = true := by decide +kernel
theorem am_be181_1 : (List.range' 64 45).all (am_eb 181) = true := by decide +kernel
theorem am_ok181 (i : Nat) : am_eOk 181 i := by
  have hy : 181 < am_law → am_cP 181 := fun _ => am_cms 181 (by decide)
  have hw : ∀ w ∈ am_ewE (am_nm 181).cls (am_at 181 i), w ∈ am_G := fun w h => am_wl181 w (am_ewA_in h)
  refine am_e_ok hy hw ?_
  by_cases h0 : i < 64
  · exact List.all_eq_true.mp am_be181_0 i (List.mem_range'_1.mpr ⟨by omega, by omega⟩)
  by_cases h1 : i < 109
  · exact List.all_eq_true.mp am_be181_1 i (List.mem_range'_1.mpr ⟨by omega, by omega⟩)
  exact am_eb_out (am_len_out (n := 109) (by decide) (by omega))
set_option maxRecDepth 100000 in
theorem am_wl182 : ∀ w ∈ am_ewA (am_nm 182).cls (am_prog 182), w ∈ am_G := by
  have e : am_ewA (am_nm 182).cls (am_prog 182) = [am_u340, am_u398] := rfl
  rw [e]
  exact List.forall_mem_cons.mpr ⟨am_v340, List.forall_mem_cons.mpr ⟨am_v398, fun _ h => absurd h List.not_mem_nil⟩⟩
theorem am_be182_0 : (List.range' 0 6).all (am_eb 182) = true := by decide +kernel
theorem am_ok182 (i : Nat) : am_eOk 182 i := by
  have hy : 182 < am_law → am_cP 182 := fun _ => am_cms 182 (by decide)
  have hw : ∀ w ∈ am_ewE (am_nm 182).cls (am_at 182 i), w ∈ am_G := fun w h => am_wl182 w (am_ewA_in h)
  refine am_e_ok hy hw ?_
  by_cases h0 : i < 6
  · exact List.all_eq_true.mp am_be182_0 i (List.mem_range'_1.mpr ⟨by omega, by omega⟩)
  exact am_eb_out (am_len_out (n := 6) (by decide) (by omega))
set_option maxRecDepth 100000 in
theorem am_wl183 : ∀ w ∈ am_ewA (am_nm 183).cls (am_prog 183), w ∈ am_G := by
  have e : am_ewA (am_nm 183).cls (am_prog 183) = [am_u340, am_u418, am_u340, am_u426] := rfl
  rw [e]
  exact List.forall_mem_cons.mpr ⟨am_v340, List.forall_mem_cons.mpr ⟨am_v418, List.forall_mem_cons.mpr ⟨am_v340, List.forall_mem_cons.mpr ⟨am_v426, fun _ h => absurd h List.not_mem_nil⟩⟩⟩⟩
theorem am_be183_0 : (List.range' 0 15).all (am_eb 183) = true := by decide +kernel
theorem am_ok183 (i : Nat) : am_eOk 183 i := by
  have hy : 183 < am_law → am_cP 183 := fun _ => am_cms 183 (by decide)
  have hw : ∀ w ∈ am_ewE (am_nm 183).cls (am_at 183 i), w ∈ am_G := fun w h => am_wl183 w (am_ewA_in h)
  refine am_e_ok hy hw ?_
  by_cases h0 : i < 15
  · exact List.all_eq_true.mp am_be183_0 i (List.mem_range'_1.mpr ⟨by omega, by omega⟩)
  exact am_eb_out (am_len_out (n := 15) (by decide) (by omega))
set_option maxRecDepth 100000 in
theorem am_wl184 : ∀ w ∈ am_ewA (am_nm 184).cls (am_prog 184), w ∈ am_G := by
  have e : am_ewA (am_nm 184).cls (am_prog 184) = [am_u340, am_u438, am_u342, am_u446, am_u344, am_u342, am_u458, am_u342, am_u342, am_u472, am_u479, am_u342, am_u472] := rfl
  rw [e]
  exact List.forall_mem_cons.mpr ⟨am_v340, List.forall_mem_cons.mpr ⟨am_v438, List.forall_mem_cons.mpr ⟨am_v342, List.forall_mem_cons.mpr ⟨am_v446, List.forall_mem_cons.mpr ⟨am_v344, List.forall_mem_cons.mpr ⟨am_v342, List.forall_mem_cons.mpr ⟨am_v458, List.forall_mem_cons.mpr ⟨am_v342, List.forall_mem_cons.mpr ⟨am_v342, List.forall_mem_cons.mpr ⟨am_v472, List.forall_mem_cons.mpr ⟨am_v479, List.forall_mem_cons.mpr ⟨am_v342, List.forall_mem_cons.mpr ⟨am_v472, fun _ h => absurd h List.not_mem_nil⟩⟩⟩⟩⟩⟩⟩⟩⟩⟩⟩⟩⟩
theorem am_be184_0 : (List.range' 0 44).all (am_eb 184) = true := by decide +kernel
theorem am_ok184 (i : Nat) : am_eOk 184 i := by
  have hy : 184 < am_law → am_cP 184 := fun _ => am_cms 184 (by decide)
  have hw : ∀ w ∈ am_ewE (am_nm 184).cls (am_at 184 i), w ∈ am_G := fun w h => am_wl184 w (am_ewA_in h)
  refine am_e_ok hy hw ?_
  by_cases h0 : i < 44
  · exact List.all_eq_true.mp am_be184_0 i (List.mem_range'_1.mpr ⟨by omega, by omega⟩)
  exact am_eb_out (am_len_out (n := 44) (by decide) (by omega))
set_option maxRecDepth 100000 in
theorem am_wl185 : ∀ w ∈ am_ewA (am_nm 185).cls (am_prog 185), w ∈ am_G := by
  have e : am_ewA (am_nm 185).cls (am_prog 185) = [am_u340, am_u438, am_u342, am_u490, am_u342, am_u555, am_u344, am_u342, am_u458, am_u342, am_u556] := rfl
  rw [e]
  exact List.forall_mem_cons.mpr ⟨am_v340, List.forall_mem_cons.mpr ⟨am_v438, List.forall_mem_cons.mpr ⟨am_v342, List.forall_mem_cons.mpr ⟨am_v490, List.forall_mem_cons.mpr ⟨am_v342, List.forall_mem_cons.mpr ⟨am_v555, List.forall_mem_cons.mpr ⟨am_v344, List.forall_mem_cons.mpr ⟨am_v342, List.forall_mem_cons.mpr ⟨am_v458, List.forall_mem_cons.mpr ⟨am_v342, List.forall_mem_cons.mpr ⟨am_v556, fun _ h => absurd h List.not_mem_nil⟩⟩⟩⟩⟩⟩⟩⟩⟩⟩⟩
theorem am_be185_0 : (List.range' 0 33).all (am_eb 185) = true := by decide +kernel
theorem am_ok185 (i : Nat) : am_eOk 185 i := by
  have hy : 185 < am_law → am_cP 185 := fun _ => am_cms 185 (by decide)
  have hw : ∀ w ∈ am_ewE (am_nm 185).cls (am_at 185 i), w ∈ am_G := fun w h => am_wl185 w (am_ewA_in h)
  refine am_e_ok hy hw ?_
  by_cases h0 : i < 33
  · exact List.all_eq_true.mp am_be185_0 i (List.mem_range'_1.mpr ⟨by omega, by omega⟩)
  exact am_eb_out (am_len_out (n := 33) (by decide) (by omega))
set_option maxRecDepth 100000 in
theorem am_wl186 : ∀ w ∈ am_ewA (am_nm 186).cls (am_prog 186), w ∈ am_G := by
  have e : am_ewA (am_nm 186).cls (am_prog 186) = [am_u340, am_u543, am_u340, am_u438, am_u342, am_u490, am_u342, am_u564, am_u344, am_u342, am_u458, am_u342, am_u565] := rfl
  rw [e]
  exact List.forall_mem_cons.mpr ⟨am_v340, List.forall_mem_cons.mpr ⟨am_v543, List.forall_mem_cons.mpr ⟨am_v340, List.forall_mem_cons.mpr ⟨am_v438, List.forall_mem_cons.mpr ⟨am_v342, List.forall_mem_cons.mpr ⟨am_v490, List.forall_mem_cons.mpr ⟨am_v342, List.forall_mem_cons.mpr ⟨am_v564, List.forall_mem_cons.mpr ⟨am_v344, List.forall_mem_cons.mpr ⟨am_v342, List.forall_mem_cons.mpr ⟨am_v458, List.forall_mem_cons.mpr ⟨am_v342, List.forall_mem_cons.mpr ⟨am_v565, fun _ h => absurd h List.not_mem_nil⟩⟩⟩⟩⟩⟩⟩⟩⟩⟩⟩⟩⟩
theorem am_be186_0 : (List.range' 0 42).all (am_eb 186) = true := by decide +kernel
theorem am_ok186 (i : Nat) : am_eOk 186 i := by
  have hy : 186 < am_law → am_cP 186 := fun _ => am_cms 186 (by decide)
  have hw : ∀ w ∈ am_ewE (am_nm 186).cls (am_at 186 i), w ∈ am_G := fun w h => am_wl186 w (am_ewA_in h)
  refine am_e_ok hy hw ?_
  by_cases h0 : i < 42
  · exact List.all_eq_true.mp am_be186_0 i (List.mem_range'_1.mpr ⟨by omega, by omega⟩)
  exact am_eb_out (am_len_out (n := 42) (by decide) (by omega))
set_option maxRecDepth 100000 in
theorem am_wl187 : ∀ w ∈ am_ewA (am_nm 187).cls (am_prog 187), w ∈ am_G := by
  have e : am_ewA (am_nm 187).cls (am_prog 187) = [am_u344, am_u342, am_u916] := rfl
  rw [e]
  exact List.forall_mem_cons.mpr ⟨am_v344, List.forall_mem_cons.mpr ⟨am_v342, List.forall_mem_cons.mpr ⟨am_v916, fun _ h => absurd h List.not_mem_nil⟩⟩⟩
theorem am_be187_0 : (List.range' 0 6).all (am_eb 187) = true := by decide +kernel
theorem am_ok187 (i : Nat) : am_eOk 187 i := by
  have hy : 187 < am_law → am_cP 187 := fun _ => am_cms 187 (by decide)
  have hw : ∀ w ∈ am_ewE (am_nm 187).cls (am_at 187 i), w ∈ am_G := fun w h => am_wl187 w (am_ewA_in h)
  refine am_e_ok hy hw ?_
  by_cases h0 : i < 6
  · exact List.all_eq_true.mp am_be187_0 i (List.mem_range'_1.mpr ⟨by omega, by omega⟩)
  exact am_eb_out (am_len_out (n := 6) (by decide) (by omega))
set_option maxRecDepth 100000 in
theorem am_wl188 : ∀ w ∈ am_ewA (am_nm 188).cls (am_prog 188), w ∈ am_G := by
  have e : am_ewA (am_nm 188).cls (am_prog 188) = [am_u340, am_u944, am_u340, am_u945, am_u340, am_u949] := rfl
  rw [e]
  exact List.forall_mem_cons.mpr ⟨am_v340, List.forall_mem_cons.mpr ⟨am_v944, List.forall_mem_cons.mpr ⟨am_v340, List.forall_mem_cons.mpr ⟨am_v945, List.forall_mem_cons.mpr ⟨am_v340, List.forall_mem_cons.mpr ⟨am_v949, fun _ h => absurd h List.not_mem_nil⟩⟩⟩⟩⟩⟩
theorem am_be188_0 : (List.range' 0 25).all (am_eb 188) = true := by decide +kernel
theorem am_ok188 (i : Nat) : am_eOk 188 i := by
  have hy : 188 < am_law → am_cP 188 := fun _ => am_cms 188 (by decide)
  have hw : ∀ w ∈ am_ewE (am_nm 188).cls (am_at 188 i), w ∈ am_G := fun w h => am_wl188 w (am_ewA_in h)
  refine am_e_ok hy hw ?_
  by_cases h0 : i < 25
  · exact List.all_eq_true.mp am_be188_0 i (List.mem_range'_1.mpr ⟨by omega, by omega⟩)
  exact am_eb_out (am_len_out (n := 25) (by decide) (by omega))
set_option maxRecDepth 100000 in
theorem am_wl189 : ∀ w ∈ am_ewA (am_nm 189).cls (am_prog 189), w ∈ am_G := by
  have e : am_ewA (am_nm 189).cls (am_prog 189) = [am_u340, am_u418, am_u353, am_u1075] := rfl
  rw [e]
  exact List.forall_mem_cons.mpr ⟨am_v340, List.forall_mem_cons.mpr ⟨am_v418, List.forall_mem_cons.mpr ⟨am_v353, List.forall_mem_cons.mpr ⟨am_v1075, fun _ h => absurd h List.not_mem_nil⟩⟩⟩⟩
theorem am_be189_0 : (List.range' 0 12).all (am_eb 189) = true := by decide +kernel
theorem am_ok189 (i : Nat) : am_eOk 189 i := by
  have hy : 189 < am_law → am_cP 189 := fun _ => am_cms 189 (by decide)
  have hw : ∀ w ∈ am_ewE (am_nm 189).cls (am_at 189 i), w ∈ am_G := fun w h => am_wl189 w (am_ewA_in h)
  refine am_e_ok hy hw ?_
  by_cases h0 : i < 12
  · exact List.all_eq_true.mp am_be189_0 i (List.mem_range'_1.mpr ⟨by omega, by omega⟩)
  exact am_eb_out (am_len_out (n := 12) (by decide) (by omega))
set_option maxRecDepth 100000 in
theorem am_wl190 : ∀ w ∈ am_ewA (am_nm 190).cls (am_prog 190), w ∈ am_G := by
  have e : am_ewA (am_nm 190).cls (am_prog 190) = [am_u341, am_u340, am_u1169, am_u343, am_u342, am_u1174, am_u345, am_u344, am_u1175, am_u342, am_u116] := rfl
  rw [e]
  exact List.forall_mem_cons.mpr ⟨am_v341, List.forall_mem_cons.mpr ⟨am_v340, List.forall_mem_cons.mpr ⟨am_v1169, List.forall_mem_cons.mpr ⟨am_v343, List.forall_mem_cons.mpr ⟨am_v342, List.forall_mem_cons.mpr ⟨am_v1174, List.forall_mem_cons.mpr ⟨am_v345, List.forall_mem_cons.mpr ⟨am_v344, List.forall_mem_cons.mpr ⟨am_v1175, List.forall_mem_cons.mpr ⟨am_v342, List.forall_mem_cons.mpr ⟨am_v116, fun _ h => absurd h List.not_mem_nil⟩⟩⟩⟩⟩⟩⟩⟩⟩⟩⟩
theorem am_be190_0 : (List.range' 0 19).all (am_eb 190) = true := by decide +kernel
theorem am_ok190 (i : Nat) : am_eOk 190 i := by
  have hy : 190 < am_law → am_cP 190 := fun _ => am_cms 190 (by decide)
  have hw : ∀ w ∈ am_ewE (am_nm 190).cls (am_at 190 i), w ∈ am_G := fun w h => am_wl190 w (am_ewA_in h)
  refine am_e_ok hy hw ?_
  by_cases h0 : i < 19
  · exact List.all_eq_true.mp am_be190_0 i (List.mem_range'_1.mpr ⟨by omega, by omega⟩)
  exact am_eb_out (am_len_out (n := 19) (by decide) (by omega))
set_option maxRecDepth 100000 in
theorem am_wl191 : ∀ w ∈ am_ewA (am_nm 191).cls (am_prog 191), w ∈ am_G := by
  have e : am_ewA (am_nm 191).cls (am_prog 191) = [am_u340, am_u341, am_u1169, am_u342, am_u343, am_u1174, am_u344, am_u345, am_u1175, am_u342, am_u116] := rfl
  rw [e]
  exact List.forall_mem_cons.mpr ⟨am_v340, List.forall_mem_cons.mpr ⟨am_v341, List.forall_mem_cons.mpr ⟨am_v1169, List.forall_mem_cons.mpr ⟨am_v342, List.forall_mem_cons.mpr ⟨am_v343, List.forall_mem_cons.mpr ⟨am_v1174, List.forall_mem_cons.mpr ⟨am_v344, List.forall_mem_cons.mpr ⟨am_v345, List.forall_mem_cons.mpr ⟨am_v1175, List.forall_mem_cons.mpr ⟨am_v342, List.forall_mem_cons.mpr ⟨am_v116, fun _ h => absurd h List.not_mem_nil⟩⟩⟩⟩⟩⟩⟩⟩⟩⟩⟩
theorem am_be191_0 : (List.range' 0 19).all (am_eb 191) = true := by decide +kernel
theorem am_ok191 (i : Nat) : am_eOk 191 i := by
  have hy : 191 < am_law → am_cP 191 := fun _ => am_cms 191 (by decide)
  have hw : ∀ w ∈ am_ewE (am_nm 191).cls (am_at 191 i), w ∈ am_G := fun w h => am_wl191 w (am_ewA_in h)
  refine am_e_ok hy hw ?_
  by_cases h0 : i < 19
  · exact List.all_eq_true.mp am_be191_0 i (List.mem_range'_1.mpr ⟨by omega, by omega⟩)
  exact am_eb_out (am_len_out (n := 19) (by decide) (by omega))
set_option maxRecDepth 100000 in
theorem am_wl192 : ∀ w ∈ am_ewA (am_nm 192).cls (am_prog 192), w ∈ am_G := by
  have e : am_ewA (am_nm 192).cls (am_prog 192) = [am_u1372, am_u1372, am_u1197, am_u1376, am_u1197, am_u1197] := rfl
  rw [e]
  exact List.forall_mem_cons.mpr ⟨am_v1372, List.forall_mem_cons.mpr ⟨am_v1372, List.forall_mem_cons.mpr ⟨am_v1197, List.forall_mem_cons.mpr ⟨am_v1376, List.forall_mem_cons.mpr ⟨am_v1197, List.forall_mem_cons.mpr ⟨am_v1197, fun _ h => absurd h List.not_mem_nil⟩⟩⟩⟩⟩⟩
theorem am_be192_0 : (List.range' 0 41).all (am_eb 192) = true := by decide +kernel
theorem am_ok192 (i : Nat) : am_eOk 192 i := by
  have hy : 192 < am_law → am_cP 192 := fun _ => am_cms 192 (by decide)
  have hw : ∀ w ∈ am_ewE (am_nm 192).cls (am_at 192 i), w ∈ am_G := fun w h => am_wl192 w (am_ewA_in h)
  refine am_e_ok hy hw ?_
  by_cases h0 : i < 41
  · exact List.all_eq_true.mp am_be192_0 i (List.mem_range'_1.mpr ⟨by omega, by omega⟩)
  exact am_eb_out (am_len_out (n := 41) (by decide) (by omega))
set_option maxRecDepth 100000 in
theorem am_wl193 : ∀ w ∈ am_ewA (am_nm 193).cls (am_prog 193), w ∈ am_G := by
  have e : am_ewA (am_nm 193).cls (am_prog 193) = [am_u1197, am_u1387, am_u1197, am_u1197] := rfl
  rw [e]
  exact List.forall_mem_cons.mpr ⟨am_v1197, List.forall_mem_cons.mpr ⟨am_v1387, List.forall_mem_cons.mpr ⟨am_v1197, List.forall_mem_cons.mpr ⟨am_v1197, fun _ h => absurd h List.not_mem_nil⟩⟩⟩⟩
theorem am_be193_0 : (List.range' 0 34).all (am_eb 193) = true := by decide +kernel
theorem am_ok193 (i : Nat) : am_eOk 193 i := by
  have hy : 193 < am_law → am_cP 193 := fun _ => am_cms 193 (by decide)
  have hw : ∀ w ∈ am_ewE (am_nm 193).cls (am_at 193 i), w ∈ am_G := fun w h => am_wl193 w (am_ewA_in h)
  refine am_e_ok hy hw ?_
  by_cases h0 : i < 34
  · exact List.all_eq_true.mp am_be193_0 i (List.mem_range'_1.mpr ⟨by omega, by omega⟩)
  exact am_eb_out (am_len_out (n := 34) (by decide) (by omega))
set_option maxRecDepth 100000 in
theorem am_wl194 : ∀ w ∈ am_ewA (am_nm 194).cls (am_prog 194), w ∈ am_G := by
  have e : am_ewA (am_nm 194).cls (am_prog 194) = [am_u1212, am_u1211, am_u1199, am_u1212, am_u1199, am_u1212, am_u1212, am_u1212, am_u1212, am_u1213, am_u1212, am_u1211, am_u1214, am_u1199, am_u1212, am_u1419, am_u1212, am_u1211, am_u1199, am_u1212, am_u1419, am_u1422, am_u1199, am_u1212, am_u1422, am_u1212, am_u1212, am_u1423, am_u1215, am_u1215, am_u1214, am_u1365, am_u1214, am_u1215, am_u1212, am_u1211, am_u1199, am_u1212, am_u1365, am_u1215, am_u1455, am_u1215, am_u1215, am_u1199, am_u1212, am_u1215, am_u1212, am_u1212, am_u1212, am_u1212, am_u1215, am_u1365, am_u1365, am_u1214, am_u1212, am_u1211, am_u1199, am_u1212, am_u1215, am_u1212, am_u1212] := rfl
  rw [e]
  exact by
    refine List.forall_mem_cons.mpr ⟨am_v1212, ?_⟩
    refine List.forall_mem_cons.mpr ⟨am_v1211, ?_⟩
    refine List.forall_mem_cons.mpr ⟨am_v1199, ?_⟩
    refine List.forall_mem_cons.mpr ⟨am_v1212, ?_⟩
    refine List.forall_mem_cons.mpr ⟨am_v1199, ?_⟩
    refine List.forall_mem_cons.mpr ⟨am_v1212, ?_⟩
    refine List.forall_mem_cons.mpr ⟨am_v1212, ?_⟩
    refine List.forall_mem_cons.mpr ⟨am_v1212, ?_⟩
    refine List.forall_mem_cons.mpr ⟨am_v1212, ?_⟩
    refine List.forall_mem_cons.mpr ⟨am_v1213, ?_⟩
    refine List.forall_mem_cons.mpr ⟨am_v1212, ?_⟩
    refine List.forall_mem_cons.mpr ⟨am_v1211, ?_⟩
    refine List.forall_mem_cons.mpr ⟨am_v1214, ?_⟩
    refine List.forall_mem_cons.mpr ⟨am_v1199, ?_⟩
    refine List.forall_mem_cons.mpr ⟨am_v1212, ?_⟩
    refine List.forall_mem_cons.mpr ⟨am_v1419, ?_⟩
    refine List.forall_mem_cons.mpr ⟨am_v1212, ?_⟩
    refine List.forall_mem_cons.mpr ⟨am_v1211, ?_⟩
    refine List.forall_mem_cons.mpr ⟨am_v1199, ?_⟩
    refine List.forall_mem_cons.mpr ⟨am_v1212, ?_⟩
    refine List.forall_mem_cons.mpr ⟨am_v1419, ?_⟩
    refine List.forall_mem_cons.mpr ⟨am_v1422, ?_⟩
    refine List.forall_mem_cons.mpr ⟨am_v1199, ?_⟩
    refine List.forall_mem_cons.mpr ⟨am_v1212, ?_⟩
    refine List.forall_mem_cons.mpr ⟨am_v1422, ?_⟩
    refine List.forall_mem_cons.mpr ⟨am_v1212, ?_⟩
    refine List.forall_mem_cons.mpr ⟨am_v1212, ?_⟩
    refine List.forall_mem_cons.mpr ⟨am_v1423, ?_⟩
    refine List.forall_mem_cons.mpr ⟨am_v1215, ?_⟩
    refine List.forall_mem_cons.mpr ⟨am_v1215, ?_⟩
    refine List.forall_mem_cons.mpr ⟨am_v1214, ?_⟩
    refine List.forall_mem_cons.mpr ⟨am_v1365, ?_⟩
    refine List.forall_mem_cons.mpr ⟨am_v1214, ?_⟩
    refine List.forall_mem_cons.mpr ⟨am_v1215, ?_⟩
    refine List.forall_mem_cons.mpr ⟨am_v1212, ?_⟩
    refine List.forall_mem_cons.mpr ⟨am_v1211, ?_⟩
    refine List.forall_mem_cons.mpr ⟨am_v1199, ?_⟩
    refine List.forall_mem_cons.mpr ⟨am_v1212, ?_⟩
    refine List.forall_mem_cons.mpr ⟨am_v1365, ?_⟩
    refine List.forall_mem_cons.mpr ⟨am_v1215, ?_⟩
    refine List.forall_mem_cons.mpr ⟨am_v1455, ?_⟩
    refine List.forall_mem_cons.mpr ⟨am_v1215, ?_⟩
    refine List.forall_mem_cons.mpr ⟨am_v1215, ?_⟩
    refine List.forall_mem_cons.mpr ⟨am_v1199, ?_⟩
    refine List.forall_mem_cons.mpr ⟨am_v1212, ?_⟩
    refine List.forall_mem_cons.mpr ⟨am_v1215, ?_⟩
    refine List.forall_mem_cons.mpr ⟨am_v1212, ?_⟩
    refine List.forall_mem_cons.mpr ⟨am_v1212, ?_⟩
    refine List.forall_mem_cons.mpr ⟨am_v1212, ?_⟩
    refine List.forall_mem_cons.mpr ⟨am_v1212, ?_⟩
    refine List.forall_mem_cons.mpr ⟨am_v1215, ?_⟩
    refine List.forall_mem_cons.mpr ⟨am_v1365, ?_⟩
    refine List.forall_mem_cons.mpr ⟨am_v1365, ?_⟩
    refine List.forall_mem_cons.mpr ⟨am_v1214, ?_⟩
    refine List.forall_mem_cons.mpr ⟨am_v1212, ?_⟩
    refine List.forall_mem_cons.mpr ⟨am_v1211, ?_⟩
    refine List.forall_mem_cons.mpr ⟨am_v1199, ?_⟩
    refine List.forall_mem_cons.mpr ⟨am_v1212, ?_⟩
    refine List.forall_mem_cons.mpr ⟨am_v1215, ?_⟩
    refine List.forall_mem_cons.mpr ⟨am_v1212, ?_⟩
    refine List.forall_mem_cons.mpr ⟨am_v1212, ?_⟩
    exact fun _ h => absurd h List.not_mem_nil
theorem am_be194_0 : (List.range' 0 64).all (am_eb 194) = true := by decide +kernel
theorem am_be194_1 : (List.range' 64 64).all (am_eb 194) = true := by decide +kernel
theorem am_be194_2 : (List.range' 128 64).all (am_eb 194) = true := by decide +kernel
theorem am_be194_3 : (List.range' 192 40).all (am_eb 194) = true := by decide +kernel
theorem am_ok194 (i : Nat) : am_eOk 194 i := by
  have hy : 194 < am_law → am_cP 194 := fun _ => am_cms 194 (by decide)
  have hw : ∀ w ∈ am_ewE (am_nm 194).cls (am_at 194 i), w ∈ am_G := fun w h => am_wl194 w (am_ewA_in h)
  refine am_e_ok hy hw ?_
  by_cases h0 : i < 64
  · exact List.all_eq_true.mp am_be194_0 i (List.mem_range'_1.mpr ⟨by omega, by omega⟩)
  by_cases h1 : i < 128
  · exact List.all_eq_true.mp am_be194_1 i (List.mem_range'_1.mpr ⟨by omega, by omega⟩)
  by_cases h2 : i < 192
  · exact List.all_eq_true.mp am_be194_2 i (List.mem_range'_1.mpr ⟨by omega, by omega⟩)
  by_cases h3 : i < 232
  · exact List.all_eq_true.mp am_be194_3 i (List.mem_range'_1.mpr ⟨by omega, by omega⟩)
  exact am_eb_out (am_len_out (n := 232) (by decide) (by omega))
set_option maxRecDepth 100000 in
theorem am_wl195 : ∀ w ∈ am_ewA (am_nm 195).cls (am_prog 195), w ∈ am_G := by
  have e : am_ewA (am_nm 195).cls (am_prog 195) = [am_u1209, am_u1209, am_u1237, am_u1210, am_u1236, am_u1210, am_u1237, am_u1237, am_u1237, am_u1237, am_u1601, am_u1237, am_u1237, am_u1237, am_u1237, am_u1237, am_u1606, am_u1237] := rfl
  rw [e]
  exact List.forall_mem_cons.mpr ⟨am_v1209, List.forall_mem_cons.mpr ⟨am_v1209, List.forall_mem_cons.mpr ⟨am_v1237, List.forall_mem_cons.mpr ⟨am_v1210, List.forall_mem_cons.mpr ⟨am_v1236, List.forall_mem_cons.mpr ⟨am_v1210, List.forall_mem_cons.mpr ⟨am_v1237, List.forall_mem_cons.mpr ⟨am_v1237, List.forall_mem_cons.mpr ⟨am_v1237, List.forall_mem_cons.mpr ⟨am_v1237, List.forall_mem_cons.mpr ⟨am_v1601, List.forall_mem_cons.mpr ⟨am_v1237, List.forall_mem_cons.mpr ⟨am_v1237, List.forall_mem_cons.mpr ⟨am_v1237, List.forall_mem_cons.mpr ⟨am_v1237, List.forall_mem_cons.mpr ⟨am_v1237, List.forall_mem_cons.mpr ⟨am_v1606, List.forall_mem_cons.mpr ⟨am_v1237, fun _ h => absurd h List.not_mem_nil⟩⟩⟩⟩⟩⟩⟩⟩⟩⟩⟩⟩⟩⟩⟩⟩⟩⟩
theorem am_be195_0 : (List.range' 0 64).all (am_eb 195) = true := by decide +kernel
theorem am_be195_1 : (List.range' 64 61).all (am_eb 195) = true := by decide +kernel
theorem am_ok195 (i : Nat) : am_eOk 195 i := by
  have hy : 195 < am_law → am_cP 195 := fun _ => am_cms 195 (by decide)
  have hw : ∀ w ∈ am_ewE (am_nm 195).cls (am_at 195 i), w ∈ am_G := fun w h => am_wl195 w (am_ewA_in h)
  refine am_e_ok hy hw ?_
  by_cases h0 : i < 64
  · exact List.all_eq_true.mp am_be195_0 i (List.mem_range'_1.mpr ⟨by omega, by omega⟩)
  by_cases h1 : i < 125
  · exact List.all_eq_true.mp am_be195_1 i (List.mem_range'_1.mpr ⟨by omega, by omega⟩)
  exact am_eb_out (am_len_out (n := 125) (by decide) (by omega))
