/-! rows of the methods 129 .. 164 -/
set_option maxRecDepth 100000 in
theorem am_wl129 : ∀ w ∈ am_ewA (am_nm 129).cls (am_prog 129), w ∈ am_G := by
  have e : am_ewA (am_nm 129).cls (am_prog 129) = [am_u305, am_u45, am_u305, am_u1039] := rfl
  rw [e]
  exact List.forall_mem_cons.mpr ⟨am_v305, List.forall_mem_cons.mpr ⟨am_v45, List.forall_mem_cons.mpr ⟨am_v305, List.forall_mem_cons.mpr ⟨am_v1039, fun _ h => absurd h List.not_mem_nil⟩⟩⟩⟩
theorem am_be129_0 : (List.range' 0 32).all (am_eb 129) = true := by decide +kernel
theorem am_ok129 (i : Nat) : am_eOk 129 i := by
  have hy : 129 < am_law → am_cP 129 := fun _ => am_cms 129 (by decide)
  have hw : ∀ w ∈ am_ewE (am_nm 129).cls (am_at 129 i), w ∈ am_G := fun w h => am_wl129 w (am_ewA_in h)
  refine am_e_ok hy hw ?_
  by_cases h0 : i < 32
  · exact List.all_eq_true.mp am_be129_0 i (List.mem_range'_1.mpr ⟨by omega, by omega⟩)
  exact am_eb_out (am_len_out (n := 32) (by decide) (by omega))
set_option maxRecDepth 100000 in
theorem am_wl130 : ∀ w ∈ am_ewA (am_nm 130).cls (am_prog 130), w ∈ am_G := by
  have e : am_ewA (am_nm 130).cls (am_prog 130) = [am_u305, am_u54, am_u1079, am_u1079, am_u305, am_u1080] := rfl
  rw [e]
  exact List.forall_mem_cons.mpr ⟨am_v305, List.forall_mem_cons.mpr ⟨am_v54, List.forall_mem_cons.mpr ⟨am_v1079, List.forall_mem_cons.mpr ⟨am_v1079, List.forall_mem_cons.mpr ⟨am_v305, List.forall_mem_cons.mpr ⟨am_v1080, fun _ h => absurd h List.not_mem_nil⟩⟩⟩⟩⟩⟩
theorem am_be130_0 : (List.range' 0 43).all (am_eb 130) = true := by decide +kernel
theorem am_ok130 (i : Nat) : am_eOk 130 i := by
  have hy : 130 < am_law → am_cP 130 := fun _ => am_cms 130 (by decide)
  have hw : ∀ w ∈ am_ewE (am_nm 130).cls (am_at 130 i), w ∈ am_G := fun w h => am_wl130 w (am_ewA_in h)
  refine am_e_ok hy hw ?_
  by_cases h0 : i < 43
  · exact List.all_eq_true.mp am_be130_0 i (List.mem_range'_1.mpr ⟨by omega, by omega⟩)
  exact am_eb_out (am_len_out (n := 43) (by decide) (by omega))
set_option maxRecDepth 100000 in
theorem am_wl131 : ∀ w ∈ am_ewA (am_nm 131).cls (am_prog 131), w ∈ am_G := by
  have e : am_ewA (am_nm 131).cls (am_prog 131) = [am_u305, am_u50, am_u305, am_u308, am_u1152] := rfl
  rw [e]
  exact List.forall_mem_cons.mpr ⟨am_v305, List.forall_mem_cons.mpr ⟨am_v50, List.forall_mem_cons.mpr ⟨am_v305, List.forall_mem_cons.mpr ⟨am_v308, List.forall_mem_cons.mpr ⟨am_v1152, fun _ h => absurd h List.not_mem_nil⟩⟩⟩⟩⟩
theorem am_be131_0 : (List.range' 0 36).all (am_eb 131) = true := by decide +kernel
theorem am_ok131 (i : Nat) : am_eOk 131 i := by
  have hy : 131 < am_law → am_cP 131 := fun _ => am_cms 131 (by decide)
  have hw : ∀ w ∈ am_ewE (am_nm 131).cls (am_at 131 i), w ∈ am_G := fun w h => am_wl131 w (am_ewA_in h)
  refine am_e_ok hy hw ?_
  by_cases h0 : i < 36
  · exact List.all_eq_true.mp am_be131_0 i (List.mem_range'_1.mpr ⟨by omega, by omega⟩)
  exact am_eb_out (am_len_out (n := 36) (by decide) (by omega))
set_option maxRecDepth 100000 in
theorem am_wl132 : ∀ w ∈ am_ewA (am_nm 132).cls (am_prog 132), w ∈ am_G := by
  have e : am_ewA (am_nm 132).cls (am_prog 132) = [am_u208, am_u209, am_u212, am_u212, am_u212, am_u209, am_u211] := rfl
  rw [e]
  exact List.forall_mem_cons.mpr ⟨am_v208, List.forall_mem_cons.mpr ⟨am_v209, List.forall_mem_cons.mpr ⟨am_v212, List.forall_mem_cons.mpr ⟨am_v212, List.forall_mem_cons.mpr ⟨am_v212, List.forall_mem_cons.mpr ⟨am_v209, List.forall_mem_cons.mpr ⟨am_v211, fun _ h => absurd h List.not_mem_nil⟩⟩⟩⟩⟩⟩⟩
theorem am_be132_0 : (List.range' 0 24).all (am_eb 132) = true := by decide +kernel
theorem am_ok132 (i : Nat) : am_eOk 132 i := by
  have hy : 132 < am_law → am_cP 132 := fun _ => am_cms 132 (by decide)
  have hw : ∀ w ∈ am_ewE (am_nm 132).cls (am_at 132 i), w ∈ am_G := fun w h => am_wl132 w (am_ewA_in h)
  refine am_e_ok hy hw ?_
  by_cases h0 : i < 24
  · exact List.all_eq_true.mp am_be132_0 i (List.mem_range'_1.mpr ⟨by omega, by omega⟩)
  exact am_eb_out (am_len_out (n := 24) (by decide) (by omega))
set_option maxRecDepth 100000 in
theorem am_wl133 : ∀ w ∈ am_ewA (am_nm 133).cls (am_prog 133), w ∈ am_G := by
  have e : am_ewA (am_nm 133).cls (am_prog 133) = [am_u212, am_u212, am_u212, am_u212, am_u462, am_u213, am_u213, am_u214, am_u214] := rfl
  rw [e]
  exact List.forall_mem_cons.mpr ⟨am_v212, List.forall_mem_cons.mpr ⟨am_v212, List.forall_mem_cons.mpr ⟨am_v212, List.forall_mem_cons.mpr ⟨am_v212, List.forall_mem_cons.mpr ⟨am_v462, List.forall_mem_cons.mpr ⟨am_v213, List.forall_mem_cons.mpr ⟨am_v213, List.forall_mem_cons.mpr ⟨am_v214, List.forall_mem_cons.mpr ⟨am_v214, fun _ h => absurd h List.not_mem_nil⟩⟩⟩⟩⟩⟩⟩⟩⟩
theorem am_be133_0 : (List.range' 0 37).all (am_eb 133) = true := by decide +kernel
theorem am_ok133 (i : Nat) : am_eOk 133 i := by
  have hy : 133 < am_law → am_cP 133 := fun _ => am_cms 133 (by decide)
  have hw : ∀ w ∈ am_ewE (am_nm 133).cls (am_at 133 i), w ∈ am_G := fun w h => am_wl133 w (am_ewA_in h)
  refine am_e_ok hy hw ?_
  by_cases h0 : i < 37
  · exact List.all_eq_true.mp am_be133_0 i (List.mem_range'_1.mpr ⟨by omega, by omega⟩)
  exact am_eb_out (am_len_out (n := 37) (by decide) (by omega))
set_option maxRecDepth 100000 in
theorem am_wl134 : ∀ w ∈ am_ewA (am_nm 134).cls (am_prog 134), w ∈ am_G := by
  have e : am_ewA (am_nm 134).cls (am_prog 134) = [am_u213, am_u213, am_u212, am_u213, am_u212, am_u213, am_u462, am_u213, am_u213, am_u214, am_u469, am_u214] := rfl
  rw [e]
  exact List.forall_mem_cons.mpr ⟨am_v213, List.forall_mem_cons.mpr ⟨am_v213, List.forall_mem_cons.mpr ⟨am_v212, List.forall_mem_cons.mpr ⟨am_v213, List.forall_mem_cons.mpr ⟨am_v212, List.forall_mem_cons.mpr ⟨am_v213, List.forall_mem_cons.mpr ⟨am_v462, List.forall_mem_cons.mpr ⟨am_v213, List.forall_mem_cons.mpr ⟨am_v213, List.forall_mem_cons.mpr ⟨am_v214, List.forall_mem_cons.mpr ⟨am_v469, List.forall_mem_cons.mpr ⟨am_v214, fun _ h => absurd h List.not_mem_nil⟩⟩⟩⟩⟩⟩⟩⟩⟩⟩⟩⟩
theorem am_be134_0 : (List.range' 0 38).all (am_eb 134) = true := by decide +kernel
theorem am_ok134 (i : Nat) : am_eOk 134 i := by
  have hy : 134 < am_law → am_cP 134 := fun _ => am_cms 134 (by decide)
  have hw : ∀ w ∈ am_ewE (am_nm 134).cls (am_at 134 i), w ∈ am_G := fun w h => am_wl134 w (am_ewA_in h)
  refine am_e_ok hy hw ?_
  by_cases h0 : i < 38
  · exact List.all_eq_true.mp am_be134_0 i (List.mem_range'_1.mpr ⟨by omega, by omega⟩)
  exact am_eb_out (am_len_out (n := 38) (by decide) (by omega))
set_option maxRecDepth 100000 in
theorem am_wl135 : ∀ w ∈ am_ewA (am_nm 135).cls (am_prog 135), w ∈ am_G := by
  have e : am_ewA (am_nm 135).cls (am_prog 135) = [am_u213, am_u214, am_u212, am_u212, am_u462, am_u213, am_u214, am_u214, am_u214] := rfl
  rw [e]
  exact List.forall_mem_cons.mpr ⟨am_v213, List.forall_mem_cons.mpr ⟨am_v214, List.forall_mem_cons.mpr ⟨am_v212, List.forall_mem_cons.mpr ⟨am_v212, List.forall_mem_cons.mpr ⟨am_v462, List.forall_mem_cons.mpr ⟨am_v213, List.forall_mem_cons.mpr ⟨am_v214, List.forall_mem_cons.mpr ⟨am_v214, List.forall_mem_cons.mpr ⟨am_v214, fun _ h => absurd h List.not_mem_nil⟩⟩⟩⟩⟩⟩⟩⟩⟩
theorem am_be135_0 : (List.range' 0 44).all (am_eb 135) = true := by decide +kernel
theorem am_ok135 (i : Nat) : am_eOk 135 i := by
  have hy : 135 < am_law → am_cP 135 := fun _ => am_cms 135 (by decide)
  have hw : ∀ w ∈ am_ewE (am_nm 135).cls (am_at 135 i), w ∈ am_G := fun w h => am_wl135 w (am_ewA_in h)
  refine am_e_ok hy hw ?_
  by_cases h0 : i < 44
  · exact List.all_eq_true.mp am_be135_0 i (List.mem_range'_1.mpr ⟨by omega, by omega⟩)
  exact am_eb_out (am_len_out (n := 44) (by decide) (by omega))
set_option maxRecDepth 100000 in
theorem am_wl136 : ∀ w ∈ am_ewA (am_nm 136).cls (am_prog 136), w ∈ am_G := by
  have e : am_ewA (am_nm 136).cls (am_prog 136) = [am_u340, am_u390] := rfl
  rw [e]
  exact List.forall_mem_cons.mpr ⟨am_v340, List.forall_mem_cons.mpr ⟨am_v390, fun _ h => absurd h List.not_mem_nil⟩⟩
theorem am_be136_0 : (List.range' 0 14).all (am_eb 136) = true := by decide +kernel
theorem am_ok136 (i : Nat) : am_eOk 136 i := by
  have hy : 136 < am_law → am_cP 136 := fun _ => am_cms 136 (by decide)
  have hw : ∀ w ∈ am_ewE (am_nm 136).cls (am_at 136 i), w ∈ am_G := fun w h => am_wl136 w (am_ewA_in h)
  refine am_e_ok hy hw ?_
  by_cases h0 : i < 14
  · exact List.all_eq_true.mp am_be136_0 i (List.mem_range'_1.mpr ⟨by omega, by omega⟩)
  exact am_eb_out (am_len_out (n := 14) (by decide) (by omega))
set_option maxRecDepth 100000 in
theorem am_wl137 : ∀ w ∈ am_ewA (am_nm 137).cls (am_prog 137), w ∈ am_G := by
  have e : am_ewA (am_nm 137).cls (am_prog 137) = [am_u340, am_u410] := rfl
  rw [e]
  exact List.forall_mem_cons.mpr ⟨am_v340, List.forall_mem_cons.mpr ⟨am_v410, fun _ h => absurd h List.not_mem_nil⟩⟩
theorem am_be137_0 : (List.range' 0 13).all (am_eb 137) = true := by decide +kernel
theorem am_ok137 (i : Nat) : am_eOk 137 i := by
  have hy : 137 < am_law → am_cP 137 := fun _ => am_cms 137 (by decide)
  have hw : ∀ w ∈ am_ewE (am_nm 137).cls (am_at 137 i), w ∈ am_G := fun w h => am_wl137 w (am_ewA_in h)
  refine am_e_ok hy hw ?_
  by_cases h0 : i < 13
  · exact List.all_eq_true.mp am_be137_0 i (List.mem_range'_1.mpr ⟨by omega, by omega⟩)
  exact am_eb_out (am_len_out (n := 13) (by decide) (by omega))
set_option maxRecDepth 100000 in
theorem am_wl138 : ∀ w ∈ am_ewA (am_nm 138).cls (am_prog 138), w ∈ am_G := by
  have e : am_ewA (am_nm 138).cls (am_prog 138) = [am_u348, am_u347, am_u655, am_u655, am_u655, am_u655, am_u655, am_u348] := rfl
  rw [e]
  exact List.forall_mem_cons.mpr ⟨am_v348, List.forall_mem_cons.mpr ⟨am_v347, List.forall_mem_cons.mpr ⟨am_v655, List.forall_mem_cons.mpr ⟨am_v655, List.forall_mem_cons.mpr ⟨am_v655, List.forall_mem_cons.mpr ⟨am_v655, List.forall_mem_cons.mpr ⟨am_v655, List.forall_mem_cons.mpr ⟨am_v348, fun _ h => absurd h List.not_mem_nil⟩⟩⟩⟩⟩⟩⟩⟩
theorem am_be138_0 : (List.range' 0 28).all (am_eb 138) = true := by decide +kernel
theorem am_ok138 (i : Nat) : am_eOk 138 i := by
  have hy : 138 < am_law → am_cP 138 := fun _ => am_cms 138 (by decide)
  have hw : ∀ w ∈ am_ewE (am_nm 138).cls (am_at 138 i), w ∈ am_G := fun w h => am_wl138 w (am_ewA_in h)
  refine am_e_ok hy hw ?_
  by_cases h0 : i < 28
  · exact List.all_eq_true.mp am_be138_0 i (List.mem_range'_1.mpr ⟨by omega, by omega⟩)
  exact am_eb_out (am_len_out (n := 28) (by decide) (by omega))
set_option maxRecDepth 100000 in
theorem am_wl139 : ∀ w ∈ am_ewA (am_nm 139).cls (am_prog 139), w ∈ am_G := by
  have e : am_ewA (am_nm 139).cls (am_prog 139) = [am_u340, am_u885, am_u340, am_u67] := rfl
  rw [e]
  exact List.forall_mem_cons.mpr ⟨am_v340, List.forall_mem_cons.mpr ⟨am_v885, List.forall_mem_cons.mpr ⟨am_v340, List.forall_mem_cons.mpr ⟨am_v67, fun _ h => absurd h List.not_mem_nil⟩⟩⟩⟩
theorem am_be139_0 : (List.range' 0 17).all (am_eb 139) = true := by decide +kernel
theorem am_ok139 (i : Nat) : am_eOk 139 i := by
  have hy : 139 < am_law → am_cP 139 := fun _ => am_cms 139 (by decide)
  have hw : ∀ w ∈ am_ewE (am_nm 139).cls (am_at 139 i), w ∈ am_G := fun w h => am_wl139 w (am_ewA_in h)
  refine am_e_ok hy hw ?_
  by_cases h0 : i < 17
  · exact List.all_eq_true.mp am_be139_0 i (List.mem_range'_1.mpr ⟨by omega, by omega⟩)
  exact am_eb_out (am_len_out (n := 17) (by decide) (by omega))
set_option maxRecDepth 100000 in
theorem am_wl140 : ∀ w ∈ am_ewA (am_nm 140).cls (am_prog 140), w ∈ am_G := by
  have e : am_ewA (am_nm 140).cls (am_prog 140) = [am_u340, am_u58, am_u340, am_u944, am_u340, am_u1014, am_u340, am_u58] := rfl
  rw [e]
  exact List.forall_mem_cons.mpr ⟨am_v340, List.forall_mem_cons.mpr ⟨am_v58, List.forall_mem_cons.mpr ⟨am_v340, List.forall_mem_cons.mpr ⟨am_v944, List.forall_mem_cons.mpr ⟨am_v340, List.forall_mem_cons.mpr ⟨am_v1014, List.forall_mem_cons.mpr ⟨am_v340, List.forall_mem_cons.mpr ⟨am_v58, fun _ h => absurd h List.not_mem_nil⟩⟩⟩⟩⟩⟩⟩⟩
theorem am_be140_0 : (List.range' 0 27).all (am_eb 140) = true := by decide +kernel
theorem am_ok140 (i : Nat) : am_eOk 140 i := by
  have hy : 140 < am_law → am_cP 140 := fun _ => am_cms 140 (by decide)
  have hw : ∀ w ∈ am_ewE (am_nm 140).cls (am_at 140 i), w ∈ am_G := fun w h => am_wl140 w (am_ewA_in h)
  refine am_e_ok hy hw ?_
  by_cases h0 : i < 27
  · exact List.all_eq_true.mp am_be140_0 i (List.mem_range'_1.mpr ⟨by omega, by omega⟩)
  exact am_eb_out (am_len_out (n := 27) (by decide) (by omega))
set_option maxRecDepth 100000 in
theorem am_wl141 : ∀ w ∈ am_ewA (am_nm 141).cls (am_prog 141), w ∈ am_G := by
  have e : am_ewA (am_nm 141).cls (am_prog 141) = [am_u340, am_u1067, am_u340, am_u577] := rfl
  rw [e]
  exact List.forall_mem_cons.mpr ⟨am_v340, List.forall_mem_cons.mpr ⟨am_v1067, List.forall_mem_cons.mpr ⟨am_v340, List.forall_mem_cons.mpr ⟨am_v577, fun _ h => absurd h List.not_mem_nil⟩⟩⟩⟩
theorem am_be141_0 : (List.range' 0 12).all (am_eb 141) = true := by decide +kernel
theorem am_ok141 (i : Nat) : am_eOk 141 i := by
  have hy : 141 < am_law → am_cP 141 := fun _ => am_cms 141 (by decide)
  have hw : ∀ w ∈ am_ewE (am_nm 141).cls (am_at 141 i), w ∈ am_G := fun w h => am_wl141 w (am_ewA_in h)
  refine am_e_ok hy hw ?_
  by_cases h0 : i < 12
  · exact List.all_eq_true.mp am_be141_0 i (List.mem_range'_1.mpr ⟨by omega, by omega⟩)
  exact am_eb_out (am_len_out (n := 12) (by decide) (by omega))
set_option maxRecDepth 100000 in
theorem am_wl142 : ∀ w ∈ am_ewA (am_nm 142).cls (am_prog 142), w ∈ am_G := by
  have e : am_ewA (am_nm 142).cls (am_prog 142) = [am_u1192, am_u1197, am_u1198, am_u1199, am_u1201, am_u1202, am_u1203, am_u1204, am_u1205, am_u1206, am_u1207, am_u1208, am_u1209, am_u1210, am_u1220, am_u1221, am_u1223, am_u1224, am_u1228, am_u1229, am_u1230, am_u1231, am_u1232, am_u1234, am_u1235, am_u1236, am_u1237, am_u1238, am_u1239, am_u1240, am_u1241, am_u1242, am_u1243, am_u1245, am_u1246, am_u1247, am_u1248, am_u1249, am_u1250, am_u1197, am_u1197, am_u1193] := rfl
  rw [e]
  exact List.forall_mem_cons.mpr ⟨am_v1192, List.forall_mem_cons.mpr ⟨am_v1197, List.forall_mem_cons.mpr ⟨am_v1198, List.forall_mem_cons.mpr ⟨am_v1199, List.forall_mem_cons.mpr ⟨am_v1201, List.forall_mem_cons.mpr ⟨am_v1202, List.forall_mem_cons.mpr ⟨am_v1203, List.forall_mem_cons.mpr ⟨am_v1204, List.forall_mem_cons.mpr ⟨am_v1205, List.forall_mem_cons.mpr ⟨am_v1206, List.forall_mem_cons.mpr ⟨am_v1207, List.forall_mem_cons.mpr ⟨am_v1208, List.forall_mem_cons.mpr ⟨am_v1209, List.forall_mem_cons.mpr ⟨am_v1210, List.forall_mem_cons.mpr ⟨am_v1220, List.forall_mem_cons.mpr ⟨am_v1221, List.forall_mem_cons.mpr ⟨am_v1223, List.forall_mem_cons.mpr ⟨am_v1224, List.forall_mem_cons.mpr ⟨am_v1228, List.forall_mem_cons.mpr ⟨am_v1229, List.forall_mem_cons.mpr ⟨am_v1230, List.forall_mem_cons.mpr ⟨am_v1231, List.forall_mem_cons.mpr ⟨am_v1232, List.forall_mem_cons.mpr ⟨am_v1234, List.forall_mem_cons.mpr ⟨am_v1235, List.forall_mem_cons.mpr ⟨am_v1236, List.forall_mem_cons.mpr ⟨am_v1237, List.forall_mem_cons.mpr ⟨am_v1238, List.forall_mem_cons.mpr ⟨am_v1239, List.forall_mem_cons.mpr ⟨am_v1240, List.forall_mem_cons.mpr ⟨am_v1241, List.forall_mem_cons.mpr ⟨am_v1242, List.forall_mem_cons.mpr ⟨am_v1243, List.forall_mem_cons.mpr ⟨am_v1245, List.forall_mem_cons.mpr ⟨am_v1246, List.forall_mem_cons.mpr ⟨am_v1247, List.forall_mem_cons.mpr ⟨am_v1248, List.forall_mem_cons.mpr ⟨am_v1249, List.forall_mem_cons.mpr ⟨am_v1250, List.forall_mem_cons.mpr ⟨am_v1197, List.forall_mem_cons.mpr ⟨am_v1197, List.forall_mem_cons.mpr ⟨am_v1193, fun _ h => absurd h List.not_mem_nil⟩⟩⟩⟩⟩⟩⟩⟩⟩⟩⟩⟩⟩⟩⟩⟩⟩⟩⟩⟩⟩⟩⟩⟩⟩⟩⟩⟩⟩⟩⟩⟩⟩⟩⟩⟩⟩⟩⟩⟩⟩⟩
theorem am_be142_0 : (List.range' 0 64).all (am_eb 142) = true := by decide +kernel
theorem am_be142_1 : (List.range' 64 64).all (am_eb 142) = true := by decide +kernel
theorem am_be142_2 : (List.range' 128 38).all (am_eb 142) = true := by decide +kernel
theorem am_ok142 (i : Nat) : am_eOk 142 i := by
  have hy : 142 < am_law → am_cP 142 := fun _ => am_cms 142 (by decide)
  have hw : ∀ w ∈ am_ewE (am_nm 142).cls (am_at 142 i), w ∈ am_G := fun w h => am_wl142 w (am_ewA_in h)
  refine am_e_ok hy hw ?_
  by_cases h0 : i < 64
  · exact List.all_eq_true.mp am_be142_0 i (List.mem_range'_1.mpr ⟨by omega, by omega⟩)
  by_cases h1 : i < 128
  · exact List.all_eq_true.mp am_be142_1 i (List.mem_range'_1.mpr ⟨by omega, by omega⟩)
  by_cases h2 : i < 166
  · exact List.all_eq_true.mp am_be142_2 i (List.mem_range'_1.mpr ⟨by omega, by omega⟩)
  exact am_eb_out (am_len_out (n := 166) (by decide) (by omega))
set_option maxRecDepth 100000 in
theorem am_wl143 : ∀ w ∈ am_ewA (am_nm 143).cls (am_prog 143), w ∈ am_G := by
  have e : am_ewA (am_nm 143).cls (am_prog 143) = [am_u1197, am_u1365] := rfl
  rw [e]
  exact List.forall_mem_cons.mpr ⟨am_v1197, List.forall_mem_cons.mpr ⟨am_v1365, fun _ h => absurd h List.not_mem_nil⟩⟩
theorem am_be143_0 : (List.range' 0 10).all (am_eb 143) = true := by decide +kernel
theorem am_ok143 (i : Nat) : am_eOk 143 i := by
  have hy : 143 < am_law → am_cP 143 := fun _ => am_cms 143 (by decide)
  have hw : ∀ w ∈ am_ewE (am_nm 143).cls (am_at 143 i), w ∈ am_G := fun w h => am_wl143 w (am_ewA_in h)
  refine am_e_ok hy hw ?_
  by_cases h0 : i < 10
  · exact List.all_eq_true.mp am_be143_0 i (List.mem_range'_1.mpr ⟨by omega, by omega⟩)
  exact am_eb_out (am_len_out (n := 10) (by decide) (by omega))
set_option maxRecDepth 100000 in
theorem am_wl144 : ∀ w ∈ am_ewA (am_nm 144).cls (am_prog 144), w ∈ am_G := by
  have e : am_ewA (am_nm 144).cls (am_prog 144) = [am_u1197, am_u1365] := rfl
  rw [e]
  exact List.forall_mem_cons.mpr ⟨am_v1197, List.forall_mem_cons.mpr ⟨am_v1365, fun _ h => absurd h List.not_mem_nil⟩⟩
theorem am_be144_0 : (List.range' 0 10).all (am_eb 144) = true := by decide +kernel
theorem am_ok144 (i : Nat) : am_eOk 144 i := by
  have hy : 144 < am_law → am_cP 144 := fun _ => am_cms 144 (by decide)
  have hw : ∀ w ∈ am_ewE (am_nm 144).cls (am_at 144 i), w ∈ am_G := fun w h => am_wl144 w (am_ewA_in h)
  refine am_e_ok hy hw ?_
  by_cases h0 : i < 10
  · exact List.all_eq_true.mp am_be144_0 i (List.mem_range'_1.mpr ⟨by omega, by omega⟩)
  exact am_eb_out (am_len_out (n := 10) (by decide) (by omega))
set_option maxRecDepth 100000 in
theorem am_wl145 : ∀ w ∈ am_ewA (am_nm 145).cls (am_prog 145), w ∈ am_G := by
  have e : am_ewA (am_nm 145).cls (am_prog 145) = [am_u1197, am_u1365] := rfl
  rw [e]
  exact List.forall_mem_cons.mpr ⟨am_v1197, List.forall_mem_cons.mpr ⟨am_v1365, fun _ h => absurd h List.not_mem_nil⟩⟩
theorem am_be145_0 : (List.range' 0 12).all (am_eb 145) = true := by decide +kernel
theorem am_ok145 (i : Nat) : am_eOk 145 i := by
  have hy : 145 < am_law → am_cP 145 := fun _ => am_cms 145 (by decide)
  have hw : ∀ w ∈ am_ewE (am_nm 145).cls (am_at 145 i), w ∈ am_G := fun w h => am_wl145 w (am_ewA_in h)
  refine am_e_ok hy hw ?_
  by_cases h0 : i < 12
  · exact List.all_eq_true.mp am_be145_0 i (List.mem_range'_1.mpr ⟨by omega, by omega⟩)
  exact am_eb_out (am_len_out (n := 12) (by decide) (by omega))
set_option maxRecDepth 100000 in
theorem am_wl146 : ∀ w ∈ am_ewA (am_nm 146).cls (am_prog 146), w ∈ am_G := by
  have e : am_ewA (am_nm 146).cls (am_prog 146) = [am_u1197, am_u1365, am_u1197, am_u1197] := rfl
  rw [e]
  exact List.forall_mem_cons.mpr ⟨am_v1197, List.forall_mem_cons.mpr ⟨am_v1365, List.forall_mem_cons.mpr ⟨am_v1197, List.forall_mem_cons.mpr ⟨am_v1197, fun _ h => absurd h List.not_mem_nil⟩⟩⟩⟩
theorem am_be146_0 : (List.range' 0 33).all (am_eb 146) = true := by decide +kernel
theorem am_ok146 (i : Nat) : am_eOk 146 i := by
  have hy : 146 < am_law → am_cP 146 := fun _ => am_cms 146 (by decide)
  have hw : ∀ w ∈ am_ewE (am_nm 146).cls (am_at 146 i), w ∈ am_G := fun w h => am_wl146 w (am_ewA_in h)
  refine am_e_ok hy hw ?_
  by_cases h0 : i < 33
  · exact List.all_eq_true.mp am_be146_0 i (List.mem_range'_1.mpr ⟨by omega, by omega⟩)
  exact am_eb_out (am_len_out (n := 33) (by decide) (by omega))
set_option maxRecDepth 100000 in
theorem am_wl147 : ∀ w ∈ am_ewA (am_nm 147).cls (am_prog 147), w ∈ am_G := by
  have e : am_ewA (am_nm 147).cls (am_prog 147) = [am_u1197, am_u1365, am_u1197, am_u1197, am_u1197, am_u1197, am_u1197] := rfl
  rw [e]
  exact List.forall_mem_cons.mpr ⟨am_v1197, List.forall_mem_cons.mpr ⟨am_v1365, List.forall_mem_cons.mpr ⟨am_v1197, List.forall_mem_cons.mpr ⟨am_v1197, List.forall_mem_cons.mpr ⟨am_v1197, List.forall_mem_cons.mpr ⟨am_v1197, List.forall_mem_cons.mpr ⟨am_v1197, fun _ h => absurd h List.not_mem_nil⟩⟩⟩⟩⟩⟩⟩
theorem am_be147_0 : (List.range' 0 64).all (am_eb 147) = true := by decide +kernel
theorem am_be147_1 : (List.range' 64 2).all (am_eb 147) = true := by decide +kernel
theorem am_ok147 (i : Nat) : am_eOk 147 i := by
  have hy : 147 < am_law → am_cP 147 := fun _ => am_cms 147 (by decide)
  have hw : ∀ w ∈ am_ewE (am_nm 147).cls (am_at 147 i), w ∈ am_G := fun w h => am_wl147 w (am_ewA_in h)
  refine am_e_ok hy hw ?_
  by_cases h0 : i < 64
  · exact List.all_eq_true.mp am_be147_0 i (List.mem_range'_1.mpr ⟨by omega, by omega⟩)
  by_cases h1 : i < 66
  · exact List.all_eq_true.mp am_be147_1 i (List.mem_range'_1.mpr ⟨by omega, by omega⟩)
  exact am_eb_out (am_len_out (n := 66) (by decide) (by omega))
set_option maxRecDepth 100000 in
theorem am_wl148 : ∀ w ∈ am_ewA (am_nm 148).cls (am_prog 148), w ∈ am_G := by
  have e : am_ewA (am_nm 148).cls (am_prog 148) = [am_u1365, am_u1197] := rfl
  rw [e]
  exact List.forall_mem_cons.mpr ⟨am_v1365, List.forall_mem_cons.mpr ⟨am_v1197, fun _ h => absurd h List.not_mem_nil⟩⟩
theorem am_be148_0 : (List.range' 0 14).all (am_eb 148) = true := by decide +kernel
theorem am_ok148 (i : Nat) : am_eOk 148 i := by
  have hy : 148 < am_law → am_cP 148 := fun _ => am_cms 148 (by decide)
  have hw : ∀ w ∈ am_ewE (am_nm 148).cls (am_at 148 i), w ∈ am_G := fun w h => am_wl148 w (am_ewA_in h)
  refine am_e_ok hy hw ?_
  by_cases h0 : i < 14
  · exact List.all_eq_true.mp am_be148_0 i (List.mem_range'_1.mpr ⟨by omega, by omega⟩)
  exact am_eb_out (am_len_out (n := 14) (by decide) (by omega))
set_option maxRecDepth 100000 in
theorem am_wl149 : ∀ w ∈ am_ewA (am_nm 149).cls (am_prog 149), w ∈ am_G := by
  have e : am_ewA (am_nm 149).cls (am_prog 149) = [am_u1200, am_u1403, am_u1403, am_u1403, am_u1403, am_u1403, am_u1200] := rfl
  rw [e]
  exact List.forall_mem_cons.mpr ⟨am_v1200, List.forall_mem_cons.mpr ⟨am_v1403, List.forall_mem_cons.mpr ⟨am_v1403, List.forall_mem_cons.mpr ⟨am_v1403, List.forall_mem_cons.mpr ⟨am_v1403, List.forall_mem_cons.mpr ⟨am_v1403, List.forall_mem_cons.mpr ⟨am_v1200, fun _ h => absurd h List.not_mem_nil⟩⟩⟩⟩⟩⟩⟩
theorem am_be149_0 : (List.range' 0 26).all (am_eb 149) = true := by decide +kernel
theorem am_ok149 (i : Nat) : am_eOk 149 i := by
  have hy : 149 < am_law → am_cP 149 := fun _ => am_cms 149 (by decide)
  have hw : ∀ w ∈ am_ewE (am_nm 149).cls (am_at 149 i), w ∈ am_G := fun w h => am_wl149 w (am_ewA_in h)
  refine am_e_ok hy hw ?_
  by_cases h0 : i < 26
  · exact List.all_eq_true.mp am_be149_0 i (List.mem_range'_1.mpr ⟨by omega, by omega⟩)
  exact am_eb_out (am_len_out (n := 26) (by decide) (by omega))
set_option maxRecDepth 100000 in
theorem am_wl150 : ∀ w ∈ am_ewA (am_nm 150).cls (am_prog 150), w ∈ am_G := by
  have e : am_ewA (am_nm 150).cls (am_prog 150) = [am_u1200, am_u1365, am_u1200] := rfl
  rw [e]
  exact List.forall_mem_cons.mpr ⟨am_v1200, List.forall_mem_cons.mpr ⟨am_v1365, List.forall_mem_cons.mpr ⟨am_v1200, fun _ h => absurd h List.not_mem_nil⟩⟩⟩
theorem am_be150_0 : (List.range' 0 13).all (am_eb 150) = true := by decide +kernel
theorem am_ok150 (i : Nat) : am_eOk 150 i := by
  have hy : 150 < am_law → am_cP 150 := fun _ => am_cms 150 (by decide)
  have hw : ∀ w ∈ am_ewE (am_nm 150).cls (am_at 150 i), w ∈ am_G := fun w h => am_wl150 w (am_ewA_in h)
  refine am_e_ok hy hw ?_
  by_cases h0 : i < 13
  · exact List.all_eq_true.mp am_be150_0 i (List.mem_range'_1.mpr ⟨by omega, by omega⟩)
  exact am_eb_out (am_len_out (n := 13) (by decide) (by omega))
set_option maxRecDepth 100000 in
theorem am_wl151 : ∀ w ∈ am_ewA (am_nm 151).cls (am_prog 151), w ∈ am_G := by
  have e : am_ewA (am_nm 151).cls (am_prog 151) = [am_u1365, am_u1365] := rfl
  rw [e]
  exact List.forall_mem_cons.mpr ⟨am_v1365, List.forall_mem_cons.mpr ⟨am_v1365, fun _ h => absurd h List.not_mem_nil⟩⟩
theorem am_be151_0 : (List.range' 0 15).all (am_eb 151) = true := by decide +kernel
theorem am_ok151 (i : Nat) : am_eOk 151 i := by
  have hy : 151 < am_law → am_cP 151 := fun _ => am_cms 151 (by decide)
  have hw : ∀ w ∈ am_ewE (am_nm 151).cls (am_at 151 i), w ∈ am_G := fun w h => am_wl151 w (am_ewA_in h)
  refine am_e_ok hy hw ?_
  by_cases h0 : i < 15
  · exact List.all_eq_true.mp am_be151_0 i (List.mem_range'_1.mpr ⟨by omega, by omega⟩)
  exact am_eb_out (am_len_out (n := 15) (by decide) (by omega))
set_option maxRecDepth 100000 in
theorem am_wl152 : ∀ w ∈ am_ewA (am_nm 152).cls (am_prog 152), w ∈ am_G := by
  have e : am_ewA (am_nm 152).cls (am_prog 152) = [am_u1222, am_u1224, am_u1222, am_u1219, am_u1223, am_u1222, am_u1511, am_u1222, am_u1222, am_u1223, am_u1222, am_u1484] := rfl
  rw [e]
  exact List.forall_mem_cons.mpr ⟨am_v1222, List.forall_mem_cons.mpr ⟨am_v1224, List.forall_mem_cons.mpr ⟨am_v1222, List.forall_mem_cons.mpr ⟨am_v1219, List.forall_mem_cons.mpr ⟨am_v1223, List.forall_mem_cons.mpr ⟨am_v1222, List.forall_mem_cons.mpr ⟨am_v1511, List.forall_mem_cons.mpr ⟨am_v1222, List.forall_mem_cons.mpr ⟨am_v1222, List.forall_mem_cons.mpr ⟨am_v1223, List.forall_mem_cons.mpr ⟨am_v1222, List.forall_mem_cons.mpr ⟨am_v1484, fun _ h => absurd h List.not_mem_nil⟩⟩⟩⟩⟩⟩⟩⟩⟩⟩⟩⟩
theorem am_be152_0 : (List.range' 0 41).all (am_eb 152) = true := by decide +kernel
theorem am_ok152 (i : Nat) : am_eOk 152 i := by
  have hy : 152 < am_law → am_cP 152 := fun _ => am_cms 152 (by decide)
  have hw : ∀ w ∈ am_ewE (am_nm 152).cls (am_at 152 i), w ∈ am_G := fun w h => am_wl152 w (am_ewA_in h)
  refine am_e_ok hy hw ?_
  by_cases h0 : i < 41
  · exact List.all_eq_true.mp am_be152_0 i (List.mem_range'_1.mpr ⟨by omega, by omega⟩)
  exact am_eb_out (am_len_out (n := 41) (by decide) (by omega))
set_option maxRecDepth 100000 in
theorem am_wl153 : ∀ w ∈ am_ewA (am_nm 153).cls (am_prog 153), w ∈ am_G := by
  have e : am_ewA (am_nm 153).cls (am_prog 153) = [am_u1492, am_u1492, am_u1492, am_u1484, am_u1219, am_u1219, am_u1218, am_u1218, am_u1225] := rfl
  rw [e]
  exact List.forall_mem_cons.mpr ⟨am_v1492, List.forall_mem_cons.mpr ⟨am_v1492, List.forall_mem_cons.mpr ⟨am_v1492, List.forall_mem_cons.mpr ⟨am_v1484, List.forall_mem_cons.mpr ⟨am_v1219, List.forall_mem_cons.mpr ⟨am_v1219, List.forall_mem_cons.mpr ⟨am_v1218, List.forall_mem_cons.mpr ⟨am_v1218, List.forall_mem_cons.mpr ⟨am_v1225, fun _ h => absurd h List.not_mem_nil⟩⟩⟩⟩⟩⟩⟩⟩⟩
theorem am_be153_0 : (List.range' 0 37).all (am_eb 153) = true := by decide +kernel
theorem am_ok153 (i : Nat) : am_eOk 153 i := by
  have hy : 153 < am_law → am_cP 153 := fun _ => am_cms 153 (by decide)
  have hw : ∀ w ∈ am_ewE (am_nm 153).cls (am_at 153 i), w ∈ am_G := fun w h => am_wl153 w (am_ewA_in h)
  refine am_e_ok hy hw ?_
  by_cases h0 : i < 37
  · exact List.all_eq_true.mp am_be153_0 i (List.mem_range'_1.mpr ⟨by omega, by omega⟩)
  exact am_eb_out (am_len_out (n := 37) (by decide) (by omega))
set_option maxRecDepth 100000 in
theorem am_wl154 : ∀ w ∈ am_ewA (am_nm 154).cls (am_prog 154), w ∈ am_G := by
  have e : am_ewA (am_nm 154).cls (am_prog 154) = [am_u1492, am_u1219, am_u1219, am_u1218, am_u1218, am_u1484, am_u1225] := rfl
  rw [e]
  exact List.forall_mem_cons.mpr ⟨am_v1492, List.forall_mem_cons.mpr ⟨am_v1219, List.forall_mem_cons.mpr ⟨am_v1219, List.forall_mem_cons.mpr ⟨am_v1218, List.forall_mem_cons.mpr ⟨am_v1218, List.forall_mem_cons.mpr ⟨am_v1484, List.forall_mem_cons.mpr ⟨am_v1225, fun _ h => absurd h List.not_mem_nil⟩⟩⟩⟩⟩⟩⟩
theorem am_be154_0 : (List.range' 0 26).all (am_eb 154) = true := by decide +kernel
theorem am_ok154 (i : Nat) : am_eOk 154 i := by
  have hy : 154 < am_law → am_cP 154 := fun _ => am_cms 154 (by decide)
  have hw : ∀ w ∈ am_ewE (am_nm 154).cls (am_at 154 i), w ∈ am_G := fun w h => am_wl154 w (am_ewA_in h)
  refine am_e_ok hy hw ?_
  by_cases h0 : i < 26
  · exact List.all_eq_true.mp am_be154_0 i (List.mem_range'_1.mpr ⟨by omega, by omega⟩)
  exact am_eb_out (am_len_out (n := 26) (by decide) (by omega))
set_option maxRecDepth 100000 in
theorem am_wl155 : ∀ w ∈ am_ewA (am_nm 155).cls (am_prog 155), w ∈ am_G := by
  have e : am_ewA (am_nm 155).cls (am_prog 155) = [am_u1609, am_u1609, am_u1609] := rfl
  rw [e]
  exact List.forall_mem_cons.mpr ⟨am_v1609, List.forall_mem_cons.mpr ⟨am_v1609, List.forall_mem_cons.mpr ⟨am_v1609, fun _ h => absurd h List.not_mem_nil⟩⟩⟩
theorem am_be155_0 : (List.range' 0 64).all (am_eb 155) = true := by decide +kernel
theorem am_be155_1 : (List.range' 64 25).all (am_eb 155) = true := by decide +kernel
theorem am_ok155 (i : Nat) : am_eOk 155 i := by
  have hy : 155 < am_law → am_cP 155 := fun _ => am_cms 155 (by decide)
  have hw : ∀ w ∈ am_ewE (am_nm 155).cls (am_at 155 i), w ∈ am_G := fun w h => am_wl155 w (am_ewA_in h)
  refine am_e_ok hy hw ?_
  by_cases h0 : i < 64
  · exact List.all_eq_true.mp am_be155_0 i (List.mem_range'_1.mpr ⟨by omega, by omega⟩)
  by_cases h1 : i < 89
  · exact List.all_eq_true.mp am_be155_1 i (List.mem_range'_1.mpr ⟨by omega, by omega⟩)
  exact am_eb_out (am_len_out (n := 89) (by decide) (by omega))
set_option maxRecDepth 100000 in
theorem am_wl156 : ∀ w ∈ am_ewA (am_nm 156).cls (am_prog 156), w ∈ am_G := by
  have e : am_ewA (am_nm 156).cls (am_prog 156) = [am_u1197, am_u1365, am_u1197] := rfl
  rw [e]
  exact List.forall_mem_cons.mpr ⟨am_v1197, List.forall_mem_cons.mpr ⟨am_v1365, List.forall_mem_cons.mpr ⟨am_v1197, fun _ h => absurd h List.not_mem_nil⟩⟩⟩
theorem am_be156_0 : (List.range' 0 23).all (am_eb 156) = true := by decide +kernel
theorem am_ok156 (i : Nat) : am_eOk 156 i := by
  have hy : 156 < am_law → am_cP 156 := fun _ => am_cms 156 (by decide)
  have hw : ∀ w ∈ am_ewE (am_nm 156).cls (am_at 156 i), w ∈ am_G := fun w h => am_wl156 w (am_ewA_in h)
  refine am_e_ok hy hw ?_
  by_cases h0 : i < 23
  · exact List.all_eq_true.mp am_be156_0 i (List.mem_range'_1.mpr ⟨by omega, by omega⟩)
  exact am_eb_out (am_len_out (n := 23) (by decide) (by omega))
set_option maxRecDepth 100000 in
theorem am_wl157 : ∀ w ∈ am_ewA (am_nm 157).cls (am_prog 157), w ∈ am_G := by
  have e : am_ewA (am_nm 157).cls (am_prog 157) = [am_u1238, am_u1614, am_u1240, am_u1238, am_u1240, am_u1238, am_u1240] := rfl
  rw [e]
  exact List.forall_mem_cons.mpr ⟨am_v1238, List.forall_mem_cons.mpr ⟨am_v1614, List.forall_mem_cons.mpr ⟨am_v1240, List.forall_mem_cons.mpr ⟨am_v1238, List.forall_mem_cons.mpr ⟨am_v1240, List.forall_mem_cons.mpr ⟨am_v1238, List.forall_mem_cons.mpr ⟨am_v1240, fun _ h => absurd h List.not_mem_nil⟩⟩⟩⟩⟩⟩⟩
theorem am_be157_0 : (List.range' 0 38).all (am_eb 157) = true := by decide +kernel
theorem am_ok157 (i : Nat) : am_eOk 157 i := by
  have hy : 157 < am_law → am_cP 157 := fun _ => am_cms 157 (by decide)
  have hw : ∀ w ∈ am_ewE (am_nm 157).cls (am_at 157 i), w ∈ am_G := fun w h => am_wl157 w (am_ewA_in h)
  refine am_e_ok hy hw ?_
  by_cases h0 : i < 38
  · exact List.all_eq_true.mp am_be157_0 i (List.mem_range'_1.mpr ⟨by omega, by omega⟩)
  exact am_eb_out (am_len_out (n := 38) (by decide) (by omega))
set_option maxRecDepth 100000 in
theorem am_wl158 : ∀ w ∈ am_ewA (am_nm 158).cls (am_prog 158), w ∈ am_G := by
  have e : am_ewA (am_nm 158).cls (am_prog 158) = [am_u1197, am_u1197, am_u1197, am_u1376, am_u1197, am_u1197, am_u1197] := rfl
  rw [e]
  exact List.forall_mem_cons.mpr ⟨am_v1197, List.forall_mem_cons.mpr ⟨am_v1197, List.forall_mem_cons.mpr ⟨am_v1197, List.forall_mem_cons.mpr ⟨am_v1376, List.forall_mem_cons.mpr ⟨am_v1197, List.forall_mem_cons.mpr ⟨am_v1197, List.forall_mem_cons.mpr ⟨am_v1197, fun _ h => absurd h List.not_mem_nil⟩⟩⟩⟩⟩⟩⟩
theorem am_be158_0 : (List.range' 0 52).all (am_eb 158) = true := by decide +kernel
theorem am_ok158 (i : Nat) : am_eOk 158 i := by
  have hy : 158 < am_law → am_cP 158 := fun _ => am_cms 158 (by decide)
  have hw : ∀ w ∈ am_ewE (am_nm 158).cls (am_at 158 i), w ∈ am_G := fun w h => am_wl158 w (am_ewA_in h)
  refine am_e_ok hy hw ?_
  by_cases h0 : i < 52
  · exact List.all_eq_true.mp am_be158_0 i (List.mem_range'_1.mpr ⟨by omega, by omega⟩)
  exact am_eb_out (am_len_out (n := 52) (by decide) (by omega))
set_option maxRecDepth 100000 in
theorem am_wl159 : ∀ w ∈ am_ewA (am_nm 159).cls (am_prog 159), w ∈ am_G := by
  have e : am_ewA (am_nm 159).cls (am_prog 159) = [am_u1197, am_u1376, am_u1197] := rfl
  rw [e]
  exact List.forall_mem_cons.mpr ⟨am_v1197, List.forall_mem_cons.mpr ⟨am_v1376, List.forall_mem_cons.mpr ⟨am_v1197, fun _ h => absurd h List.not_mem_nil⟩⟩⟩
theorem am_be159_0 : (List.range' 0 38).all (am_eb 159) = true := by decide +kernel
theorem am_ok159 (i : Nat) : am_eOk 159 i := by
  have hy : 159 < am_law → am_cP 159 := fun _ => am_cms 159 (by decide)
  have hw : ∀ w ∈ am_ewE (am_nm 159).cls (am_at 159 i), w ∈ am_G := fun w h => am_wl159 w (am_ewA_in h)
  refine am_e_ok hy hw ?_
  by_cases h0 : i < 38
  · exact List.all_eq_true.mp am_be159_0 i (List.mem_range'_1.mpr ⟨by omega, by omega⟩)
  exact am_eb_out (am_len_out (n := 38) (by decide) (by omega))
set_option maxRecDepth 100000 in
theorem am_wl160 : ∀ w ∈ am_ewA (am_nm 160).cls (am_prog 160), w ∈ am_G := by
  have e : am_ewA (am_nm 160).cls (am_prog 160) = [am_u1197, am_u1197, am_u1376, am_u1197, am_u1376, am_u1376] := rfl
  rw [e]
  exact List.forall_mem_cons.mpr ⟨am_v1197, List.forall_mem_cons.mpr ⟨am_v1197, List.forall_mem_cons.mpr ⟨am_v1376, List.forall_mem_cons.mpr ⟨am_v1197, List.forall_mem_cons.mpr ⟨am_v1376, List.forall_mem_cons.mpr ⟨am_v1376, fun _ h => absurd h List.not_mem_nil⟩⟩⟩⟩⟩⟩
theorem am_be160_0 : (List.range' 0 61).all (am_eb 160) = true := by decide +kernel
theorem am_ok160 (i : Nat) : am_eOk 160 i := by
  have hy : 160 < am_law → am_cP 160 := fun _ => am_cms 160 (by decide)
  have hw : ∀ w ∈ am_ewE (am_nm 160).cls (am_at 160 i), w ∈ am_G := fun w h => am_wl160 w (am_ewA_in h)
  refine am_e_ok hy hw ?_
  by_cases h0 : i < 61
  · exact List.all_eq_true.mp am_be160_0 i (List.mem_range'_1.mpr ⟨by omega, by omega⟩)
  exact am_eb_out (am_len_out (n := 61) (by decide) (by omega))
set_option maxRecDepth 100000 in
theorem am_wl161 : ∀ w ∈ am_ewA (am_nm 161).cls (am_prog 161), w ∈ am_G := by
  have e : am_ewA (am_nm 161).cls (am_prog 161) = [am_u1801] := rfl
  rw [e]
  exact List.forall_mem_cons.mpr ⟨am_v1801, fun _ h => absurd h List.not_mem_nil⟩
theorem am_be161_0 : (List.range' 0 14).all (am_eb 161) = true := by decide +kernel
theorem am_ok161 (i : Nat) : am_eOk 161 i := by
  have hy : 161 < am_law → am_cP 161 := fun _ => am_cms 161 (by decide)
  have hw : ∀ w ∈ am_ewE (am_nm 161).cls (am_at 161 i), w ∈ am_G := fun w h => am_wl161 w (am_ewA_in h)
  refine am_e_ok hy hw ?_
  by_cases h0 : i < 14
  · exact List.all_eq_true.mp am_be161_0 i (List.mem_range'_1.mpr ⟨by omega, by omega⟩)
  exact am_eb_out (am_len_out (n := 14) (by decide) (by omega))
set_option maxRecDepth 100000 in
theorem am_wl162 : ∀ w ∈ am_ewA (am_nm 162).cls (am_prog 162), w ∈ am_G := by
  have e : am_ewA (am_nm 162).cls (am_prog 162) = [am_u1197, am_u1376, am_u1247] := rfl
  rw [e]
  exact List.forall_mem_cons.mpr ⟨am_v1197, List.forall_mem_cons.mpr ⟨am_v1376, List.forall_mem_cons.mpr ⟨am_v1247, fun _ h => absurd h List.not_mem_nil⟩⟩⟩
theorem am_be162_0 : (List.range' 0 26).all (am_eb 162) = true := by decide +kernel
theorem am_ok162 (i : Nat) : am_eOk 162 i := by
  have hy : 162 < am_law → am_cP 162 := fun _ => am_cms 162 (by decide)
  have hw : ∀ w ∈ am_ewE (am_nm 162).cls (am_at 162 i), w ∈ am_G := fun w h => am_wl162 w (am_ewA_in h)
  refine am_e_ok hy hw ?_
  by_cases h0 : i < 26
  · exact List.all_eq_true.mp am_be162_0 i (List.mem_range'_1.mpr ⟨by omega, by omega⟩)
  exact am_eb_out (am_len_out (n := 26) (by decide) (by omega))
set_option maxRecDepth 100000 in
theorem am_wl163 : ∀ w ∈ am_ewA (am_nm 163).cls (am_prog 163), w ∈ am_G := by
  have e : am_ewA (am_nm 163).cls (am_prog 163) = [am_u1829, am_u1829, am_u1376, am_u1376, am_u1248, am_u1247] := rfl
  rw [e]
  exact List.forall_mem_cons.mpr ⟨am_v1829, List.forall_mem_cons.mpr ⟨am_v1829, List.forall_mem_cons.mpr ⟨am_v1376, List.forall_mem_cons.mpr ⟨am_v1376, List.forall_mem_cons.mpr ⟨am_v1248, List.forall_mem_cons.mpr ⟨am_v1247, fun _ h => absurd h List.not_mem_nil⟩⟩⟩⟩⟩⟩
theorem am_be163_0 : (List.range' 0 64).all (am_eb 163) = true := by decide +kernel
theorem am_be163_1 : (List.range' 64 3).all (am_eb 163) = true := by decide +kernel
theorem am_ok163 (i : Nat) : am_eOk 163 i := by
  have hy : 163 < am_law → am_cP 163 := fun _ => am_cms 163 (by decide)
  have hw : ∀ w ∈ am_ewE (am_nm 163).cls (am_at 163 i), w ∈ am_G := fun w h => am_wl163 w (am_ewA_in h)
  refine am_e_ok hy hw ?_
  by_cases h0 : i < 64
  · exact List.all_eq_true.mp am_be163_0 i (List.mem_range'_1.mpr ⟨by omega, by omega⟩)
  by_cases h1 : i < 67
  · exact List.all_eq_true.mp am_be163_1 i (List.mem_range'_1.mpr ⟨by omega, by omega⟩)
  exact am_eb_out (am_len_out (n := 67) (by decide) (by omega))
set_option maxRecDepth 100000 in
theorem am_wl164 : ∀ w ∈ am_ewA (am_nm 164).cls (am_prog 164), w ∈ am_G := by
  have e : am_ewA (am_nm 164).cls (am_prog 164) = [am_u1197, am_u1376, am_u1197, am_u1248, am_u1376, am_u1248] := rfl
  rw [e]
  exact List.forall_mem_cons.mpr ⟨am_v1197, List.forall_mem_cons.mpr ⟨am_v1376, List.forall_mem_cons.mpr ⟨am_v1197, List.forall_mem_cons.mpr ⟨am_v1248, List.forall_mem_cons.mpr ⟨am_v1376, List.forall_mem_cons.mpr ⟨am_v1248, fun _ h => absurd h List.not_mem_nil⟩⟩⟩⟩⟩⟩
theorem am_be164_0 : (List.range' 0 64).all (am_eb 164) = true := by decide +kernel
theorem am_be164_1 : (List.range' 64 3).all (am_eb 164) = true := by decide +kernel
theorem am_ok164 (i : Nat) : am_eOk 164 i := by
  have hy : 164 < am_law → am_cP 164 := fun _ => am_cms 164 (by decide)
  have hw : ∀ w ∈ am_ewE (am_nm 164).cls (am_at 164 i), w ∈ am_G := fun w h => am_wl164 w (am_ewA_in h)
  refine am_e_ok hy hw ?_
  by_cases h0 : i < 64
  · exact List.all_eq_true.mp am_be164_0 i (List.mem_range'_1.mpr ⟨by omega, by omega⟩)
  by_cases h1 : i < 67
  · exact List.all_eq_true.mp am_be164_1 i (List.mem_range'_1.mpr ⟨by omega, by omega⟩)
  exact am_eb_out (am_len_out (n := 67) (by decide) (by omega))
