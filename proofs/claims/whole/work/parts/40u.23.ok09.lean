/-! rows of the methods 306 .. 306 -/
set_option maxRecDepth 100000 in
theorem am_wl306 : ∀ w ∈ am_ewA (am_nm 306).cls (am_prog 306), w ∈ am_G := by
  have e : am_ewA (am_nm 306).cls (am_prog 306) = [am_u21, am_u23, am_u1187, am_u1189, am_u386, am_u1361, am_u394, am_u1368, am_u406, am_u1379, am_u414, am_u1383, am_u430, am_u1391, am_u434, am_u1648, am_u486, am_u1668, am_u539, am_u1684, am_u551, am_u1692, am_u560, am_u1696, am_u569, am_u1700, am_u589, am_u1708, am_u612, am_u1561, am_u635, am_u1712, am_u651, am_u1399, am_u659, am_u1407, am_u663, am_u1411, am_u877, am_u1553, am_u881, am_u1557, am_u889, am_u1724, am_u912, am_u1395, am_u920, am_u1740, am_u933, am_u1744, am_u940, am_u1748, am_u953, am_u1752, am_u964, am_u1756, am_u973, am_u1760, am_u982, am_u1764, am_u1010, am_u1776, am_u1018, am_u1780, am_u1043, am_u1792, am_u1058, am_u1804, am_u1063, am_u1808, am_u1071, am_u1816, am_u1081, am_u1820, am_u1115, am_u1845, am_u1128, am_u1853, am_u1156, am_u1873, am_u1165, am_u1877, am_u1179, am_u1881, am_u1183, am_u1885] := rfl
  rw [e]
  exact by
    refine List.forall_mem_cons.mpr ⟨am_v21, ?_⟩
    refine List.forall_mem_cons.mpr ⟨am_v23, ?_⟩
    refine List.forall_mem_cons.mpr ⟨am_v1187, ?_⟩
    refine List.forall_mem_cons.mpr ⟨am_v1189, ?_⟩
    refine List.forall_mem_cons.mpr ⟨am_v386, ?_⟩
    refine List.forall_mem_cons.mpr ⟨am_v1361, ?_⟩
    refine List.forall_mem_cons.mpr ⟨am_v394, ?_⟩
    refine List.forall_mem_cons.mpr ⟨am_v1368, ?_⟩
    refine List.forall_mem_cons.mpr ⟨am_v406, ?_⟩
    refine List.forall_mem_cons.mpr ⟨am_v1379, ?_⟩
    refine List.forall_mem_cons.mpr ⟨am_v414, ?_⟩
    refine List.forall_mem_cons.mpr ⟨am_v1383, ?_⟩
    refine List.forall_mem_cons.mpr ⟨am_v430, ?_⟩
    refine List.forall_mem_cons.mpr ⟨am_v1391, ?_⟩
    refine List.forall_mem_cons.mpr ⟨am_v434, ?_⟩
    refine List.forall_mem_cons.mpr ⟨am_v1648, ?_⟩
    refine List.forall_mem_cons.mpr ⟨am_v486, ?_⟩
    refine List.forall_mem_cons.mpr ⟨am_v1668, ?_⟩
    refine List.forall_mem_cons.mpr ⟨am_v539, ?_⟩
    refine List.forall_mem_cons.mpr ⟨am_v1684, ?_⟩
    refine List.forall_mem_cons.mpr ⟨am_v551, ?_⟩
    refine List.forall_mem_cons.mpr ⟨am_v1692, ?_⟩
    refine List.forall_mem_cons.mpr ⟨am_v560, ?_⟩
    refine List.forall_mem_cons.mpr ⟨am_v1696, ?_⟩
    refine List.forall_mem_cons.mpr ⟨am_v569, ?_⟩
    refine List.forall_mem_cons.mpr ⟨am_v1700, ?_⟩
    refine List.forall_mem_cons.mpr ⟨am_v589, ?_⟩
    refine List.forall_mem_cons.mpr ⟨am_v1708, ?_⟩
    refine List.forall_mem_cons.mpr ⟨am_v612, ?_⟩
    refine List.forall_mem_cons.mpr ⟨am_v1561, ?_⟩
    refine List.forall_mem_cons.mpr ⟨am_v635, ?_⟩
    refine List.forall_mem_cons.mpr ⟨am_v1712, ?_⟩
    refine List.forall_mem_cons.mpr ⟨am_v651, ?_⟩
    refine List.forall_mem_cons.mpr ⟨am_v1399, ?_⟩
    refine List.forall_mem_cons.mpr ⟨am_v659, ?_⟩
    refine List.forall_mem_cons.mpr ⟨am_v1407, ?_⟩
    refine List.forall_mem_cons.mpr ⟨am_v663, ?_⟩
    refine List.forall_mem_cons.mpr ⟨am_v1411, ?_⟩
    refine List.forall_mem_cons.mpr ⟨am_v877, ?_⟩
    refine List.forall_mem_cons.mpr ⟨am_v1553, ?_⟩
    refine List.forall_mem_cons.mpr ⟨am_v881, ?_⟩
    refine List.forall_mem_cons.mpr ⟨am_v1557, ?_⟩
    refine List.forall_mem_cons.mpr ⟨am_v889, ?_⟩
    refine List.forall_mem_cons.mpr ⟨am_v1724, ?_⟩
    refine List.forall_mem_cons.mpr ⟨am_v912, ?_⟩
    refine List.forall_mem_cons.mpr ⟨am_v1395, ?_⟩
    refine List.forall_mem_cons.mpr ⟨am_v920, ?_⟩
    refine List.forall_mem_cons.mpr ⟨am_v1740, ?_⟩
    refine List.forall_mem_cons.mpr ⟨am_v933, ?_⟩
    refine List.forall_mem_cons.mpr ⟨am_v1744, ?_⟩
    refine List.forall_mem_cons.mpr ⟨am_v940, ?_⟩
    refine List.forall_mem_cons.mpr ⟨am_v1748, ?_⟩
    refine List.forall_mem_cons.mpr ⟨am_v953, ?_⟩
    refine List.forall_mem_cons.mpr ⟨am_v1752, ?_⟩
    refine List.forall_mem_cons.mpr ⟨am_v964, ?_⟩
    refine List.forall_mem_cons.mpr ⟨am_v1756, ?_⟩
    refine List.forall_mem_cons.mpr ⟨am_v973, ?_⟩
    refine List.forall_mem_cons.mpr ⟨am_v1760, ?_⟩
    refine List.forall_mem_cons.mpr ⟨am_v982, ?_⟩
    refine List.forall_mem_cons.mpr ⟨am_v1764, ?_⟩
    refine List.forall_mem_cons.mpr ⟨am_v1010, ?_⟩
    refine List.forall_mem_cons.mpr ⟨am_v1776, ?_⟩
    refine List.forall_mem_cons.mpr ⟨am_v1018, ?_⟩
    refine List.forall_mem_cons.mpr ⟨am_v1780, ?_⟩
    refine List.forall_mem_cons.mpr ⟨am_v1043, ?_⟩
    refine List.forall_mem_cons.mpr ⟨am_v1792, ?_⟩
    refine List.forall_mem_cons.mpr ⟨am_v1058, ?_⟩
    refine List.forall_mem_cons.mpr ⟨am_v1804, ?_⟩
    refine List.forall_mem_cons.mpr ⟨am_v1063, ?_⟩
    refine List.forall_mem_cons.mpr ⟨am_v1808, ?_⟩
    refine List.forall_mem_cons.mpr ⟨am_v1071, ?_⟩
    refine List.forall_mem_cons.mpr ⟨am_v1816, ?_⟩
    refine List.forall_mem_cons.mpr ⟨am_v1081, ?_⟩
    refine List.forall_mem_cons.mpr ⟨am_v1820, ?_⟩
    refine List.forall_mem_cons.mpr ⟨am_v1115, ?_⟩
    refine List.forall_mem_cons.mpr ⟨am_v1845, ?_⟩
    refine List.forall_mem_cons.mpr ⟨am_v1128, ?_⟩
    refine List.forall_mem_cons.mpr ⟨am_v1853, ?_⟩
    refine List.forall_mem_cons.mpr ⟨am_v1156, ?_⟩
    refine List.forall_mem_cons.mpr ⟨am_v1873, ?_⟩
    refine List.forall_mem_cons.mpr ⟨am_v1165, ?_⟩
    refine List.forall_mem_cons.mpr ⟨am_v1877, ?_⟩
    refine List.forall_mem_cons.mpr ⟨am_v1179, ?_⟩
    refine List.forall_mem_cons.mpr ⟨am_v1881, ?_⟩
    refine List.forall_mem_cons.mpr ⟨am_v1183, ?_⟩
    refine List.forall_mem_cons.mpr ⟨am_v1885, ?_⟩
    exact fun _ h => absurd h List.not_mem_nil
theorem am_be306_0 : (List.range' 0 64).all (am_eb 306) = true := by decide +kernel
theorem am_be306_1 : (List.range' 64 64).all (am_eb 306) = true := by decide +kernel
theorem am_be306_2 : (List.range' 128 64).all (am_eb 306) = true := by decide +kernel
theorem am_be306_3 : (List.range' 192 64).all (am_eb 306) = true := by decide +kernel
theorem am_be306_4 : (List.range' 256 64).all (am_eb 306) = true := by decide +kernel
theorem am_be306_5 : (List.range' 320 64).all (am_eb 306) = true := by decide +kernel
theorem am_be306_6 : (List.range' 384 64).all (am_eb 306) = true := by decide +kernel
theorem am_be306_7 : (List.range' 448 64).all (am_eb 306) = true := by decide +kernel
theorem am_be306_8 : (List.range' 512 64).all (am_eb 306) = true := by decide +kernel
theorem am_be306_9 : (List.range' 576 64).all (am_eb 306) = true := by decide +kernel
theorem am_be306_10 : (List.range' 640 64).all (am_eb 306) = true := by decide +kernel
theorem am_be306_11 : (List.range' 704 64).all (am_eb 306) = true := by decide +kernel
theorem am_be306_12 : (List.range' 768 64).all (am_eb 306) = true := by decide +kernel
theorem am_be306_13 : (List.range' 832 64).all (am_eb 306) = true := by decide +kernel
theorem am_be306_14 : (List.range' 896 64).all (am_eb 306) = true := by decide +kernel
theorem am_be306_15 : (List.range' 960 64).all (am_eb 306) = true := by decide +kernel
theorem am_be306_16 : (List.range' 1024 45).all (am_eb 306) = true := by decide +kernel
theorem am_ok306 (i : Nat) : am_eOk 306 i := by
  have hy : 306 < am_law → am_cP 306 := fun h => absurd h (by decide)
  have hw : ∀ w ∈ am_ewE (am_nm 306).cls (am_at 306 i), w ∈ am_G := fun w h => am_wl306 w (am_ewA_in h)
  refine am_e_ok hy hw ?_
  by_cases h0 : i < 64
  · exact List.all_eq_true.mp am_be306_0 i (List.mem_range'_1.mpr ⟨by omega, by omega⟩)
  by_cases h1 : i < 128
  · exact List.all_eq_true.mp am_be306_1 i (List.mem_range'_1.mpr ⟨by omega, by omega⟩)
  by_cases h2 : i < 192
  · exact List.all_eq_true.mp am_be306_2 i (List.mem_range'_1.mpr ⟨by omega, by omega⟩)
  by_cases h3 : i < 256
  · exact List.all_eq_true.mp am_be306_3 i (List.mem_range'_1.mpr ⟨by omega, by omega⟩)
  by_cases h4 : i < 320
  · exact List.all_eq_true.mp am_be306_4 i (List.mem_range'_1.mpr ⟨by omega, by omega⟩)
  by_cases h5 : i < 384
  · exact List.all_eq_true.mp am_be306_5 i (List.mem_range'_1.mpr ⟨by omega, by omega⟩)
  by_cases h6 : i < 448
  · exact List.all_eq_true.mp am_be306_6 i (List.mem_range'_1.mpr ⟨by omega, by omega⟩)
  by_cases h7 : i < 512
  · exact List.all_eq_true.mp am_be306_7 i (List.mem_range'_1.mpr ⟨by omega, by omega⟩)
  by_cases h8 : i < 576
  · exact List.all_eq_true.mp am_be306_8 i (List.mem_range'_1.mpr ⟨by omega, by omega⟩)
  by_cases h9 : i < 640
  · exact List.all_eq_true.mp am_be306_9 i (List.mem_range'_1.mpr ⟨by omega, by omega⟩)
  by_cases h10 : i < 704
  · exact List.all_eq_true.mp am_be306_10 i (List.mem_range'_1.mpr ⟨by omega, by omega⟩)
  by_cases h11 : i < 768
  · exact List.all_eq_true.mp am_be306_11 i (List.mem_range'_1.mpr ⟨by omega, by omega⟩)
  by_cases h12 : i < 832
  · exact List.all_eq_true.mp am_be306_12 i (List.mem_range'_1.mpr ⟨by omega, by omega⟩)
  by_cases h13 : i < 896
  · exact List.all_eq_true.mp am_be306_13 i (List.mem_range'_1.mpr ⟨by omega, by omega⟩)
  by_cases h14 : i < 960
  · exact List.all_eq_true.mp am_be306_14 i (List.mem_range'_1.mpr ⟨by omega, by omega⟩)
  by_cases h15 : i < 1024
  · exact List.all_eq_true.mp am_be306_15 i (List.mem_range'_1.mpr ⟨by omega, by omega⟩)
  by_cases h16 : i < 1069
  · exact List.all_eq_true.mp am_be306_16 i (List.mem_range'_1.mpr ⟨by omega, by omega⟩)
  exact am_eb_out (am_len_out (n := 1069) (by decide) (by omega))
