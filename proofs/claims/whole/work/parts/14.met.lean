/-! contracts: what a method of the machine's tables does, said of the real machine -/
def am_NW (U : State) : Prop := ∀ w ∈ lw_tbl, am_isN w = true → w.before #[] U = true
theorem am_AOA.moved {t : FieldType} {u U : State} (hvm : u.vm.Alike U.vm) (h : am_AOA t u) : am_AOA t U := by
  obtain ⟨comp, c, k, h1, h2, h3, h4, h5⟩ := arrayOverA_spec h
  obtain ⟨k', hk', he⟩ := hvm.2.2 _ _ h3
  have hi : (U.vm.classes.findIdx? fun (x : Class) => match x.kind with | .array component _ => component == comp | _ => false) = some c := by
    rw [hvm.findIdx?_eq _ (fun _ => rfl)]
    exact h2
  have hkind : k'.kind = .array comp (.array t) := by rw [he]; exact h4
  have hf1 : U.vm.findClass (FieldType.array t).toString = some comp := by rw [hvm.findClass]; exact h1
  have hf2 : U.vm.findClass ("[" ++ (FieldType.array t).toString) = some c := by rw [hvm.findClass]; exact h5
  show (Cond.arrayOver (.array t)).holds #[] U none U [] = true
  simp only [Cond.holds, Cond.value, beq_iff_eq, hf1, Option.bind_some, Option.bind_eq_some_iff, Option.map_eq_some_iff]
  refine ⟨c, hi, k', hk', ?_⟩
  rw [hkind]
  simp [hf2]
theorem am_NW.warm {s U : State} (hW : s.WarmedH U.vm) (h : am_NW s) : am_NW U := by
  intro w hw hn
  have h1 := h w hw hn
  unfold am_isN at hn
  split at hn
  · exact va_Nw.warmF hW h1
  · exact va_Nw.warmM hW h1
  · exact va_AO.moved hW.alike h1
  · exact am_AOA.moved hW.alike h1
  · cases hn
theorem am_NW.same {u U : State} (hv : U.vm = u.vm) (h : am_NW u) : am_NW U := by
  intro w hw hn
  have h1 := h w hw hn
  unfold am_isN at hn
  split at hn
  · exact va_Nw.same rfl hv.symm h1
  · exact va_Nw.same rfl hv.symm h1
  · exact va_AO.moved (by rw [hv]; exact Vm.Alike.refl u.vm) h1
  · exact am_AOA.moved (by rw [hv]; exact Vm.Alike.refl u.vm) h1
  · cases hn
theorem am_hts {args : Array Value} {s : State} (h1 : ∀ w ∈ am_Gg, w.before args s = true) (h2 : am_NW s) : ∀ w ∈ am_G, w.before args s = true := by
  intro w hw
  obtain ⟨g1, g2⟩ := List.mem_filter.mp hw
  rw [Bool.or_eq_true] at g2
  rcases g2 with g2 | g2
  · exact h1 w (List.mem_filter.mpr ⟨g1, g2⟩)
  · have h3 := h2 w g1 g2
    unfold am_isN at g2
    split at g2
    · exact va_tabs rfl rfl h3
    · exact va_tabs rfl rfl h3
    · exact va_AO.use h3
    · exact am_AOA.use h3
    · cases g2
theorem am_NW.of {args : Array Value} {s : State} (h : ∀ w ∈ lw_tbl, w.before args s = true) : am_NW s := by
  intro w hw hn
  have h1 := h w hw
  unfold am_isN at hn
  split at hn
  · exact va_tabs rfl rfl h1
  · exact va_tabs rfl rfl h1
  · exact va_AO.of h1
  · exact am_AOA.of h1
  · cases hn
def am_wsz (z : Nat) : List Cond := Cond.code (am_nm z) (am_bc z) (am_ml z) (am_rt z) :: am_Gg
def am_fr (d y : Nat) : Nat := 2 * d + am_lv y + 1
abbrev am_rm (d y mc ms : Nat) : Room := { frames := am_fr d y, cells := mc, slots := ms, locals := 40 * am_fr d y }
def am_sz (n : Nat) : Nat := ((List.range n).map fun c => (am_shape c).2).sum
def am_agr (n : Nat) (ad ad' : Int → Nat) : Prop := ∀ x : Int, x < n → ad' x = ad x
def am_Bz (D : va_G) (cA : Nat → ClassId) (A : Nat → Prop) (ad : Int → Nat) (n : Nat) (μ : am_M) (ad' : Int → Nat) (t : State) : Prop := am_agr n ad ad' ∧ va_P D am_cl (am_ws ad' cA μ) t.heap ∧ va_K D am_cl (am_tys cA) t ∧ va_D A (am_ws ad' cA μ)
def am_Kz (D : va_G) (cA : Nat → ClassId) (ad : Int → Nat) (μ : am_M) (sz : Nat) (U : State) : Prop := U.heap.size = sz ∧ va_P D am_cl (am_ws ad cA μ) U.heap ∧ va_K D am_cl (am_tys cA) U ∧ va_D (fun _ => True) (am_ws ad cA μ) ∧ am_RO ad (va_A (am_ws ad cA μ) sz) U U.heap ∧ am_NW U
def am_Qz (D : va_G) (cA : Nat → ClassId) (ad : Int → Nat) (μ : am_M) (sz z : Nat) (r : Int) (μ' : am_M) : Array Value → State → Outcome → State → Prop :=
  if am_rk z = 0 then va_Qv (fun _ : Int → Nat => True) (am_Bz D cA (va_A (am_ws ad cA μ) sz) ad μ.1 μ') (va_A (am_ws ad cA μ) sz)
  else if am_rk z = 5 then va_Ql (fun (v : Int64) (_ : Int → Nat) => v = Int64.ofInt r) (am_Bz D cA (va_A (am_ws ad cA μ) sz) ad μ.1 μ') (va_A (am_ws ad cA μ) sz)
  else va_Qi (fun (v : Int32) (_ : Int → Nat) => v = Int32.ofInt r) (am_Bz D cA (va_A (am_ws ad cA μ) sz) ad μ.1 μ') (va_A (am_ws ad cA μ) sz)
def am_Met (l : Launch) (D : va_G) (cA : Nat → ClassId) (d z : Nat) : Prop := ∀ (f : Nat) (as : List am_V) (μ μ' : am_M) (r : Int), am_exec f d z 0 (am_entry z as) [] μ = some (r, μ') → (am_lay as).length ≤ am_ml z → am_okL μ.1 as → am_okM μ → am_okN μ → ∀ (ad : Int → Nat) (sz : Nat), Met l (am_nm z) (am_wsz z) (am_rm d z (μ'.1 - μ.1) (am_sz μ'.1 - am_sz μ.1)) (va_Pc (as.map (am_val ad)) (am_Kz D cA ad μ sz)) (am_Qz D cA ad μ sz z r μ') (μ'.1 - μ.1) (am_sz μ'.1 - am_sz μ.1) (va_A (am_ws ad cA μ) sz)
theorem am_lay_args {ad : Int → Nat} : ∀ (as : List am_V) (k j : Nat) (v : am_V), (am_lay as)[j]? = some v → v.1 < 3 → (k + j, am_val ad v) ∈ lv_args k (as.map (am_val ad))
  | [], k, j, v, h, _ => by simp [am_lay] at h
  | u :: r, k, j, v, h, hv => by
    unfold am_lay at h
    show _ ∈ (k, am_val ad u) :: lv_args (if (am_val ad u).category = 2 then k + 2 else k + 1) (r.map (am_val ad))
    by_cases hu : u.1 = 1
    · rw [if_pos hu] at h
      rw [am_cat, if_pos hu, if_pos rfl]
      match j, h with
      | 0, h =>
        obtain rfl : u = v := by simpa using h
        exact List.mem_cons_self
      | 1, h =>
        obtain rfl : am_N = v := by simpa using h
        exact absurd hv (by decide)
      | j + 2, h =>
        have := am_lay_args (ad := ad) r (k + 2) j v (by simpa using h) hv
        rw [show k + 2 + j = k + (j + 2) by omega] at this
        exact List.mem_cons_of_mem _ this
    · rw [if_neg hu] at h
      rw [am_cat, if_neg hu, if_neg (by decide)]
      match j, h with
      | 0, h =>
        obtain rfl : u = v := by simpa using h
        exact List.mem_cons_self
      | j + 1, h =>
        have := am_lay_args (ad := ad) r (k + 1) j v (by simpa using h) hv
        rw [show k + 1 + j = k + (j + 1) by omega] at this
        exact List.mem_cons_of_mem _ this
theorem am_lay_len {ad : Int → Nat} : ∀ as : List am_V, (lg_sl (as.map (am_val ad))).length = (am_lay as).length
  | [] => rfl
  | u :: r => by
    have ih := am_lay_len (ad := ad) r
    unfold lg_sl at ih ⊢
    rw [List.map_cons, List.flatMap_cons, List.length_append, ih]
    rw [show am_lay (u :: r) = (if u.1 = 1 then u :: am_N :: am_lay r else u :: am_lay r) from rfl, am_cat]
    by_cases hu : u.1 = 1
    · rw [if_pos hu, if_pos rfl, if_pos hu]; simp; omega
    · rw [if_neg hu, if_neg (by decide), if_neg hu]; simp; omega
theorem am_entry_Fr {ad : Int → Nat} {as : List am_V} {z : Nat} (h : (am_lay as).length ≤ am_ml z) : am_Fr ad (am_ml z) ((lg_sl (as.map (am_val ad)) ++ List.replicate (am_ml z - (lg_sl (as.map (am_val ad))).length) Slot.unset).toArray) (am_entry z as) := by
  refine ⟨?_, am_has_mono (lv_entry (as.map (am_val ad)) (by rw [am_lay_len]; exact h)) fun q hq => ?_⟩
  · have h : (am_lay as).length ≤ (am_info z).2.2.1 := h
    show (am_entry z as).length = (am_info z).2.2.1
    unfold am_entry; rw [List.length_append, List.length_replicate]; omega
  · obtain ⟨j, v, h1, h2, h3, h4⟩ := am_lr_mem hq
    have e : q = (j, am_val ad v) := Prod.ext (by omega) h4
    subst e
    unfold am_entry at h2
    by_cases hj : j < (am_lay as).length
    · rw [List.getElem?_append_left hj] at h2
      have := am_lay_args (ad := ad) as 0 j v h2 h3
      simpa using this
    · rw [List.getElem?_append_right (by omega), List.getElem?_replicate] at h2
      split at h2
      · obtain rfl : am_N = v := by simpa using h2
        exact absurd h3 (by decide)
      · cases h2
theorem am_okL_lay {n : Nat} (hn : 1 ≤ n) : ∀ {as : List am_V}, am_okL n as → am_okL n (am_lay as)
  | [], _ => fun v hv => by cases hv
  | u :: r, h => by
    obtain ⟨h1, h2⟩ := am_okL_cons.mp h
    unfold am_lay
    split
    · exact am_okL_cons.mpr ⟨h1, am_okL_cons.mpr ⟨am_okV_N hn, am_okL_lay hn h2⟩⟩
    · exact am_okL_cons.mpr ⟨h1, am_okL_lay hn h2⟩
theorem am_okL_entry {n z : Nat} (hn : 1 ≤ n) {as : List am_V} (h : am_okL n as) : am_okL n (am_entry z as) := by
  intro v hv
  unfold am_entry at hv
  rcases List.mem_append.mp hv with hv | hv
  · exact am_okL_lay hn h v hv
  · rw [List.eq_of_mem_replicate hv]; exact am_okV_N hn
