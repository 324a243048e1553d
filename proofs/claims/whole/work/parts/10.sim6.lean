/-! new cells, over the machine -/
def am_nOk (own : String) (idx : Nat) (a : Int) : Prop := ∃ (C : String) (T : u_T) (N : Nat), am_cl[a.toNat]? = some (C, T, N) ∧ Cond.classLink own idx C ∈ am_G ∧ Cond.instantiable C N ∈ am_G ∧ Cond.initialized C ∈ am_G
def am_aOk (t : ArrayType) (a : Int) : Prop := (t = .int ∧ a = 20 ∨ t = .long ∧ a = 21 ∨ t = .char ∧ a = 22 ∨ t = .byte ∧ a = 23) ∧ Cond.arrayClass (newarray.typeOf t) ∈ am_G
def am_qOk (own : String) (idx : Nat) (a : Int) : Prop := (a = 24 ∧ Cond.classLink own idx RX8 ∈ am_G ∧ Cond.arrayOver (.object RX8) ∈ am_G) ∨ (a = 25 ∧ Cond.classLink own idx RX3 ∈ am_G ∧ Cond.arrayOver (.object RX3) ∈ am_G)
theorem am_val_agree {ad ad' : Int → Nat} {n : Nat} {v : am_V} (h : am_okV n v) (ha : ∀ x : Int, x < n → ad' x = ad x) : am_val ad' v = am_val ad v := by
  obtain ⟨t, x⟩ := v
  have key : ∀ {t : Nat}, ¬ t = 0 → ¬ t = 1 → am_okV n (t, x) → (if x = 0 then Value.null else .ref (ad' x)) = (if x = 0 then Value.null else .ref (ad x)) := fun h0 h1 h => by
    unfold am_okV at h
    rw [if_neg h0, if_neg h1] at h
    rw [ha x h.2]
  match t, h with
  | 0, _ => rfl
  | 1, _ => rfl
  | 2, h => exact key (by decide) (by decide) h
  | 3, h => exact key (by decide) (by decide) h
  | 4, _ => show (if ad' (-8) = 0 then Value.null else .ref (ad' (-8) - 1)) = _; rw [ha (-8) (by omega)]; rfl
  | t + 5, h => exact key (by omega) (by omega) h
theorem am_map_agree {ad ad' : Int → Nat} {n : Nat} {l : List am_V} (h : am_okL n l) (ha : ∀ x : Int, x < n → ad' x = ad x) : l.map (am_val ad') = l.map (am_val ad) := List.map_congr_left fun v hv => am_val_agree (h v hv) ha
theorem am_lr_agree {ad ad' : Int → Nat} {n : Nat} {l : List am_V} (h : am_okL n l) (ha : ∀ x : Int, x < n → ad' x = ad x) (k : Nat) : am_lr ad' k l = am_lr ad k l := by
  induction l generalizing k with
  | nil => rfl
  | cons v r ih =>
    obtain ⟨h1, h2⟩ := am_okL_cons.mp h
    unfold am_lr
    rw [am_val_agree h1 ha, ih h2]
theorem am_Fr_agree {ad ad' : Int → Nat} {n k : Nat} {ls : Array Slot} {l : List am_V} (h : am_okL n l) (ha : ∀ x : Int, x < n → ad' x = ad x) (hl : am_Fr ad k ls l) : am_Fr ad' k ls l := ⟨hl.1, by rw [am_lr_agree h ha]; exact hl.2⟩
theorem am_al_rd {μ : am_M} {c i : Int} (h : ¬ c = μ.1) : am_rd (am_al μ) c i = am_rd μ c i := by show (if c = (μ.1 : Int) then 0 else _) = _; rw [if_neg h]; rfl
theorem am_al_rd0 {μ : am_M} {i : Int} : am_rd (am_al μ) μ.1 i = 0 := by show (if (μ.1 : Int) = (μ.1 : Int) then 0 else _) = _; rw [if_pos rfl]
theorem am_cell_agree {ad ad' : Int → Nat} {cA : Nat → ClassId} {μ μ' : am_M} {c : Int} (hM : am_okM μ) (h1 : 1 ≤ c) (h2 : c < μ.1) (hr : ∀ i, am_rd μ' c i = am_rd μ c i) (ha : ∀ x : Int, x < μ.1 → ad' x = ad x) : am_cell ad' cA μ' c = am_cell ad cA μ c := by
  unfold am_cell am_fs am_arr
  simp only [hr]
  by_cases hk : am_kd c < 12
  · rw [if_pos hk, if_pos hk]
    congr 2
    apply List.map_congr_left
    intro j _
    have := hM.2 c (j : Nat) h1 h2 (by omega)
    unfold am_ctg at this
    rw [if_pos hk, Int.toNat_natCast] at this
    exact am_val_agree this ha
  · rw [if_neg hk, if_neg hk]
    by_cases h21 : am_kd c = 21
    · rw [if_pos h21, if_pos h21]
    · rw [if_neg h21, if_neg h21]
      by_cases h24 : 24 ≤ am_kd c
      · rw [if_pos h24, if_pos h24]
        congr 8
        funext j
        have := hM.2 c (j : Nat) h1 h2 (by omega)
        unfold am_ctg at this
        rw [if_neg hk, if_neg h21, if_pos h24] at this
        rw [ha _ (am_okV_a.mp this).2]
      · rw [if_neg h24, if_neg h24]
theorem am_ws_al {ad ad' : Int → Nat} {cA : Nat → ClassId} {μ : am_M} (hM : am_okM μ) (ha : ∀ x : Int, x < μ.1 → ad' x = ad x) : am_ws ad' cA (am_al μ) = am_ws ad cA μ ++ [(ad' μ.1, am_cell ad' cA (am_al μ) μ.1)] := by
  have h1 := hM.1
  unfold am_ws
  rw [show (am_al μ).1 - 1 = (μ.1 - 1) + 1 by show μ.1 + 1 - 1 = _; omega, List.range_succ, List.map_append, List.map_singleton, show μ.1 - 1 + 1 = μ.1 by omega]
  congr 1
  apply List.map_congr_left
  intro j hj
  have hj := List.mem_range.mp hj
  rw [ha _ (by omega), am_cell_agree hM (by omega) (by omega) (fun i => am_al_rd (by omega)) ha]
def am_adN (ad : Int → Nat) (n : Nat) (q : Nat) : Int → Nat := fun x => if x = (n : Int) then q else ad x
theorem am_adN_lt {ad : Int → Nat} {n q : Nat} : ∀ x : Int, x < n → am_adN ad n q x = ad x := fun x hx => if_neg (by omega)
theorem am_adN_at {ad : Int → Nat} {n q : Nat} : am_adN ad n q n = q := if_pos rfl
section AMS
variable {p : Program} {l : Launch} {e : Env} {R : Room} {s : State} {m : MethodId} {args : Array Value} {below : List Frame} {meth : Method} {c : Code} {H : Heap} {locs : List Loc} {cells slots : Nat} {Q : State → Prop}
variable {D : va_G} {cA : Nat → ClassId} {y pc : Nat} {ad : Int → Nat} {ls : Array Slot} {st st' : List am_V} {A : Nat → Prop} {H0 : Heap} {μ μ' : am_M}
theorem am_zero_fs {ad : Int → Nat} {ci : Nat} {N : Nat} {T : u_T} {C : String} (g : am_clOk ci C T N) {c : Int} {μ : am_M} (h0 : ∀ i, am_rd μ c i = 0) : ∀ j, j < N → defaultValue (am_tyf ci j) = vp_V (am_fs ad ci μ c) j := by
  intro j hj
  obtain ⟨-, -, -, g4, g5⟩ := g
  have hg := am_fs_get (ad := ad) (k := ci) (m := μ) (o := c) (j := j) (by omega)
  have hv : vp_V (am_fs ad ci μ c) j = am_val ad (am_tg (am_ft ci j), am_rd μ c j) := by
    unfold vp_V
    rw [List.getD_eq_getElem?_getD, hg]
    rfl
  rw [hv, h0]
  have h5 := g5 j hj
  cases hty : am_tyf ci j <;> rw [hty] at h5 <;> simp [am_tOk] at h5 <;> rw [h5] <;> rfl
theorem am_W_new (C : am_Cx y p s m args meth c D cA) {idx : Nat} {a : Int} (hd : decode (am_bc y) pc = .ok (.new idx, 3)) (hf : am_nOk (am_nm y).cls idx a) (hk : am_ob μ.1 a.toNat = true) (hM : am_okM μ) (hW : am_Wd D cA A H0 ad μ H locs) (hA : ∀ q, H0.size ≤ q → A q) (hcells : cells + 1 ≤ R.cells) (hslots : slots + am_nf a.toNat ≤ R.slots)
    (kk : ∀ (q : Nat) (H1 : Heap), am_Wd D cA A H0 (am_adN ad μ.1 q) (am_al μ) H1 locs → W p l e R s m args below meth c H1 locs (cells + 1) (slots + am_nf a.toNat) Q (F0 m (pc + 3) ls (.ref q :: st.map (am_val ad)))) : W p l e R s m args below meth c H locs cells slots Q (F0 m pc ls (st.map (am_val ad))) := by
  obtain ⟨hx, hb, hml, hown, hts, hK, -, hname⟩ := C
  obtain ⟨hP, hD, hS⟩ := hW
  obtain ⟨Cn, T, N, h1, h2, h3, h4⟩ := hf
  obtain ⟨hci, g⟩ := am_cls h1
  have hN : N = am_nf a.toNat := g.2.2.2.1
  subst hN
  refine va_new (ci := a.toNat) (fs := am_fs ad a.toNat (am_al μ) μ.1) hx hb hts g.1 (am_tyf a.toNat) g.2.1 hown (hts _ h2) (hts _ h3) (hts _ h4) hK hP hD hS hA h1 (am_zero_fs g (fun i => am_al_rd0)) hcells hslots hd fun q H1 q1 q2 q3 => kk q H1 ?_
  have e := am_ws_al (ad' := am_adN ad μ.1 q) (cA := cA) hM am_adN_lt
  rw [am_adN_at, am_cell_ob (am_ob_iff.mp hk) hci] at e
  have e2 : am_fs (am_adN ad μ.1 q) a.toNat (am_al μ) μ.1 = am_fs ad a.toNat (am_al μ) μ.1 := by
    unfold am_fs
    apply List.map_congr_left
    intro j _
    rw [am_al_rd0]
    exact am_val_agree (am_okV_0 hM.1) am_adN_lt
  rw [e2] at e
  exact ⟨by rw [e]; exact q1, by rw [e]; exact q2, q3⟩
/-- array classes: one of a name -/
theorem am_cA_eq (hK : va_K D am_cl (am_tys cA) s) {ty : FieldType} {c1 : ClassId} (hK2 : va_K D am_cl (am_tys cA ++ [(c1, ty)]) s) {t0 : Nat} {c0 : ClassId} (ht : (am_tys cA)[t0]? = some (c0, ty)) : c1 = c0 := by
  have a1 := (hK.2 t0 _ ht).2
  have a2 := (hK2.2 (am_tys cA).length (c1, ty) (by simp)).2
  unfold va_RA at a1 a2
  cases ty with
  | object C =>
    obtain ⟨_, _, -, -, -, z1⟩ := a1
    obtain ⟨_, _, -, -, -, z2⟩ := a2
    exact Option.some.inj (z2.symm.trans z1)
  | _ => exact Option.some.inj (a2.symm.trans a1)
theorem am_Wd_al (hM : am_okM μ) {k : Nat} (hk : am_kd μ.1 = k) (hk2 : 12 ≤ k) {q : Nat} {H1 : Heap} {x : (Nat → Int32) ⊕ (Nat → Int64) ⊕ (Nat → UInt32) ⊕ (Nat → UInt64) ⊕ (Nat → Option Nat)} (hx : x = am_arr (am_adN ad μ.1 q) k (am_al μ) μ.1)
    (hP : va_P D am_cl (am_ws ad cA μ ++ [(q, .inl (cA k, (am_ln μ.1).toNat, x))]) H1) (hD : va_D A (am_ws ad cA μ ++ [(q, .inl (cA k, (am_ln μ.1).toNat, x))])) (hS : va_S A H0 H1 locs) : am_Wd D cA A H0 (am_adN ad μ.1 q) (am_al μ) H1 locs := by
  have e := am_ws_al (ad' := am_adN ad μ.1 q) (cA := cA) hM am_adN_lt
  rw [am_adN_at, am_cell_arr hk hk2, ← hx] at e
  exact ⟨by rw [e]; exact hP, by rw [e]; exact hD, hS⟩
theorem am_arr0 {k : Nat} {q : Nat} : am_arr (am_adN ad μ.1 q) k (am_al μ) μ.1 = if k = 21 then .inr (.inl fun _ => 0) else if 24 ≤ k then .inr (.inr (.inr (.inr fun _ => none))) else .inl fun _ => 0 := by
  unfold am_arr
  simp only [am_al_rd0]
  rfl
theorem am_W_newa (C : am_Cx y p s m args meth c D cA) {t : ArrayType} {a n : Int} (hd : decode (am_bc y) pc = .ok (.newarray t, 2)) (hf : am_aOk t a) (hk : am_ob μ.1 a.toNat = true) (hln : am_ln μ.1 = n) (hM : am_okM μ) (hW : am_Wd D cA A H0 ad μ H locs) (hA : ∀ q, H0.size ≤ q → A q) (hcells : cells + 1 ≤ R.cells) (hslots : slots + n.toNat ≤ R.slots) (hnl : n.toNat ≤ 10000)
    (kk : ∀ (q : Nat) (H1 : Heap), am_Wd D cA A H0 (am_adN ad μ.1 q) (am_al μ) H1 locs → W p l e R s m args below meth c H1 locs (cells + 1) (slots + n.toNat) Q (F0 m (pc + 2) ls (.ref q :: st.map (am_val ad)))) : W p l e R s m args below meth c H locs cells slots Q (F0 m pc ls (((0, n) :: st).map (am_val ad))) := by
  obtain ⟨hx, hb, hml, hown, hts, hK, -, hname⟩ := C
  obtain ⟨hP, hD, hS⟩ := hW
  obtain ⟨h1, h2⟩ := hf
  have hr := am_ln_ok μ.1
  rw [hln] at hr
  have hk' := am_ob_iff.mp hk
  have hn1 : ¬ Int32.ofInt n < 0 := by rw [show (0 : Int32) = Int32.ofInt 0 from rfl, am_ofInt_lt (by omega) (by omega)]; omega
  have hcl : (Int32.ofInt n).toNatClampNeg = n.toNat := am_clamp hr.1 hr.2
  rw [List.map_cons]
  rcases h1 with ⟨rfl, rfl⟩ | ⟨rfl, rfl⟩ | ⟨rfl, rfl⟩ | ⟨rfl, rfl⟩
  · refine va_newa (atype := .int) (a0 := (n.toNat, .inl fun _ => 0)) hx hb (hts _ h2) rfl hK hP hD hS hA (fun _ => rfl) hn1 hcl (by show n.toNat * 4 ≤ _; omega) hcells hslots hd fun q c1 H1 q0 q1 q2 q3 => kk q H1 ?_
    obtain rfl := am_cA_eq hK q0 (t0 := 0) rfl
    rw [← hln] at q1 q2
    exact am_Wd_al hM hk' (by decide) (by rw [am_arr0]; rfl) q1 q2 q3
  · refine va_newa (atype := .long) (a0 := (n.toNat, .inr (.inl fun _ => 0))) hx hb (hts _ h2) rfl hK hP hD hS hA (fun _ => rfl) hn1 hcl (by show n.toNat * 8 ≤ _; omega) hcells hslots hd fun q c1 H1 q0 q1 q2 q3 => kk q H1 ?_
    obtain rfl := am_cA_eq hK q0 (t0 := 1) rfl
    rw [← hln] at q1 q2
    exact am_Wd_al hM hk' (by decide) (by rw [am_arr0]; rfl) q1 q2 q3
  · refine va_newa (atype := .char) (a0 := (n.toNat, .inl fun _ => 0)) hx hb (hts _ h2) rfl hK hP hD hS hA (fun _ => rfl) hn1 hcl (by show n.toNat * 2 ≤ _; omega) hcells hslots hd fun q c1 H1 q0 q1 q2 q3 => kk q H1 ?_
    obtain rfl := am_cA_eq hK q0 (t0 := 2) rfl
    rw [← hln] at q1 q2
    exact am_Wd_al hM hk' (by decide) (by rw [am_arr0]; rfl) q1 q2 q3
  · refine va_newa (atype := .byte) (a0 := (n.toNat, .inl fun _ => 0)) hx hb (hts _ h2) rfl hK hP hD hS hA (fun _ => rfl) hn1 hcl (by show n.toNat * 1 ≤ _; omega) hcells hslots hd fun q c1 H1 q0 q1 q2 q3 => kk q H1 ?_
    obtain rfl := am_cA_eq hK q0 (t0 := 3) rfl
    rw [← hln] at q1 q2
    exact am_Wd_al hM hk' (by decide) (by rw [am_arr0]; rfl) q1 q2 q3
theorem am_W_newq (C : am_Cx y p s m args meth c D cA) {idx : Nat} {a n : Int} (hd : decode (am_bc y) pc = .ok (.anewarray idx, 3)) (hf : am_qOk (am_nm y).cls idx a) (hk : am_ob μ.1 a.toNat = true) (hln : am_ln μ.1 = n) (hM : am_okM μ) (hW : am_Wd D cA A H0 ad μ H locs) (hA : ∀ q, H0.size ≤ q → A q) (hcells : cells + 1 ≤ R.cells) (hslots : slots + n.toNat ≤ R.slots) (hnl : n.toNat ≤ 10000)
    (kk : ∀ (q : Nat) (H1 : Heap), am_Wd D cA A H0 (am_adN ad μ.1 q) (am_al μ) H1 locs → W p l e R s m args below meth c H1 locs (cells + 1) (slots + n.toNat) Q (F0 m (pc + 3) ls (.ref q :: st.map (am_val ad)))) : W p l e R s m args below meth c H locs cells slots Q (F0 m pc ls (((0, n) :: st).map (am_val ad))) := by
  obtain ⟨hx, hb, hml, hown, hts, hK, -, hname⟩ := C
  obtain ⟨hP, hD, hS⟩ := hW
  have hr := am_ln_ok μ.1
  rw [hln] at hr
  have hk' := am_ob_iff.mp hk
  have hn1 : ¬ Int32.ofInt n < 0 := by rw [show (0 : Int32) = Int32.ofInt 0 from rfl, am_ofInt_lt (by omega) (by omega)]; omega
  have hcl : (Int32.ofInt n).toNatClampNeg = n.toNat := am_clamp hr.1 hr.2
  have ao : ∀ {C : String}, Cond.arrayOver (.object C) ∈ am_G → va_AO C s := fun h => by
    have h2 := hts _ h
    simpa [va_AO, Cond.before, Cond.holds, Cond.value] using h2
  rw [List.map_cons]
  rcases hf with ⟨rfl, h1, h2⟩ | ⟨rfl, h1, h2⟩
  · refine va_newq hx hb hown (hts _ h1) (ao h2) hK hP hD hS hA hn1 hcl (by omega) hcells hslots hd fun q c1 H1 q0 q1 q2 q3 => kk q H1 ?_
    obtain rfl := am_cA_eq hK q0 (t0 := 4) rfl
    rw [← hln] at q1 q2
    exact am_Wd_al hM hk' (by decide) (by rw [am_arr0]; rfl) q1 q2 q3
  · refine va_newq hx hb hown (hts _ h1) (ao h2) hK hP hD hS hA hn1 hcl (by omega) hcells hslots hd fun q c1 H1 q0 q1 q2 q3 => kk q H1 ?_
    obtain rfl := am_cA_eq hK q0 (t0 := 5) rfl
    rw [← hln] at q1 q2
    exact am_Wd_al hM hk' (by decide) (by rw [am_arr0]; rfl) q1 q2 q3
end AMS
