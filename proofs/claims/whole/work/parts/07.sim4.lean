/-! the cells: their pictures, and reads and writes over the machine -/
def am_nf (k : Nat) : Nat := (am_fts.getD k []).length
def am_arr (ad : Int → Nat) (k : Nat) (m : am_M) (c : Int) : (Nat → Int32) ⊕ (Nat → Int64) ⊕ (Nat → UInt32) ⊕ (Nat → UInt64) ⊕ (Nat → Option Nat) :=
  if k = 21 then .inr (.inl fun j => Int64.ofInt (am_rd m c j)) else if 24 ≤ k then .inr (.inr (.inr (.inr fun j => if am_rd m c j = 0 then none else some (ad (am_rd m c j))))) else .inl fun j => Int32.ofInt (am_rd m c j)
def am_fs (ad : Int → Nat) (k : Nat) (m : am_M) (c : Int) : List Value := (List.range (am_nf k)).map fun (j : Nat) => am_val ad (am_tg (am_ft k j), am_rd m c j)
def am_cell (ad : Int → Nat) (cA : Nat → ClassId) (m : am_M) (c : Int) : va_E :=
  if am_kd c < 12 then .inr (am_kd c, am_fs ad (am_kd c) m c) else .inl (cA (am_kd c), (am_ln c).toNat, am_arr ad (am_kd c) m c)
def am_ws (ad : Int → Nat) (cA : Nat → ClassId) (m : am_M) : va_W := (List.range (m.1 - 1)).map fun (j : Nat) => (ad ((j + 1 : Nat) : Int), am_cell ad cA m ((j + 1 : Nat) : Int))
def am_Wd (D : va_G) (cA : Nat → ClassId) (A : Nat → Prop) (H0 : Heap) (ad : Int → Nat) (m : am_M) (H : Heap) (locs : List Loc) : Prop := va_P D am_cl (am_ws ad cA m) H ∧ va_D A (am_ws ad cA m) ∧ va_S A H0 H locs
/-- the tag of a cell's place -/
def am_ctg (c : Int) (i : Int) : Nat := if am_kd c < 12 then am_tg (am_ft (am_kd c) i.toNat) else if am_kd c = 21 then 1 else if 24 ≤ am_kd c then 2 else 0
def am_okM (m : am_M) : Prop := 1 ≤ m.1 ∧ ∀ c i : Int, 1 ≤ c → c < m.1 → 0 ≤ i → am_okV m.1 (am_ctg c i, am_rd m c i)
theorem am_kd_pos {o : Int} (h : ¬ am_kd o = 99) : 1 ≤ o := by
  by_cases h0 : 0 ≤ o
  · by_cases h1 : o = 0
    · subst h1
      exact absurd rfl h
    · omega
  · exact absurd (by unfold am_kd; rw [if_neg h0]) h
theorem am_ws_get {ad : Int → Nat} {cA : Nat → ClassId} {m : am_M} {o : Int} (h1 : 1 ≤ o) (h2 : o < m.1) : (am_ws ad cA m)[o.toNat - 1]? = some (ad o, am_cell ad cA m o) := by
  unfold am_ws
  rw [List.getElem?_map, List.getElem?_range (by omega), Option.map_some]
  have e : ((o.toNat - 1 + 1 : Nat) : Int) = o := by omega
  rw [e]
theorem am_ws_len {ad : Int → Nat} {cA : Nat → ClassId} {m : am_M} : (am_ws ad cA m).length = m.1 - 1 := by unfold am_ws; simp
theorem am_cell_eq {ad : Int → Nat} {cA : Nat → ClassId} {m m' : am_M} {c : Int} (h : ∀ i, am_rd m' c i = am_rd m c i) : am_cell ad cA m' c = am_cell ad cA m c := by
  unfold am_cell am_fs am_arr
  simp only [h]
theorem am_ws_set {ad : Int → Nat} {cA : Nat → ClassId} {m m' : am_M} {o : Int} (h1 : 1 ≤ o) (hn : m'.1 = m.1) (hc : ∀ c, ¬ c = o → ∀ i, am_rd m' c i = am_rd m c i) : am_ws ad cA m' = (am_ws ad cA m).set (o.toNat - 1) (ad o, am_cell ad cA m' o) := by
  apply List.ext_getElem?
  intro j
  rw [List.getElem?_set]
  by_cases hj : o.toNat - 1 = j
  · subst hj
    rw [if_pos rfl]
    by_cases hl : o < m.1
    · rw [am_ws_get h1 (by rw [hn]; exact hl), if_pos (by rw [am_ws_len]; omega)]
    · rw [List.getElem?_eq_none (by rw [am_ws_len]; omega), if_neg (by rw [am_ws_len]; omega)]
  · rw [if_neg hj]
    unfold am_ws
    rw [hn, List.getElem?_map, List.getElem?_map]
    by_cases hl : j < m.1 - 1
    · rw [List.getElem?_range hl, Option.map_some, Option.map_some, am_cell_eq (hc _ (by omega))]
    · rw [List.getElem?_eq_none (by simp; omega)]
      rfl
/-- the types of the fields -/
def am_tyf (k : Nat) : Nat → FieldType := [tyX0, tyX1, tyX2, tyX3, tyX4, tyX5, tyX6, tyX7, tyX8, tyX9, tyX10, tyX11].getD k tyX0
def am_tOk (t : Nat) (ty : FieldType) : Bool := match ty with
  | .int => t == 0
  | .long => t == 1
  | .boolean => t == 3
  | .object _ => t == 2
  | .array _ => t == 2
  | _ => false
theorem am_inG {ws : List Cond} (h : ws.all (fun w => decide (w ∈ lw_tbl) && goodWord w) = true) : ∀ w ∈ ws, w ∈ am_G := by
  intro w hw
  have h1 := List.all_eq_true.mp h w hw
  simp only [Bool.and_eq_true, decide_eq_true_eq] at h1
  exact List.mem_filter.mpr ⟨h1.1, by rw [h1.2]; rfl⟩
def am_clOk (ci : Nat) (C : String) (T : u_T) (N : Nat) : Prop := (∀ w ∈ u_ws C T N, w ∈ am_G) ∧ (∀ k, k < N → parseFieldDescriptor (T k).2.2.1 = some (am_tyf ci k)) ∧ (∀ a, a < N → ∀ b, b < N → a ≠ b → (T a).2.1 ≠ (T b).2.1) ∧ N = am_nf ci ∧ ∀ k, k < N → am_tOk (am_ft ci k) (am_tyf ci k) = true
set_option maxRecDepth 20000 in
theorem am_cl0 : am_clOk 0 RX0 TX0 2 := ⟨am_inG (by decide +kernel), tyX0_ok, nmX0, rfl, by decide +kernel⟩
set_option maxRecDepth 20000 in
theorem am_cl1 : am_clOk 1 RX1 TX1 8 := ⟨am_inG (by decide +kernel), tyX1_ok, nmX1, rfl, by decide +kernel⟩
set_option maxRecDepth 20000 in
theorem am_cl2 : am_clOk 2 RX2 TX2 13 := ⟨am_inG (by decide +kernel), tyX2_ok, nmX2, rfl, by decide +kernel⟩
set_option maxRecDepth 20000 in
theorem am_cl3 : am_clOk 3 RX3 TX3 8 := ⟨am_inG (by decide +kernel), tyX3_ok, nmX3, rfl, by decide +kernel⟩
set_option maxRecDepth 20000 in
theorem am_cl4 : am_clOk 4 RX4 TX4 4 := ⟨am_inG (by decide +kernel), tyX4_ok, nmX4, rfl, by decide +kernel⟩
set_option maxRecDepth 20000 in
theorem am_cl5 : am_clOk 5 RX5 TX5 5 := ⟨am_inG (by decide +kernel), tyX5_ok, nmX5, rfl, by decide +kernel⟩
set_option maxRecDepth 20000 in
theorem am_cl6 : am_clOk 6 RX6 TX6 10 := ⟨am_inG (by decide +kernel), tyX6_ok, nmX6, rfl, by decide +kernel⟩
set_option maxRecDepth 20000 in
theorem am_cl7 : am_clOk 7 RX7 TX7 4 := ⟨am_inG (by decide +kernel), tyX7_ok, nmX7, rfl, by decide +kernel⟩
set_option maxRecDepth 20000 in
theorem am_cl8 : am_clOk 8 RX8 TX8 7 := ⟨am_inG (by decide +kernel), tyX8_ok, nmX8, rfl, by decide +kernel⟩
set_option maxRecDepth 20000 in
theorem am_cl9 : am_clOk 9 RX9 TX9 3 := ⟨am_inG (by decide +kernel), tyX9_ok, nmX9, rfl, by decide +kernel⟩
set_option maxRecDepth 20000 in
theorem am_cl10 : am_clOk 10 RX10 TX10 15 := ⟨am_inG (by decide +kernel), tyX10_ok, nmX10, rfl, by decide +kernel⟩
set_option maxRecDepth 20000 in
theorem am_cl11 : am_clOk 11 RX11 TX11 54 := ⟨am_inG (by decide +kernel), tyX11_ok, nmX11, rfl, by decide +kernel⟩
theorem am_cls {ci : Nat} {C : String} {T : u_T} {N : Nat} (h : am_cl[ci]? = some (C, T, N)) : ci < 12 ∧ am_clOk ci C T N := by
  match ci, h with
  | 0, h => cases h; exact ⟨by decide, am_cl0⟩
  | 1, h => cases h; exact ⟨by decide, am_cl1⟩
  | 2, h => cases h; exact ⟨by decide, am_cl2⟩
  | 3, h => cases h; exact ⟨by decide, am_cl3⟩
  | 4, h => cases h; exact ⟨by decide, am_cl4⟩
  | 5, h => cases h; exact ⟨by decide, am_cl5⟩
  | 6, h => cases h; exact ⟨by decide, am_cl6⟩
  | 7, h => cases h; exact ⟨by decide, am_cl7⟩
  | 8, h => cases h; exact ⟨by decide, am_cl8⟩
  | 9, h => cases h; exact ⟨by decide, am_cl9⟩
  | 10, h => cases h; exact ⟨by decide, am_cl10⟩
  | 11, h => cases h; exact ⟨by decide, am_cl11⟩
  | n + 12, h => simp [am_cl] at h
