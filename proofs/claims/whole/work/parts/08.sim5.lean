/-! fields and arrays, over the machine -/
def am_fOk (own : String) (idx : Nat) (a b : Int) (fin : Bool) : Prop := ∃ (C : String) (T : u_T) (N : Nat), am_cl[a.toNat]? = some (C, T, N) ∧ b = (b.toNat : Int) ∧ b.toNat < N ∧ (Cond.fieldLink own idx (T b.toNat).1 (T b.toNat).2.1 (T b.toNat).2.2.1 ∈ am_G ∨ ((T b.toNat).2.2.2 = false ∧ ∃ host, Cond.fieldLinkNest own idx (T b.toNat).1 (T b.toNat).2.1 (T b.toNat).2.2.1 host ∈ am_G) ∨ (fin = false ∧ ∃ host, Cond.fieldLinkNest own idx (T b.toNat).1 (T b.toNat).2.1 (T b.toNat).2.2.1 host ∈ am_G)) ∧ (fin = true → (T b.toNat).2.2.2 = true → (T b.toNat).1 = own)
/-- what the tables say of an instruction that touches cells -/
def am_hOk (y : Nat) (q : Instr) (a b : Int) : Prop := match q with
  | .getfield idx => am_fOk (am_nm y).cls idx a b false
  | .putfield idx => am_fOk (am_nm y).cls idx a b true ∧ (∀ C T N, am_cl[a.toNat]? = some (C, T, N) → (T b.toNat).2.2.2 = true → (am_nm y).name = "<init>" ∧ y < am_law)
  | _ => True
theorem am_val_ref {ad : Int → Nat} {o : Int} (h : 1 ≤ o) : am_val ad (2, o) = .ref (ad o) := by show (if o = 0 then Value.null else _) = _; rw [if_neg (by omega)]
theorem am_cell_ob {ad : Int → Nat} {cA : Nat → ClassId} {m : am_M} {o : Int} {k : Nat} (h : am_kd o = k) (hk : k < 12) : am_cell ad cA m o = .inr (k, am_fs ad k m o) := by
  unfold am_cell; rw [if_pos (by omega), h]
theorem am_cell_arr {ad : Int → Nat} {cA : Nat → ClassId} {m : am_M} {o : Int} {k : Nat} (h : am_kd o = k) (hk : 12 ≤ k) : am_cell ad cA m o = .inl (cA k, (am_ln o).toNat, am_arr ad k m o) := by
  unfold am_cell; rw [if_neg (by omega), h]
theorem am_fs_get {ad : Int → Nat} {k : Nat} {m : am_M} {o : Int} {j : Nat} (h : j < am_nf k) : (am_fs ad k m o)[j]? = some (am_val ad (am_tg (am_ft k j), am_rd m o j)) := by
  unfold am_fs; rw [List.getElem?_map, List.getElem?_range h]; rfl
theorem am_wr_same {m : am_M} {c i v : Int} : am_rd (am_wr m c i v) c i = v := by show (if c = c ∧ i = i then v else _) = v; rw [if_pos ⟨rfl, rfl⟩]
theorem am_wr_ne {m : am_M} {c i v c' i' : Int} (h : ¬ (c' = c ∧ i' = i)) : am_rd (am_wr m c i v) c' i' = am_rd m c' i' := by show (if c' = c ∧ i' = i then v else _) = _; rw [if_neg h]; rfl
theorem am_fs_set {ad : Int → Nat} {k : Nat} {m : am_M} {o v : Int} {j : Nat} : (am_fs ad k m o).set j (am_val ad (am_tg (am_ft k j), v)) = am_fs ad k (am_wr m o j v) o := by
  apply List.ext_getElem?
  intro i
  rw [List.getElem?_set]
  by_cases hi : j = i
  · subst hi
    rw [if_pos rfl]
    by_cases hl : j < am_nf k
    · rw [am_fs_get hl, am_wr_same, if_pos (by unfold am_fs; simp; exact hl)]
    · rw [List.getElem?_eq_none (l := am_fs ad k (am_wr m o j v) o) (by unfold am_fs; simp; omega), if_neg (by unfold am_fs; simp; omega)]
  · rw [if_neg hi]
    by_cases hl : i < am_nf k
    · rw [am_fs_get hl, am_fs_get hl, am_wr_ne (by omega)]
    · rw [List.getElem?_eq_none (by unfold am_fs; simp; omega), List.getElem?_eq_none (by unfold am_fs; simp; omega)]
theorem am_ar_iff {o i : Int} {k : Nat} : am_ar o k i = true ↔ am_kd o = k ∧ 0 ≤ i ∧ i < am_ln o := by
  unfold am_ar; simp [Bool.and_eq_true, and_assoc]
theorem am_ob_iff {o : Int} {k : Nat} : am_ob o k = true ↔ am_kd o = k := by unfold am_ob; simp
theorem am_clamp {i : Int} (h1 : 0 ≤ i) (h2 : i < 2147483648) : (Int32.ofInt i).toNatClampNeg = i.toNat := by
  show (am_w32 i).toNat = i.toNat
  rw [am_w32_id (by omega) h2]
theorem am_vpin {i : Int} {n : Nat} (h1 : 0 ≤ i) (h2 : i < 2147483648) (h3 : i.toNat < n) : vp_in (Int32.ofInt i) n := by
  intro q
  rw [am_clamp h1 h2] at q
  rcases q with q | q
  · rw [show (0 : Int32) = Int32.ofInt 0 from rfl, am_ofInt_lt (by omega) (by omega)] at q
    omega
  · omega
theorem am_nar_c (v : Int) : vp_nar .char (Int32.ofInt v) = Int32.ofInt (am_u16 v) := by
  rw [vp_nar_char]
  unfold am_u16
  rw [Int32.ofInt_toInt]
  congr 1
section AMS
variable {p : Program} {l : Launch} {e : Env} {R : Room} {s : State} {m : MethodId} {args : Array Value} {below : List Frame} {meth : Method} {c : Code} {H : Heap} {locs : List Loc} {cells slots : Nat} {Q : State → Prop}
variable {D : va_G} {cA : Nat → ClassId} {y pc : Nat} {ad : Int → Nat} {ls : Array Slot} {st st' : List am_V} {A : Nat → Prop} {H0 : Heap} {μ μ' : am_M}
theorem am_W_get (C : am_Cx y p s m args meth c D cA) {idx : Nat} {a b o : Int} (hd : decode (am_bc y) pc = .ok (.getfield idx, 3)) (hf : am_fOk (am_nm y).cls idx a b false) (ho : am_ob o a.toNat = true) (ho2 : o < μ.1) (hW : am_Wd D cA A H0 ad μ H locs)
    (kk : W p l e R s m args below meth c H locs cells slots Q (F0 m (pc + 3) ls (am_val ad (am_tg (am_ft a.toNat b.toNat), am_rd μ o b) :: st.map (am_val ad)))) : W p l e R s m args below meth c H locs cells slots Q (F0 m pc ls (((2, o) :: st).map (am_val ad))) := by
  obtain ⟨hx, hb, hml, hown, hts, hK, -⟩ := C
  obtain ⟨hP, hD, hS⟩ := hW
  obtain ⟨Cn, T, N, h1, h2, h3, h4, h5⟩ := hf
  obtain ⟨hci, g1, g2, g3, g4, g5⟩ := am_cls h1
  have hk : am_kd o = a.toNat := am_ob_iff.mp ho
  have hp1 : 1 ≤ o := am_kd_pos (by omega)
  rw [List.map_cons, am_val_ref hp1]
  have he := am_ws_get (ad := ad) (cA := cA) (m := μ) hp1 ho2
  rw [am_cell_ob hk hci] at he
  have hv := am_fs_get (ad := ad) (k := a.toNat) (m := μ) (o := o) (j := b.toNat) (by omega)
  rw [← h2] at hv
  rcases h4 with h4 | ⟨-, host, h4⟩ | ⟨-, host, h4⟩
  · exact va_get hx hb hts g1 hown hK hP _ he h1 b.toNat h3 (hts _ h4) (fun _ h => h) hv hd kk
  · exact va_getN hx hb hts g1 hown hK hP _ he h1 b.toNat h3 (hts _ h4) (fun _ h => h) hv hd kk
  · exact va_getN hx hb hts g1 hown hK hP _ he h1 b.toNat h3 (hts _ h4) (fun _ h => h) hv hd kk
theorem am_fit {t : Nat} {ty : FieldType} (ht : am_tOk t ty = true) {v : am_V} (hv : am_fits t v = true) : narrow ty (am_val ad v) = am_val ad v ∧ fits ty (am_val ad v) = true ∧ am_val ad v = am_val ad (am_tg t, v.2) := by
  obtain ⟨k, x⟩ := v
  unfold am_fits at hv
  by_cases h3 : t = 3
  · subst h3
    rw [if_pos rfl] at hv
    simp only [Bool.and_eq_true, beq_iff_eq, Bool.or_eq_true] at hv
    obtain ⟨rfl, hv⟩ := hv
    cases ty <;> simp [am_tOk] at ht
    rcases hv with rfl | rfl <;> exact ⟨rfl, rfl, rfl⟩
  · rw [if_neg h3] at hv
    have hk : k = t := by simpa using hv
    subst hk
    have e : am_tg k = k := by unfold am_tg; rw [if_neg h3]
    rw [e]
    cases ty <;> simp [am_tOk] at ht <;> subst ht
    · exact ⟨rfl, rfl, rfl⟩
    · exact ⟨rfl, rfl, rfl⟩
    · exact absurd rfl h3
    · have ev : am_val ad (2, x) = .null ∨ ∃ z, am_val ad (2, x) = .ref z := by
        show (if x = 0 then Value.null else .ref (ad x)) = .null ∨ ∃ z, (if x = 0 then Value.null else .ref (ad x)) = .ref z
        split
        · exact Or.inl rfl
        · exact Or.inr ⟨_, rfl⟩
      rcases ev with ev | ⟨z, ev⟩ <;> rw [ev] <;> exact ⟨rfl, rfl, rfl⟩
    · have ev : am_val ad (2, x) = .null ∨ ∃ z, am_val ad (2, x) = .ref z := by
        show (if x = 0 then Value.null else .ref (ad x)) = .null ∨ ∃ z, (if x = 0 then Value.null else .ref (ad x)) = .ref z
        split
        · exact Or.inl rfl
        · exact Or.inr ⟨_, rfl⟩
      rcases ev with ev | ⟨z, ev⟩ <;> rw [ev] <;> exact ⟨rfl, rfl, rfl⟩
theorem am_Wd_set (hW : am_Wd D cA A H0 ad μ H locs) {o : Int} {H1 : Heap} {locs1 : List Loc} (h1 : 1 ≤ o) (hn : μ'.1 = μ.1) (hc : ∀ c, ¬ c = o → ∀ i, am_rd μ' c i = am_rd μ c i) {x : va_E} (hx : x = am_cell ad cA μ' o)
    (hP : va_P D am_cl ((am_ws ad cA μ).set (o.toNat - 1) (ad o, x)) H1) (hD : va_D A ((am_ws ad cA μ).set (o.toNat - 1) (ad o, x))) (hS : va_S A H0 H1 locs1) : am_Wd D cA A H0 ad μ' H1 locs1 := by
  subst hx
  rw [← am_ws_set h1 hn hc] at hP hD
  exact ⟨hP, hD, hS⟩
theorem am_W_put (C : am_Cx y p s m args meth c D cA) {idx : Nat} {a b o : Int} {v : am_V} (hd : decode (am_bc y) pc = .ok (.putfield idx, 3)) (hf : am_fOk (am_nm y).cls idx a b true) (hin : ∀ C T N, am_cl[a.toNat]? = some (C, T, N) → (T b.toNat).2.2.2 = true → (am_nm y).name = "<init>" ∧ y < am_law) (ho : am_ob o a.toNat = true) (hv : am_fits (am_ft a.toNat b.toNat) v = true) (ho2 : o < μ.1) (hW : am_Wd D cA A H0 ad μ H locs)
    (kk : ∀ (H1 : Heap) (locs1 : List Loc), am_Wd D cA A H0 ad (am_wr μ o b v.2) H1 locs1 → W p l e R s m args below meth c H1 locs1 cells slots Q (F0 m (pc + 3) ls (st.map (am_val ad)))) : W p l e R s m args below meth c H locs cells slots Q (F0 m pc ls ((v :: (2, o) :: st).map (am_val ad))) := by
  obtain ⟨hx, hb, hml, hown, hts, hK, -, hname⟩ := C
  have hW0 := hW
  obtain ⟨hP, hD, hS⟩ := hW
  obtain ⟨Cn, T, N, h1, h2, h3, h4, h5⟩ := hf
  obtain ⟨hci, g1, g2, g3, g4, g5⟩ := am_cls h1
  have hk : am_kd o = a.toNat := am_ob_iff.mp ho
  have hp1 : 1 ≤ o := am_kd_pos (by omega)
  rw [List.map_cons, List.map_cons, am_val_ref hp1]
  have he := am_ws_get (ad := ad) (cA := cA) (m := μ) hp1 ho2
  rw [am_cell_ob hk hci] at he
  obtain ⟨f1, f2, f3⟩ := am_fit (ad := ad) (g5 b.toNat h3) hv
  have hll : b.toNat < (am_fs ad a.toNat μ o).length := by unfold am_fs; simp; omega
  have key : ∀ (H1 : Heap) (locs1 : List Loc), va_P D am_cl ((am_ws ad cA μ).set (o.toNat - 1) (ad o, .inr (a.toNat, (am_fs ad a.toNat μ o).set b.toNat (am_val ad v)))) H1 → va_D A ((am_ws ad cA μ).set (o.toNat - 1) (ad o, .inr (a.toNat, (am_fs ad a.toNat μ o).set b.toNat (am_val ad v)))) → va_S A H0 H1 locs1 → W p l e R s m args below meth c H1 locs1 cells slots Q (F0 m (pc + 3) ls (st.map (am_val ad))) := by
    intro H1 locs1 q1 q2 q3
    refine kk H1 locs1 (am_Wd_set hW0 hp1 rfl (fun c hc i => am_wr_ne (fun q => hc q.1)) ?_ q1 q2 q3)
    rw [am_cell_ob hk hci, f3, am_fs_set, ← h2]
  cases hfin : (T b.toNat).2.2.2 with
  | false =>
    rcases h4 with h4 | ⟨-, host, h4⟩ | ⟨h4, -⟩
    · exact va_put hx hb hts g1 (am_tyf a.toNat) g2 g3 hown hK hP hD hS _ he h1 b.toNat h3 (hts _ h4) (fun _ h => h) hfin (g2 _ h3) f1 f2 hll hd key
    · exact va_putN hx hb hts g1 (am_tyf a.toNat) g2 g3 hown hK hP hD hS _ he h1 b.toNat h3 (hts _ h4) (fun _ h => h) hfin (g2 _ h3) f1 f2 hll hd key
    · cases h4
  | true =>
    rcases h4 with h4 | ⟨h4, -⟩ | ⟨h4, -⟩
    · exact va_putF hx hb hts g1 (am_tyf a.toNat) g2 g3 hown hK hP hD hS _ he h1 b.toNat h3 (hts _ h4) (fun _ h => h) hfin ((hname (hin _ _ _ h1 hfin).2).trans (hin _ _ _ h1 hfin).1) (h5 rfl hfin) (g2 _ h3) f1 f2 hll hd key
    · rw [hfin] at h4; cases h4
    · cases h4
theorem am_arr_i {k : Nat} {o : Int} (h1 : ¬ k = 21) (h2 : ¬ 24 ≤ k) : am_arr ad k μ o = .inl fun j => Int32.ofInt (am_rd μ o j) := by unfold am_arr; rw [if_neg h1, if_neg h2]
theorem am_arr_l {o : Int} : am_arr ad 21 μ o = .inr (.inl fun j => Int64.ofInt (am_rd μ o j)) := by unfold am_arr; rw [if_pos rfl]
theorem am_arr_q {k : Nat} {o : Int} (h2 : 24 ≤ k) : am_arr ad k μ o = .inr (.inr (.inr (.inr fun j => if am_rd μ o j = 0 then none else some (ad (am_rd μ o j))))) := by unfold am_arr; rw [if_neg (by omega), if_pos h2]
theorem am_va_rf {x : Int} : va_rf (if x = 0 then none else some (ad x)) = am_val ad (2, x) := by
  show _ = (if x = 0 then Value.null else .ref (ad x))
  split <;> rfl
theorem am_upd_i {o i v : Int} (h : 0 ≤ i) : upd (fun j => Int32.ofInt (am_rd μ o j)) i.toNat (Int32.ofInt v) = fun j => Int32.ofInt (am_rd (am_wr μ o i v) o (j : Nat)) := by
  funext j
  show (if j = i.toNat then _ else _) = _
  by_cases hj : j = i.toNat
  · rw [if_pos hj, show ((j : Nat) : Int) = i by omega, am_wr_same]
  · rw [if_neg hj, am_wr_ne (by omega)]
theorem am_upd_l {o i v : Int} (h : 0 ≤ i) : vp_updL (fun j => Int64.ofInt (am_rd μ o j)) i.toNat (Int64.ofInt v) = fun j => Int64.ofInt (am_rd (am_wr μ o i v) o (j : Nat)) := by
  funext j
  show (if j = i.toNat then _ else _) = _
  by_cases hj : j = i.toNat
  · rw [if_pos hj, show ((j : Nat) : Int) = i by omega, am_wr_same]
  · rw [if_neg hj, am_wr_ne (by omega)]
theorem am_upd_q {o i v : Int} (h : 0 ≤ i) (hv : ¬ v = 0) : va_up (fun j => if am_rd μ o j = 0 then none else some (ad (am_rd μ o j))) i.toNat (some (ad v)) = fun j => if am_rd (am_wr μ o i v) o (j : Nat) = 0 then none else some (ad (am_rd (am_wr μ o i v) o (j : Nat))) := by
  funext j
  show (if j = i.toNat then _ else _) = _
  by_cases hj : j = i.toNat
  · rw [if_pos hj, show ((j : Nat) : Int) = i by omega, am_wr_same, if_neg hv]
  · rw [if_neg hj, am_wr_ne (by omega)]
set_option maxHeartbeats 1000000 in
theorem am_sim_heap (C : am_Cx y p s m args meth c D cA) {q : Instr} {a b : Int} (hn : (∀ i, ¬ q = .new i) ∧ (∀ i, ¬ q = .newarray i) ∧ (∀ i, ¬ q = .anewarray i) ∧ ∀ i j, ¬ q = .multianewarray i j) (hd : decode (am_bc y) pc = .ok (q, am_len q)) (hc : am_hOk y q a b) (hp : am_heap q a b st μ = some (st', μ')) (hso : ∀ v ∈ st, am_okV μ.1 v) (hW : am_Wd D cA A H0 ad μ H locs)
    (kk : ∀ (H1 : Heap) (locs1 : List Loc), am_Wd D cA A H0 ad μ' H1 locs1 → W p l e R s m args below meth c H1 locs1 cells slots Q (F0 m (pc + am_len q) ls (st'.map (am_val ad)))) : W p l e R s m args below meth c H locs cells slots Q (F0 m pc ls (st.map (am_val ad))) := by
  have C0 := C
  have hW0 := hW
  obtain ⟨hx, hb, hml, hown, hts, hK, -, hname⟩ := C
  obtain ⟨hP, hD, hS⟩ := hW
  have rg : ∀ (a : Int), (0, a) ∈ st → -2147483648 ≤ a ∧ a < 2147483648 := fun a ha => by have := hso _ ha; simpa [am_okV] using this
  have rr : ∀ (a : Int), (2, a) ∈ st → a < μ.1 := fun a ha => by have := hso _ ha; simp [am_okV] at this; exact this.2
  unfold am_heap at hp
  split at hp
  -- getfield
  · rename_i idx o r
    split at hp
    · rename_i ho
      cases hp
      exact am_W_get C0 hd hc ho (rr o List.mem_cons_self) hW0 (kk H locs hW0)
    · cases hp
  -- putfield
  · rename_i idx v o r
    split at hp
    · rename_i ho
      rw [Bool.and_eq_true] at ho
      cases hp
      exact am_W_put C0 hd hc.1 hc.2 ho.1 ho.2 (rr o (List.mem_cons_of_mem _ List.mem_cons_self)) hW0 kk
    · cases hp
  -- arraylength
  · rename_i o r
    split at hp
    · rename_i ho
      rw [Bool.and_eq_true] at ho
      have ho1 := Nat.le_of_ble_eq_true ho.1
      have ho2 := Nat.le_of_ble_eq_true ho.2
      cases hp
      have hp1 : 1 ≤ o := am_kd_pos (by omega)
      have he := am_ws_get (ad := ad) (cA := cA) (m := μ) hp1 (rr o List.mem_cons_self)
      rw [am_cell_arr rfl (by omega)] at he
      have kk := kk H locs hW0
      have hln : Int32.ofNat (am_ln o).toNat = Int32.ofInt (am_ln o) := by
        have h0 : 0 ≤ am_ln o := by unfold am_ln; split <;> omega
        have : am_ln o = ((am_ln o).toNat : Int) := by omega
        rw [this]; rfl
      rw [List.map_cons, am_val_ref hp1]
      obtain ⟨t0, ty, ht0⟩ : ∃ (t0 : Nat) (ty : FieldType), (am_tys cA)[t0]? = some (cA (am_kd o), ty) := by
        have hcs : am_kd o = 20 ∨ am_kd o = 21 ∨ am_kd o = 22 ∨ am_kd o = 23 ∨ am_kd o = 24 ∨ am_kd o = 25 ∨ am_kd o = 26 := by omega
        rcases hcs with h | h | h | h | h | h | h <;> rw [h]
        · exact ⟨0, _, rfl⟩
        · exact ⟨1, _, rfl⟩
        · exact ⟨2, _, rfl⟩
        · exact ⟨3, _, rfl⟩
        · exact ⟨4, _, rfl⟩
        · exact ⟨5, _, rfl⟩
        · exact ⟨6, _, rfl⟩
      exact va_alen hx hb hK hP _ t0 he ht0 hln hd kk
    · cases hp
  -- iaload
  · rename_i i o r
    split at hp
    · rename_i ho
      obtain ⟨h1, h2, h3⟩ := am_ar_iff.mp ho
      cases hp
      have hp1 : 1 ≤ o := am_kd_pos (by omega)
      have he := am_ws_get (ad := ad) (cA := cA) (m := μ) hp1 (rr o (List.mem_cons_of_mem _ List.mem_cons_self))
      rw [am_cell_arr h1 (by omega), am_arr_i (by omega) (by omega)] at he
      have ri := rg i List.mem_cons_self
      have kk := kk H locs hW0
      rw [List.map_cons, List.map_cons, am_val_ref hp1]
      refine va_iald hx hb hK hP _ 0 he rfl (am_vpin h2 ri.2 (by omega)) hd ?_
      rw [am_clamp h2 ri.2, show ((i.toNat : Nat) : Int) = i by omega]
      exact kk
    · cases hp
  -- laload
  · rename_i i o r
    split at hp
    · rename_i ho
      obtain ⟨h1, h2, h3⟩ := am_ar_iff.mp ho
      cases hp
      have hp1 : 1 ≤ o := am_kd_pos (by omega)
      have he := am_ws_get (ad := ad) (cA := cA) (m := μ) hp1 (rr o (List.mem_cons_of_mem _ List.mem_cons_self))
      rw [am_cell_arr h1 (by omega), am_arr_l] at he
      have ri := rg i List.mem_cons_self
      have kk := kk H locs hW0
      rw [List.map_cons, List.map_cons, am_val_ref hp1]
      refine va_lald hx hb hK hP _ 1 he rfl (am_vpin h2 ri.2 (by omega)) hd ?_
      rw [am_clamp h2 ri.2, show ((i.toNat : Nat) : Int) = i by omega]
      exact kk
    · cases hp
  -- caload
  · rename_i i o r
    split at hp
    · rename_i ho
      obtain ⟨h1, h2, h3⟩ := am_ar_iff.mp ho
      cases hp
      have hp1 : 1 ≤ o := am_kd_pos (by omega)
      have he := am_ws_get (ad := ad) (cA := cA) (m := μ) hp1 (rr o (List.mem_cons_of_mem _ List.mem_cons_self))
      rw [am_cell_arr h1 (by omega), am_arr_i (by omega) (by omega)] at he
      have ri := rg i List.mem_cons_self
      have kk := kk H locs hW0
      rw [List.map_cons, List.map_cons, am_val_ref hp1]
      refine va_cald hx hb hK hP _ 2 he rfl (am_vpin h2 ri.2 (by omega)) hd ?_
      rw [am_clamp h2 ri.2, show ((i.toNat : Nat) : Int) = i by omega]
      exact kk
    · cases hp
  -- baload
  · rename_i i o r
    split at hp
    · rename_i ho
      obtain ⟨h1, h2, h3⟩ := am_ar_iff.mp ho
      cases hp
      have hp1 : 1 ≤ o := am_kd_pos (by omega)
      have he := am_ws_get (ad := ad) (cA := cA) (m := μ) hp1 (rr o (List.mem_cons_of_mem _ List.mem_cons_self))
      rw [am_cell_arr h1 (by omega), am_arr_i (by omega) (by omega)] at he
      have ri := rg i List.mem_cons_self
      have kk := kk H locs hW0
      rw [List.map_cons, List.map_cons, am_val_ref hp1]
      refine va_bald hx hb hK hP _ 3 he rfl (am_vpin h2 ri.2 (by omega)) hd ?_
      rw [am_clamp h2 ri.2, show ((i.toNat : Nat) : Int) = i by omega]
      exact kk
    · cases hp
  -- aaload
  · rename_i i o r
    split at hp
    · rename_i ho
      simp only [Bool.or_eq_true] at ho
      cases hp
      have ri := rg i List.mem_cons_self
      have kk := kk H locs hW0
      have hcs : (am_kd o = 24 ∨ am_kd o = 25 ∨ am_kd o = 26) ∧ 0 ≤ i ∧ i < am_ln o := by
        rcases ho with ho | ho | ho <;> obtain ⟨h1, h2⟩ := am_ar_iff.mp ho
        · exact ⟨Or.inl h1, h2⟩
        · exact ⟨Or.inr (Or.inl h1), h2⟩
        · exact ⟨Or.inr (Or.inr h1), h2⟩
      obtain ⟨hk, h2, h3⟩ := hcs
      have hp1 : 1 ≤ o := am_kd_pos (by omega)
      have he := am_ws_get (ad := ad) (cA := cA) (m := μ) hp1 (rr o (List.mem_cons_of_mem _ List.mem_cons_self))
      rw [List.map_cons, List.map_cons, am_val_ref hp1]
      rw [List.map_cons, ← am_va_rf] at kk
      rcases hk with h1 | h1 | h1
      · rw [am_cell_arr h1 (by omega), am_arr_q (by omega)] at he
        refine va_aldq hx hb hK hP _ 4 he rfl (am_vpin h2 ri.2 (by omega)) hd ?_
        rw [am_clamp h2 ri.2, show ((i.toNat : Nat) : Int) = i by omega]
        exact kk
      · rw [am_cell_arr h1 (by omega), am_arr_q (by omega)] at he
        refine va_aldq hx hb hK hP _ 5 he rfl (am_vpin h2 ri.2 (by omega)) hd ?_
        rw [am_clamp h2 ri.2, show ((i.toNat : Nat) : Int) = i by omega]
        exact kk
      · rw [am_cell_arr h1 (by omega), am_arr_q (by omega)] at he
        have hin := am_vpin (n := (am_ln o).toNat) h2 ri.2 (by omega)
        have hlt : (Int32.ofInt i).toNatClampNeg < (am_ln o).toNat := Nat.not_le.mp fun q => hin (Or.inr q)
        refine W.aald (v := va_rf (if am_rd μ o ((Int32.ofInt i).toNatClampNeg : Nat) = 0 then none else some (ad (am_rd μ o ((Int32.ofInt i).toNatClampNeg : Nat))))) (ty := .array .int) hx hb (hP _ _ he) ((hK.2 6 _ rfl).1 (am_ln o).toNat (fun j => va_rf (if am_rd μ o (j : Nat) = 0 then none else some (ad (am_rd μ o (j : Nat)))))) rfl (fun q => by cases q) (by show ¬ (_ ∨ (arrV _ _ _).slots.size ≤ _); rw [arrV_size]; exact hin) (by show (arrV _ _ _).slots[_]? = _; rw [arrV_read _ _ hlt]) rfl rfl hd ?_
        rw [am_clamp h2 ri.2, show ((i.toNat : Nat) : Int) = i by omega]
        exact kk
    · cases hp
  -- iastore
  · rename_i v i o r
    split at hp
    · rename_i ho
      obtain ⟨h1, h2, h3⟩ := am_ar_iff.mp ho
      cases hp
      have hp1 : 1 ≤ o := am_kd_pos (by omega)
      have he := am_ws_get (ad := ad) (cA := cA) (m := μ) hp1 (rr o (List.mem_cons_of_mem _ (List.mem_cons_of_mem _ List.mem_cons_self)))
      rw [am_cell_arr h1 (by omega), am_arr_i (by omega) (by omega)] at he
      have ri := rg i (List.mem_cons_of_mem _ List.mem_cons_self)
      rw [List.map_cons, List.map_cons, List.map_cons, am_val_ref hp1]
      refine va_iast hx hb hK hP hD hS _ 0 he rfl (am_vpin h2 ri.2 (by omega)) hd fun H1 locs1 q1 q2 q3 => kk H1 locs1 (am_Wd_set hW0 hp1 rfl (fun c hc i => am_wr_ne (fun q => hc q.1)) ?_ q1 q2 q3)
      rw [am_clamp h2 ri.2, am_cell_arr h1 (by omega), am_arr_i (by omega) (by omega), am_upd_i h2]
    · cases hp
  -- lastore
  · rename_i v i o r
    split at hp
    · rename_i ho
      obtain ⟨h1, h2, h3⟩ := am_ar_iff.mp ho
      cases hp
      have hp1 : 1 ≤ o := am_kd_pos (by omega)
      have he := am_ws_get (ad := ad) (cA := cA) (m := μ) hp1 (rr o (List.mem_cons_of_mem _ (List.mem_cons_of_mem _ List.mem_cons_self)))
      rw [am_cell_arr h1 (by omega), am_arr_l] at he
      have ri := rg i (List.mem_cons_of_mem _ List.mem_cons_self)
      rw [List.map_cons, List.map_cons, List.map_cons, am_val_ref hp1]
      refine va_last hx hb hK hP hD hS _ 1 he rfl (am_vpin h2 ri.2 (by omega)) hd fun H1 locs1 q1 q2 q3 => kk H1 locs1 (am_Wd_set hW0 hp1 rfl (fun c hc i => am_wr_ne (fun q => hc q.1)) ?_ q1 q2 q3)
      rw [am_clamp h2 ri.2, am_cell_arr h1 (by omega), am_arr_l, am_upd_l h2]
    · cases hp
  -- castore
  · rename_i v i o r
    split at hp
    · rename_i ho
      obtain ⟨h1, h2, h3⟩ := am_ar_iff.mp ho
      cases hp
      have hp1 : 1 ≤ o := am_kd_pos (by omega)
      have he := am_ws_get (ad := ad) (cA := cA) (m := μ) hp1 (rr o (List.mem_cons_of_mem _ (List.mem_cons_of_mem _ List.mem_cons_self)))
      rw [am_cell_arr h1 (by omega), am_arr_i (by omega) (by omega)] at he
      have ri := rg i (List.mem_cons_of_mem _ List.mem_cons_self)
      rw [List.map_cons, List.map_cons, List.map_cons, am_val_ref hp1]
      refine va_cast hx hb hK hP hD hS _ 2 he rfl (am_vpin h2 ri.2 (by omega)) hd fun H1 locs1 q1 q2 q3 => kk H1 locs1 (am_Wd_set hW0 hp1 rfl (fun c hc i => am_wr_ne (fun q => hc q.1)) ?_ q1 q2 q3)
      rw [am_clamp h2 ri.2, am_cell_arr h1 (by omega), am_arr_i (by omega) (by omega), show vp_nar .char (Int32.ofInt v) = Int32.ofInt (am_u16 v) from am_nar_c v, am_upd_i h2]
    · cases hp
  -- bastore
  · rename_i v i o r
    split at hp
    · rename_i ho
      obtain ⟨h1, h2, h3⟩ := am_ar_iff.mp ho
      cases hp
      have hp1 : 1 ≤ o := am_kd_pos (by omega)
      have he := am_ws_get (ad := ad) (cA := cA) (m := μ) hp1 (rr o (List.mem_cons_of_mem _ (List.mem_cons_of_mem _ List.mem_cons_self)))
      rw [am_cell_arr h1 (by omega), am_arr_i (by omega) (by omega)] at he
      have ri := rg i (List.mem_cons_of_mem _ List.mem_cons_self)
      rw [List.map_cons, List.map_cons, List.map_cons, am_val_ref hp1]
      refine va_bast hx hb hK hP hD hS _ 3 he rfl (am_vpin h2 ri.2 (by omega)) hd fun H1 locs1 q1 q2 q3 => kk H1 locs1 (am_Wd_set hW0 hp1 rfl (fun c hc i => am_wr_ne (fun q => hc q.1)) ?_ q1 q2 q3)
      rw [am_clamp h2 ri.2, am_cell_arr h1 (by omega), am_arr_i (by omega) (by omega), show vp_nar .byte (Int32.ofInt v) = Int32.ofInt (am_i8 v) from (Int32.ofInt_toInt _).symm, am_upd_i h2]
    · cases hp
  -- aastore
  · rename_i v i o r
    split at hp
    · rename_i ho
      cases hp
      have ri := rg i (List.mem_cons_of_mem _ List.mem_cons_self)
      have hcs : (am_kd o = 24 ∧ am_kd v = 8 ∨ am_kd o = 25 ∧ am_kd v = 3) ∧ 0 ≤ i ∧ i < am_ln o := by
        simp only [Bool.or_eq_true, Bool.and_eq_true] at ho
        rcases ho with ⟨ho, hv⟩ | ⟨ho, hv⟩ <;> obtain ⟨h1, h2⟩ := am_ar_iff.mp ho
        · exact ⟨Or.inl ⟨h1, am_ob_iff.mp hv⟩, h2⟩
        · exact ⟨Or.inr ⟨h1, am_ob_iff.mp hv⟩, h2⟩
      obtain ⟨hk, h2, h3⟩ := hcs
      have hp1 : 1 ≤ o := am_kd_pos (by omega)
      have hv1 : 1 ≤ v := am_kd_pos (by omega)
      have he := am_ws_get (ad := ad) (cA := cA) (m := μ) hp1 (rr o (List.mem_cons_of_mem _ (List.mem_cons_of_mem _ List.mem_cons_self)))
      have hev := am_ws_get (ad := ad) (cA := cA) (m := μ) hv1 (rr v List.mem_cons_self)
      rw [List.map_cons, List.map_cons, List.map_cons, am_val_ref hp1, am_val_ref hv1]
      rcases hk with ⟨h1, h4⟩ | ⟨h1, h4⟩
      · rw [am_cell_arr h1 (by omega), am_arr_q (by omega)] at he
        rw [am_cell_ob h4 (by omega)] at hev
        refine va_astq hx hb hK hP hD hS _ 4 _ 8 he rfl hev rfl (am_vpin h2 ri.2 (by omega)) hd fun H1 locs1 q1 q2 q3 => kk H1 locs1 (am_Wd_set hW0 hp1 rfl (fun c hc i => am_wr_ne (fun q => hc q.1)) ?_ q1 q2 q3)
        rw [am_clamp h2 ri.2, am_cell_arr h1 (by omega), am_arr_q (by omega), am_upd_q h2 (by omega)]
      · rw [am_cell_arr h1 (by omega), am_arr_q (by omega)] at he
        rw [am_cell_ob h4 (by omega)] at hev
        refine va_astq hx hb hK hP hD hS _ 5 _ 3 he rfl hev rfl (am_vpin h2 ri.2 (by omega)) hd fun H1 locs1 q1 q2 q3 => kk H1 locs1 (am_Wd_set hW0 hp1 rfl (fun c hc i => am_wr_ne (fun q => hc q.1)) ?_ q1 q2 q3)
        rw [am_clamp h2 ri.2, am_cell_arr h1 (by omega), am_arr_q (by omega), am_upd_q h2 (by omega)]
    · cases hp
  · exact absurd rfl (hn.1 _)
  · exact absurd rfl (hn.2.1 _)
  · exact absurd rfl (hn.2.2.1 _)
  · exact absurd rfl (hn.2.2.2 _ _)
  · cases hp
end AMS
