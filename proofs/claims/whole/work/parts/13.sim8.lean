/-! what is never written: the String constants, two statics, the law's script -/
def am_sb (i : Nat) : List Int32 := (am_str i).map Int32.ofInt
def am_opq (ad : Int → Nat) : Value := if ad (-8) = 0 then .null else .ref (ad (-8) - 1)
def am_RO (ad : Int → Nat) (A : Nat → Prop) (U : State) (H : Heap) : Prop :=
  vk_S 2 [11, 143] [am_sb 0, am_sb 1] (fun i => ad (-2 - (i : Int))) (fun i => ad (-5 - (i : Int))) A U H ∧ vk_R RX6 86 "<>=#+-*/();" (ad (-2)) U ∧ vk_R RX6 94 "has fades drops pushes teach mislead drink sing tie smell try night turn pride right wrong worth day sung tied much or and not root in by of at" (ad (-3)) U ∧ va_Z "java/lang/String" "COMPACT_STRINGS" "Z" (.int 1) A U H ∧ va_Z "jdk/internal/util/Preconditions" "SIOOBE_FORMATTER" "Ljava/util/function/BiFunction;" (am_opq ad) A U H
theorem am_RO.kept {ad : Int → Nat} {A : Nat → Prop} {U : State} {H H1 : Heap} (h : am_RO ad A U H) (hq : ∀ a : Nat, a < H.size → ¬ A a → H1[a]? = H[a]?) : am_RO ad A U H1 := ⟨h.1.kept hq, h.2.1, h.2.2.1, h.2.2.2.1.kept hq, h.2.2.2.2.kept hq⟩
theorem am_RO.narrow {ad : Int → Nat} {A B : Nat → Prop} {U : State} {H : Heap} (h : am_RO ad A U H) (hAB : ∀ q, B q → A q) : am_RO ad B U H := ⟨h.1.narrow hAB, h.2.1, h.2.2.1, h.2.2.2.1.narrow hAB, h.2.2.2.2.narrow hAB⟩
theorem am_RO.warm {ad : Int → Nat} {A : Nat → Prop} {s U : State} {H : Heap} (hW : s.WarmedH U.vm) (h : am_RO ad A s H) : am_RO ad A U H := ⟨h.1.moved hW.alike, h.2.1.warm hW, h.2.2.1.warm hW, h.2.2.2.1.moved hW.alike, h.2.2.2.2.moved hW.alike⟩
theorem am_RO.same {ad : Int → Nat} {A : Nat → Prop} {u U : State} {H : Heap} (hv : U.vm = u.vm) (h : am_RO ad A u H) : am_RO ad A U H := by
  have hal : u.vm.Alike U.vm := by rw [hv]; exact Vm.Alike.refl u.vm
  exact ⟨h.1.moved hal, h.2.1.same hv, h.2.2.1.same hv, h.2.2.2.1.moved hal, h.2.2.2.2.moved hal⟩
theorem am_RO.agree {ad ad' : Int → Nat} {A : Nat → Prop} {U : State} {H : Heap} (h : am_RO ad A U H) (ha : ∀ x : Int, x < 0 → ad' x = ad x) : am_RO ad' A U H := by
  have e1 : (fun i : Nat => ad' (-2 - (i : Int))) = fun i : Nat => ad (-2 - (i : Int)) := funext fun i => ha _ (by omega)
  have e2 : (fun i : Nat => ad' (-5 - (i : Int))) = fun i : Nat => ad (-5 - (i : Int)) := funext fun i => ha _ (by omega)
  have e3 : am_opq ad' = am_opq ad := by unfold am_opq; rw [ha (-8) (by omega)]
  unfold am_RO
  rw [e1, e2, e3, ha (-2) (by omega), ha (-3) (by omega)]
  exact h
/-- what the tables say of an instruction that reads what is never written -/
def am_rOk (own : String) (q : Instr) (a : Int) : Prop := match q with
  | .getfield idx => (a = 0 ∧ Cond.fieldLink own idx "java/lang/String" "value" "[B" ∈ am_G) ∨ (a = 1 ∧ Cond.fieldLink own idx "java/lang/String" "coder" "B" ∈ am_G)
  | .getstatic idx => (a = 0 ∧ Cond.fieldLink own idx "java/lang/String" "COMPACT_STRINGS" "Z" ∈ am_G) ∨ (a = 1 ∧ Cond.fieldLink own idx "jdk/internal/util/Preconditions" "SIOOBE_FORMATTER" "Ljava/util/function/BiFunction;" ∈ am_G)
  | _ => True
theorem am_str_ok : (∀ x ∈ am_str 0, (0 : Int) ≤ x ∧ x < 128) ∧ (∀ x ∈ am_str 1, (0 : Int) ≤ x ∧ x < 128) ∧ (am_str 0).length = 11 ∧ (am_str 1).length = 143 := by decide +kernel
theorem am_sb_get {i j : Nat} (h : j < (am_str i).length) : (am_sb i).getD j 0 = Int32.ofInt ((am_str i).getD j 0) := by
  unfold am_sb
  rw [List.getD_eq_getElem?_getD, List.getD_eq_getElem?_getD, List.getElem?_map, List.getElem?_eq_getElem h]
  rfl
section AMS
variable {p : Program} {l : Launch} {e : Env} {R : Room} {s : State} {m : MethodId} {args : Array Value} {below : List Frame} {meth : Method} {c : Code} {H : Heap} {locs : List Loc} {cells slots : Nat} {Q : State → Prop}
variable {D : va_G} {cA : Nat → ClassId} {y pc : Nat} {ad : Int → Nat} {ls : Array Slot} {st st' : List am_V} {A : Nat → Prop} {n : Nat}
theorem am_W_ldcs (C : am_Cx y p s m args meth c D cA) {idx : Nat} {a : Int} (hd : decode (am_bc y) pc = .ok (.ldc idx, 2)) (hown6 : (am_nm y).cls = RX6) (hi : a = 0 ∧ idx = 86 ∨ a = 1 ∧ idx = 94) (hr : am_RO ad A s s.heap)
    (kk : W p l e R s m args below meth c H locs cells slots Q (F0 m (pc + 2) ls (((2, -2 - a) :: st).map (am_val ad)))) : W p l e R s m args below meth c H locs cells slots Q (F0 m pc ls (st.map (am_val ad))) := by
  obtain ⟨hx, hb, hml, hown, -⟩ := C
  rw [hown6] at hown
  obtain ⟨-, h1, h2, -⟩ := hr
  rcases hi with ⟨rfl, rfl⟩ | ⟨rfl, rfl⟩
  · exact va_ldcS hx hb hown h1 hd kk
  · exact va_ldcS hx hb hown h2 hd kk
set_option maxHeartbeats 1000000 in
theorem am_sim_ro (C : am_Cx y p s m args meth c D cA) {q : Instr} {a : Int} (hd : decode (am_bc y) pc = .ok (q, am_len q)) (hl3 : ∀ i, q = .getstatic i → decode (am_bc y) pc = .ok (q, 3)) (hc : am_rOk (am_nm y).cls q a) (hp : am_ro q a st = some st') (hso : am_okL n st) (hS : va_S A s.heap H locs) (hr : am_RO ad A s s.heap) {len : Nat} (hlen : decode (am_bc y) pc = .ok (q, len))
    (kk : W p l e R s m args below meth c H locs cells slots Q (F0 m (pc + len) ls (st'.map (am_val ad)))) : W p l e R s m args below meth c H locs cells slots Q (F0 m pc ls (st.map (am_val ad))) := by
  obtain ⟨hx, hb, hml, hown, hts, hK, -⟩ := C
  obtain ⟨hV, -, -, hZ1, hZ2⟩ := hr
  obtain ⟨k1, k2, k3, k4⟩ := am_str_ok
  unfold am_ro at hp
  split at hp
  · rename_i idx sr r
    obtain rfl : len = 3 := by have := hd.symm.trans hlen; simp [am_len] at this; exact this.symm
    split at hp
    · rename_i hs
      simp only [Bool.or_eq_true, decide_eq_true_eq] at hs
      obtain ⟨i, hi, rfl⟩ : ∃ i : Nat, i < 2 ∧ sr = -2 - (i : Int) := by
        rcases hs with rfl | rfl
        · exact ⟨0, by omega, rfl⟩
        · exact ⟨1, by omega, rfl⟩
      obtain ⟨g1, g2, g3, g4⟩ := hV.1 i hi
      have ev : am_val ad (2, -2 - (i : Int)) = .ref (ad (-2 - (i : Int))) := by show (if -2 - (i : Int) = 0 then Value.null else _) = _; rw [if_neg (by omega)]
      rw [List.map_cons, ev]
      rcases hc with ⟨rfl, hc⟩ | ⟨rfl, hc⟩
      · rw [if_pos rfl] at hp; cases hp
        have ev2 : am_val ad (2, -2 - (i : Int) - 3) = .ref (ad (-5 - (i : Int))) := by show (if -2 - (i : Int) - 3 = 0 then Value.null else .ref (ad (-2 - (i : Int) - 3))) = _; rw [if_neg (by omega), show -2 - (i : Int) - 3 = -5 - (i : Int) by omega]
        rw [List.map_cons, ev2] at kk
        exact vk_getf hx hb g3 hS hown (hts _ hc) (fun _ h => h) hd kk
      · rw [if_neg (by decide)] at hp; cases hp
        exact vk_getf hx hb g2 hS hown (hts _ hc) (fun _ h => h) hd kk
    · cases hp
  · rename_i t r
    obtain rfl : len = 1 := by have := hd.symm.trans hlen; simp [am_len] at this; exact this.symm
    split at hp
    · rename_i hs
      simp only [Bool.or_eq_true, decide_eq_true_eq] at hs
      cases hp
      obtain ⟨i, hi, rfl⟩ : ∃ i : Nat, i < 2 ∧ t = -5 - (i : Int) := by
        rcases hs with rfl | rfl
        · exact ⟨0, by omega, rfl⟩
        · exact ⟨1, by omega, rfl⟩
      obtain ⟨g1, g2, g3, g4⟩ := hV.1 i hi
      have ev : am_val ad (2, -5 - (i : Int)) = .ref (ad (-5 - (i : Int))) := by show (if -5 - (i : Int) = 0 then Value.null else _) = _; rw [if_neg (by omega)]
      rw [List.map_cons, ev]
      have e2 : (-5 - (-5 - (i : Int))).toNat = i := by omega
      rw [e2] at kk
      refine va_tlen hx hb g4 hS (v := Int32.ofInt ((am_str i).length : Int)) ?_ hd kk
      rcases (show i = 0 ∨ i = 1 by omega) with rfl | rfl
      · rw [k3]; rfl
      · rw [k4]; rfl
    · cases hp
  · rename_i j t r
    obtain rfl : len = 1 := by have := hd.symm.trans hlen; simp [am_len] at this; exact this.symm
    split at hp
    · rename_i hs
      simp only [Bool.and_eq_true, Bool.or_eq_true, decide_eq_true_eq] at hs
      cases hp
      obtain ⟨hs, hj1, hj2⟩ := hs
      obtain ⟨i, hi, rfl⟩ : ∃ i : Nat, i < 2 ∧ t = -5 - (i : Int) := by
        rcases hs with rfl | rfl
        · exact ⟨0, by omega, rfl⟩
        · exact ⟨1, by omega, rfl⟩
      obtain ⟨g1, g2, g3, g4⟩ := hV.1 i hi
      have ev : am_val ad (2, -5 - (i : Int)) = .ref (ad (-5 - (i : Int))) := by show (if -5 - (i : Int) = 0 then Value.null else _) = _; rw [if_neg (by omega)]
      rw [List.map_cons, List.map_cons, ev]
      have e2 : (-5 - (-5 - (i : Int))).toNat = i := by omega
      rw [e2] at kk hj2
      have hl2 : (am_str i).length < 200 := by rcases (show i = 0 ∨ i = 1 by omega) with rfl | rfl <;> omega
      have hll : ([11, 143] : List Nat).getD i 0 = (am_str i).length := by rcases (show i = 0 ∨ i = 1 by omega) with rfl | rfl; exact k3.symm; exact k4.symm
      have hbb : ([am_sb 0, am_sb 1] : List (List Int32)).getD i [] = am_sb i := by rcases (show i = 0 ∨ i = 1 by omega) with rfl | rfl <;> rfl
      refine va_tb hx hb g4 hS (v := .int (Int32.ofInt ((am_str i).getD j.toNat 0))) (am_vpin hj1 (by omega) (by rw [hll]; omega)) ?_ hd kk
      rw [am_clamp hj1 (by omega), hbb, am_sb_get (by omega)]
    · cases hp
  · rename_i idx
    have hd3 := hl3 idx rfl
    obtain rfl : len = 3 := by have := hd3.symm.trans hlen; simp at this; exact this.symm
    rcases hc with ⟨rfl, hc⟩ | ⟨rfl, hc⟩
    · rw [if_pos rfl] at hp; cases hp
      exact va_gets hx hb hZ1 hS hown (hts _ hc) (fun _ h => h) hd3 kk
    · rw [if_neg (by decide)] at hp; cases hp
      exact va_gets hx hb hZ2 hS hown (hts _ hc) (fun _ h => h) hd3 kk
  · cases hp
theorem am_ro_ok {q : Instr} {a : Int} (hn : 1 ≤ n) (hp : am_ro q a st = some st') (hso : am_okL n st) : am_okL n st' := by
  obtain ⟨k1, k2, k3, k4⟩ := am_str_ok
  unfold am_ro at hp
  split at hp
  · split at hp
    · rename_i hs
      simp only [Bool.or_eq_true, decide_eq_true_eq] at hs
      split at hp <;> cases hp
      · exact am_okL_cons.mpr ⟨am_okV_a.mpr (by omega), (am_okL_cons.mp hso).2⟩
      · exact am_okL_cons.mpr ⟨am_okV_i.mpr (by omega), (am_okL_cons.mp hso).2⟩
    · cases hp
  · split at hp
    · rename_i t r hs
      simp only [Bool.or_eq_true, decide_eq_true_eq] at hs
      cases hp
      refine am_okL_cons.mpr ⟨am_okV_i.mpr ?_, (am_okL_cons.mp hso).2⟩
      rcases hs with rfl | rfl
      · show -2147483648 ≤ ((am_str 0).length : Int) ∧ _; rw [show (-5 - (-5) : Int).toNat = 0 by decide, k3]; decide
      · show -2147483648 ≤ ((am_str 1).length : Int) ∧ _; rw [show (-5 - (-6) : Int).toNat = 1 by decide, k4]; decide
    · cases hp
  · split at hp
    · rename_i j t r hs
      simp only [Bool.and_eq_true, Bool.or_eq_true, decide_eq_true_eq] at hs
      cases hp
      obtain ⟨hs, hj1, hj2⟩ := hs
      refine am_okL_cons.mpr ⟨am_okV_i.mpr ?_, (am_okL_cons.mp (am_okL_cons.mp hso).2).2⟩
      have hm : (am_str (-5 - t).toNat).getD j.toNat 0 ∈ am_str (-5 - t).toNat := by
        rw [List.getD_eq_getElem?_getD, List.getElem?_eq_getElem (by omega)]
        exact List.getElem_mem _
      rcases hs with rfl | rfl
      · have := k1 _ hm; omega
      · have := k2 _ hm; omega
    · cases hp
  · split at hp <;> cases hp
    · exact am_okL_cons.mpr ⟨am_okV_i.mpr (by omega), hso⟩
    · refine am_okL_cons.mpr ⟨?_, hso⟩
      show (-16 : Int) ≤ 0 ∧ (0 : Int) < n
      omega
  · cases hp
end AMS
