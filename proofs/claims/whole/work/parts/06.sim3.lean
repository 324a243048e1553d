/-! jumps, over the machine -/
def am_pc (y i : Nat) : Nat := (am_at y i).2.1
def am_jOk (y pc len : Nat) (q : Instr) (h : Nat) (x : List Nat) (i : Nat) : Prop := match q with
  | .goto off => len = 3 ∧ (pc : Int) + off = am_pc y h
  | .ifCond _ off => len = 3 ∧ (pc : Int) + off = am_pc y h ∧ am_pc y i = pc + 3
  | .if_icmp _ off => len = 3 ∧ (pc : Int) + off = am_pc y h ∧ am_pc y i = pc + 3
  | .ifnull off => len = 3 ∧ (pc : Int) + off = am_pc y h ∧ am_pc y i = pc + 3
  | .ifnonnull off => len = 3 ∧ (pc : Int) + off = am_pc y h ∧ am_pc y i = pc + 3
  | .tableswitch d lo hi offs => (pc : Int) + d = am_pc y h ∧ hi = lo + x.length - 1 ∧ offs.toList.map (fun o => (pc : Int) + o) = x.map (fun t => (am_pc y t : Int))
  | .lookupswitch d ps => (pc : Int) + d = am_pc y h ∧ (ps.toList.zip (ps.toList.drop 1)).all (fun (a, next) => a.1 < next.1) = true ∧ ps.toList.map (fun q => (pc : Int) + q.2) = x.map (fun t => (am_pc y t : Int))
  | _ => True
theorem am_sw_in {v : Int} {d : Nat} : ∀ {x : List Nat} {lo : Int} {j : Nat} {t : Nat}, x[j]? = some t → v = lo + j → am_sw v d lo x = t
  | [], lo, j, t, h, _ => by simp at h
  | u :: x, lo, 0, t, h, hv => by
    have : u = t := by simpa using h
    subst this
    unfold am_sw
    rw [if_pos (by omega)]
  | u :: x, lo, j + 1, t, h, hv => by
    unfold am_sw
    rw [if_neg (by omega)]
    exact am_sw_in (x := x) (lo := lo + 1) (j := j) (by simpa using h) (by omega)
theorem am_sw_out {v : Int} {d : Nat} : ∀ {x : List Nat} {lo : Int}, (v < lo ∨ lo + x.length ≤ v) → am_sw v d lo x = d
  | [], lo, _ => rfl
  | u :: x, lo, h => by
    unfold am_sw
    have h' : v < lo ∨ lo + (x.length + 1 : Nat) ≤ v := h
    rw [if_neg (by omega)]
    exact am_sw_out (x := x) (lo := lo + 1) (by omega)
section AMS
variable {p : Program} {l : Launch} {e : Env} {R : Room} {s : State} {m : MethodId} {args : Array Value} {below : List Frame} {meth : Method} {c : Code} {H : Heap} {locs : List Loc} {cells slots : Nat} {Q : State → Prop}
variable {D : va_G} {cA : Nat → ClassId} {y pc n len : Nat} {ad : Int → Nat} {ls : Array Slot} {st st' : List am_V}
theorem am_lsw_run {v : Int} {d : Nat} {off0 : Int} (hd : (pc : Int) + off0 = am_pc y d) : ∀ (ps : List (Int × Int)) (x : List Nat), ps.map (fun q => (pc : Int) + q.2) = x.map (fun t => (am_pc y t : Int)) → (pc : Int) + Op.lookupswitch.offset ps off0 v = am_pc y (am_lsw v d ps x)
  | [], [], _ => hd
  | [], _ :: _, h => by simp at h
  | _ :: _, [], h => by simp at h
  | (a, o) :: ps, t :: x, h => by
    simp only [List.map_cons, List.cons.injEq] at h
    rw [Op.lookupswitch.offset_cons]
    unfold am_lsw
    by_cases e : v = a
    · rw [if_pos e.symm, if_pos e]; exact h.1
    · rw [if_neg (fun q => e q.symm), if_neg e]; exact am_lsw_run hd ps x h.2
set_option maxHeartbeats 1000000 in
theorem am_sim_jump (C : am_Cx y p s m args meth c D cA) {q : Instr} {h t i : Nat} {x : List Nat} (hd : decode (am_bc y) pc = .ok (q, len)) (hj : am_jOk y pc len q h x i) (hp : am_jump q h x i st = some (t, st')) (hso : ∀ v ∈ st, am_okV n v)
    (kk : W p l e R s m args below meth c H locs cells slots Q (F0 m (am_pc y t) ls (st'.map (am_val ad)))) : W p l e R s m args below meth c H locs cells slots Q (F0 m pc ls (st.map (am_val ad))) := by
  obtain ⟨hx, hb, -⟩ := C
  have rg : ∀ (a : Int) , (0, a) ∈ st → -2147483648 ≤ a ∧ a < 2147483648 := fun a ha => by have := hso _ ha; simpa [am_okV] using this
  have r0 : (-2147483648 : Int) ≤ 0 ∧ (0 : Int) < 2147483648 := by decide
  unfold am_jump at hp
  split at hp
  · obtain ⟨rfl, h2⟩ := hj
    cases hp
    exact lv_goto hx hb hd h2 kk
  · rename_i cd off a r
    obtain ⟨rfl, h2, h3⟩ := hj
    have ra := rg a List.mem_cons_self
    have e0 : (0 : Int32) = Int32.ofInt 0 := rfl
    have kt : am_cond cd a 0 = true → W p l e R s m args below meth c H locs cells slots Q (F0 m (am_pc y h) ls (r.map (am_val ad))) := fun q => by rw [if_pos q] at hp; cases hp; exact kk
    have kf : ¬ am_cond cd a 0 = true → W p l e R s m args below meth c H locs cells slots Q (F0 m (pc + 3) ls (r.map (am_val ad))) := fun q => by rw [if_neg q] at hp; cases hp; rw [← h3]; exact kk
    cases cd
    · exact lv_if_eq hx hb hd h2 (fun q => kt (by rw [e0, am_ofInt_inj ra r0] at q; exact decide_eq_true q)) (fun q => kf (by rw [e0, am_ofInt_inj ra r0] at q; exact fun z => q (of_decide_eq_true z)))
    · exact lv_if_ne hx hb hd h2 (fun q => kt (by rw [e0, am_ofInt_inj ra r0] at q; exact decide_eq_true q)) (fun q => kf (by rw [e0, am_ofInt_inj ra r0] at q; exact fun z => (of_decide_eq_true z) q))
    · exact lv_if_lt hx hb hd h2 (fun q => kt (by rw [e0, am_ofInt_lt ra r0] at q; exact decide_eq_true q)) (fun q => kf (by rw [e0, am_ofInt_lt ra r0] at q; exact fun z => q (of_decide_eq_true z)))
    · exact lv_if_ge hx hb hd h2 (fun q => kt (by rw [e0, am_ofInt_le r0 ra] at q; exact decide_eq_true q)) (fun q => kf (by rw [e0, am_ofInt_le r0 ra] at q; exact fun z => q (of_decide_eq_true z)))
    · exact lv_if_gt hx hb hd h2 (fun q => kt (by rw [e0, am_ofInt_lt r0 ra] at q; exact decide_eq_true q)) (fun q => kf (by rw [e0, am_ofInt_lt r0 ra] at q; exact fun z => q (of_decide_eq_true z)))
    · exact lv_if_le hx hb hd h2 (fun q => kt (by rw [e0, am_ofInt_le ra r0] at q; exact decide_eq_true q)) (fun q => kf (by rw [e0, am_ofInt_le ra r0] at q; exact fun z => q (of_decide_eq_true z)))
  · rename_i cd off b a r
    obtain ⟨rfl, h2, h3⟩ := hj
    have rb := rg b List.mem_cons_self
    have ra := rg a (List.mem_cons_of_mem _ List.mem_cons_self)
    have kt : am_cond cd a b = true → W p l e R s m args below meth c H locs cells slots Q (F0 m (am_pc y h) ls (r.map (am_val ad))) := fun q => by rw [if_pos q] at hp; cases hp; exact kk
    have kf : ¬ am_cond cd a b = true → W p l e R s m args below meth c H locs cells slots Q (F0 m (pc + 3) ls (r.map (am_val ad))) := fun q => by rw [if_neg q] at hp; cases hp; rw [← h3]; exact kk
    cases cd
    · exact lv_icmp_eq hx hb hd h2 (fun q => kt (by rw [am_ofInt_inj ra rb] at q; exact decide_eq_true q)) (fun q => kf (by rw [am_ofInt_inj ra rb] at q; exact fun z => q (of_decide_eq_true z)))
    · exact lv_icmp_ne hx hb hd h2 (fun q => kt (by rw [am_ofInt_inj ra rb] at q; exact decide_eq_true q)) (fun q => kf (by rw [am_ofInt_inj ra rb] at q; exact fun z => (of_decide_eq_true z) q))
    · exact lv_icmp_lt hx hb hd h2 (fun q => kt (by rw [am_ofInt_lt ra rb] at q; exact decide_eq_true q)) (fun q => kf (by rw [am_ofInt_lt ra rb] at q; exact fun z => q (of_decide_eq_true z)))
    · exact lv_icmp_ge hx hb hd h2 (fun q => kt (by rw [am_ofInt_le rb ra] at q; exact decide_eq_true q)) (fun q => kf (by rw [am_ofInt_le rb ra] at q; exact fun z => q (of_decide_eq_true z)))
    · exact lv_icmp_gt hx hb hd h2 (fun q => kt (by rw [am_ofInt_lt rb ra] at q; exact decide_eq_true q)) (fun q => kf (by rw [am_ofInt_lt rb ra] at q; exact fun z => q (of_decide_eq_true z)))
    · exact lv_icmp_le hx hb hd h2 (fun q => kt (by rw [am_ofInt_le ra rb] at q; exact decide_eq_true q)) (fun q => kf (by rw [am_ofInt_le ra rb] at q; exact fun z => q (of_decide_eq_true z)))
  · rename_i off a r
    obtain ⟨rfl, h2, h3⟩ := hj
    by_cases ha : a = 0
    · rw [if_pos ha] at hp; cases hp
      have ev : am_val ad (2, a) = .null := by show (if a = 0 then Value.null else _) = _; rw [if_pos ha]
      rw [List.map_cons, ev]
      exact lv_ifnullN hx hb hd h2 kk
    · rw [if_neg ha] at hp; cases hp
      have ev : am_val ad (2, a) = .ref (ad a) := by show (if a = 0 then Value.null else _) = _; rw [if_neg ha]
      rw [List.map_cons, ev]
      rw [h3] at kk
      exact lv_ifnull hx hb hd kk
  · rename_i off a r
    obtain ⟨rfl, h2, h3⟩ := hj
    by_cases ha : a = 0
    · rw [if_pos ha] at hp; cases hp
      have ev : am_val ad (2, a) = .null := by show (if a = 0 then Value.null else _) = _; rw [if_pos ha]
      rw [List.map_cons, ev]
      rw [h3] at kk
      exact lv_ifnonnullN hx hb hd kk
    · rw [if_neg ha] at hp; cases hp
      have ev : am_val ad (2, a) = .ref (ad a) := by show (if a = 0 then Value.null else _) = _; rw [if_neg ha]
      rw [List.map_cons, ev]
      exact lv_ifnonnull hx hb hd h2 kk
  · rename_i d lo hi offs a r
    obtain ⟨h1, h2, h3⟩ := hj
    cases hp
    have ra := rg a List.mem_cons_self
    have ea : (Int32.ofInt a).toInt = a := am_w32_id ra.1 ra.2
    by_cases hin : lo ≤ a ∧ a ≤ hi
    · have hlt : (a - lo).toNat < x.length := by omega
      have hxt : x[(a - lo).toNat]? = some x[(a - lo).toNat] := List.getElem?_eq_getElem hlt
      have hsw := am_sw_in (d := h) (lo := lo) hxt (show a = lo + ((a - lo).toNat : Int) by omega)
      rw [hsw] at kk
      have h4 := congrArg (fun l => l[(a - lo).toNat]?) h3
      simp only [List.getElem?_map, hxt, Option.map_some] at h4
      cases ho : offs.toList[(a - lo).toNat]? with
      | none => rw [ho] at h4; cases h4
      | some off =>
        rw [ho] at h4
        refine lv_tableIn hx hb hd (off := off) (tgt := am_pc y x[(a - lo).toNat]) (by rw [ea]; omega) (by rw [ea]; omega) (by rw [ea, ← Array.getElem?_toList]; exact ho) (Option.some.inj h4) kk
    · have hsw := am_sw_out (v := a) (d := h) (x := x) (lo := lo) (by omega)
      rw [hsw] at kk
      exact lv_tableOut hx hb hd (by rw [ea]; omega) h1 kk
  · rename_i d ps a r
    obtain ⟨h1, h2, h3⟩ := hj
    cases hp
    have ra := rg a List.mem_cons_self
    have ea : (Int32.ofInt a).toInt = a := am_w32_id ra.1 ra.2
    exact lv_lookup hx hb hd h2 rfl (by rw [ea]; exact am_lsw_run h1 ps.toList x h3) kk
  · cases hp
end AMS
