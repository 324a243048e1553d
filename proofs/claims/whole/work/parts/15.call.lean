/-! calls, over the machine -/
def am_np (z : Nat) : Option Nat := (parseMethodDescriptor (am_nm z).desc).map (fun d => d.parameters.length)
def am_zOk (z : Nat) : Prop := plainName (am_nm z).cls = true ∧ (am_nm z).cls ≠ "java/lang/invoke/MethodHandle" ∧ (am_nm z).cls ≠ "java/lang/invoke/VarHandle" ∧ Cond.code (am_nm z) (am_bc z) (am_ml z) (am_rt z) ∈ am_Gg ∧ Cond.initialized (am_nm z).cls ∈ am_G ∧ (am_ml z ≤ 14 ∧ z < am_law ∧ am_pc z 0 = 0) ∧
  (am_rk z = 0 ∧ am_rt z = none ∨ am_rk z = 1 ∧ am_rt z = some .int ∨ am_rk z = 2 ∧ am_rt z = some .boolean ∨ am_rk z = 3 ∧ am_rt z = some .char ∨ am_rk z = 4 ∧ am_rt z = some .byte ∨ am_rk z = 5 ∧ am_rt z = some .long)
def am_cOk (own : String) (q : Instr) (z n : Nat) : Prop := match q with
  | .invokevirtual idx => Cond.methodLink own idx (am_nm z) ∈ am_G ∧ Cond.instanceMethod (am_nm z) ∈ am_G ∧ Cond.selects (am_nm z).cls (am_nm z) (am_nm z) ∈ am_G ∧ 1 ≤ n ∧ am_np z = some (n - 1) ∧ (am_own z = 60 ∧ (am_nm z).cls = "java/lang/String" ∨ ¬ am_own z = 60 ∧ ∃ T N, am_cl[am_own z]? = some ((am_nm z).cls, T, N))
  | .invokestatic idx => Cond.methodLink own idx (am_nm z) ∈ am_G ∧ Cond.static (am_nm z) ∈ am_G ∧ am_np z = some n
  | .invokespecial idx => (Cond.methodLink own idx (am_nm z) ∈ am_G ∨ ∃ host, Cond.methodLinkNest own idx (am_nm z) host ∈ am_G) ∧ (am_nm z).name = "<init>" ∧ Cond.instanceMethod (am_nm z) ∈ am_G ∧ 1 ≤ n ∧ am_np z = some (n - 1) ∧ am_rt z = none ∧ ¬ am_own z = 60 ∧ am_own z < 12
  | _ => False
theorem am_good {z : Nat} (hz : am_zOk z) : GoodIn am_Gg (am_wsz z) := by
  intro w hw
  have hm : w ∈ am_Gg := by
    rcases List.mem_cons.mp hw with rfl | h
    · exact hz.2.2.2.1
    · exact h
  exact ⟨hm, good_of_word (List.mem_filter.mp hm).2⟩
theorem am_sub {w : Cond} (h : w ∈ am_Gg) : w ∈ am_G := by
  obtain ⟨h1, h2⟩ := List.mem_filter.mp h
  exact List.mem_filter.mpr ⟨h1, by rw [h2]; rfl⟩
section AMS
variable {p : Program} {l : Launch} {e : Env} {R : Room} {s : State} {m : MethodId} {args : Array Value} {below : List Frame} {meth : Method} {c : Code} {H : Heap} {locs : List Loc} {cells slots : Nat} {Q : State → Prop}
variable {D : va_G} {cA : Nat → ClassId} {y pc : Nat} {ad : Int → Nat} {ls : Array Slot} {st : List am_V} {A : Nat → Prop} {μ μ1 : am_M}
set_option maxHeartbeats 1000000 in
theorem am_W_call (C : am_Cx y p s m args meth c D cA) {q : Instr} {z n d' f : Nat} {r1 : Int} (hd : decode (am_bc y) pc = .ok (q, 3)) (hz : am_zOk z) (hc : am_cOk (am_nm y).cls q z n) (hM : am_Met l D cA d' z) (hex : am_exec f d' z 0 (am_entry z (st.take n).reverse) [] μ = some (r1, μ1))
    (hn : n ≤ st.length) (hsum : am_sum (st.drop n) ≤ 8) (hrecv : am_recv q z (st.take n).reverse = true) (hlay : (am_lay (st.take n).reverse).length ≤ am_ml z) (hso : am_okL μ.1 st) (hMo : am_okM μ) (hNo : am_okN μ) (hW : am_Wd D cA A s.heap ad μ H locs) (hRO : am_RO ad A s s.heap) (hNW : am_NW s) (hA : ∀ q, s.heap.size ≤ q → A q) (hsz : ls.size = am_ml y)
    (hR : am_fr d' z + 1 ≤ R.frames ∧ 40 * (am_fr d' z + 1) ≤ R.locals) (hcells : cells + (μ1.1 - μ.1) ≤ R.cells ∧ slots + (am_sz μ1.1 - am_sz μ.1) ≤ R.slots)
    (kk : ∀ (ad' : Int → Nat) (H1 : Heap) (locs1 : List Loc), am_agr μ.1 ad ad' → am_Wd D cA A s.heap ad' μ1 H1 locs1 → W p l e R s m args below meth c H1 locs1 (cells + (μ1.1 - μ.1)) (slots + (am_sz μ1.1 - am_sz μ.1)) Q (F0 m (pc + 3) ls ((am_push z r1 (st.drop n)).map (am_val ad')))) : W p l e R s m args below meth c H locs cells slots Q (F0 m pc ls (st.map (am_val ad))) := by
  obtain ⟨hx, hb, hml, hown, hts, hK, -, hname⟩ := C
  obtain ⟨hP, hD, hS⟩ := hW
  have hz0 := hz
  obtain ⟨z1, z2, z3, z4, z5, z6, z7⟩ := hz
  have hok : am_okL μ.1 (st.take n).reverse := fun v hv => hso v (List.mem_of_mem_take (List.mem_reverse.mp hv))
  have hok2 : am_okL μ.1 (st.drop n) := fun v hv => hso v (List.mem_of_mem_drop hv)
  generalize has : (st.take n).reverse = as at *
  have hst : st = as.reverse ++ st.drop n := by rw [← has, List.reverse_reverse, List.take_append_drop]
  have hlen : as.length = n := by rw [← has, List.length_reverse, List.length_take]; omega
  have hMet := hM f as μ μ1 r1 hex hlay hok hMo hNo ad H.size
  have hgood : GoodIn am_G (am_wsz z) := fun w hw => ⟨am_sub (am_good hz0 w hw).1, (am_good hz0 w hw).2⟩
  have hFA : ∀ q, va_A (am_ws ad cA μ) H.size q → A q := fun q hq => by
    rcases hq with ⟨k, e, hk⟩ | hq
    · exact hD.2 k _ hk
    · exact hA q (Nat.le_trans hS.1 hq)
  have hrm : (am_rm d' z (μ1.1 - μ.1) (am_sz μ1.1 - am_sz μ.1)).frames + 1 ≤ R.frames ∧ 8 + (am_ml z + 11) + (am_rm d' z (μ1.1 - μ.1) (am_sz μ1.1 - am_sz μ.1)).locals ≤ R.locals := ⟨hR.1, by show 8 + (am_ml z + 11) + 40 * am_fr d' z ≤ _; omega⟩
  have hblind : FrameBlind (va_Pc (as.map (am_val ad)) (am_Kz D cA ad μ H.size)) := fun a U g mk qz => by
    obtain ⟨q0, q1, qP, qK, qD, qR, qN⟩ := qz
    exact ⟨q0, q1, qP, va_K.moved (u := U) (U := U.calling g mk a) (Vm.Alike.refl U.vm) qK, qD, am_RO.same (u := U) (U := U.calling g mk a) rfl qR, am_NW.same (u := U) (U := U.calling g mk a) rfl qN⟩
  have hKz : ∀ U : State, U.heap = H → s.WarmedH U.vm → am_Kz D cA ad μ H.size U := fun U hU hW => ⟨by rw [hU], by rw [hU]; exact hP, va_K.moved hW.alike hK, hD.weaken (fun _ _ _ _ => trivial), by rw [hU]; exact ((hRO.kept hS.2.1).narrow hFA).warm hW, hNW.warm hW⟩
  have hrest : ((st.drop n).map (am_val ad)).map (fun v => v.category) = ((st.drop n).map (am_val ad)).map (fun v => v.category) := rfl
  have hroom : 2 * (F0 m pc ls (st.map (am_val ad))).monitorRoom + (((st.drop n).map (am_val ad)).map fun v => v.category).sum ≤ 8 := lv_room (by rw [am_cats]; exact hsum)
  have hS0 : CallFix p m c (am_bc y) (am_ml y) s args am_G (am_nm y).cls := ⟨hx, hb, hml, hown, hts⟩
  have hmap : st.map (am_val ad) = (as.map (am_val ad)).reverse ++ (st.drop n).map (am_val ad) := by
    have h1 := congrArg (List.map (am_val ad)) hst
    rw [h1, List.map_append, List.map_reverse]
  have hr : va_Run p l e R s m args below meth c H locs cells slots (μ1.1 - μ.1) (am_sz μ1.1 - am_sz μ.1) (F0 m pc ls (st.map (am_val ad))) ((st.drop n).map (am_val ad)) (am_Qz D cA ad μ H.size z r1 μ1 (as.map (am_val ad)).toArray) (va_A (am_ws ad cA μ) H.size) := by
    cases q
    case invokevirtual idx =>
      obtain ⟨c1, c2, c3, c4, c5, c6⟩ := hc
      match as, hlen, hok, hMet, hblind, hmap, hrecv with
      | [], hlen, _, _, _, _, _ => simp at hlen; omega
      | (t, o) :: as', hlen, hok, hMet, hblind, hmap, hrecv =>
        have hcb : CallB R s args (am_nm y).cls idx (am_nm z) (am_bc z) (am_ml z) (am_rt z) (am_wsz z) (am_rm d' z (μ1.1 - μ.1) (am_sz μ1.1 - am_sz μ.1)) (μ1.1 - μ.1) (am_sz μ1.1 - am_sz μ.1) (n - 1) := callB_of (n - 1) hts hgood rfl rfl rfl (hts _ z5) (hts _ c1) ⟨z2, z3, c5⟩ hrm
        unfold am_recv at hrecv
        match t, hok, hMet, hblind, hmap, hrecv with
        | 2, hok, hMet, hblind, hmap, hrecv =>
          have hrecv : (if am_own z = 60 then decide (o = -2) || decide (o = -3) else am_ob o (am_own z)) = true := hrecv
          obtain ⟨ho1, cell, hc1, hc2, hc3⟩ : am_val ad (2, o) = .ref (ad o) ∧ ∃ cellB : Cell, H[ad o]? = some cellB ∧ cellB.vm.isStatics = false ∧ s.vm.findClass (am_nm z).cls = some cellB.cls := by
            rcases c6 with ⟨c6, c7⟩ | ⟨c6, T, N, c7⟩
            · rw [if_pos c6] at hrecv
              simp only [Bool.or_eq_true, decide_eq_true_eq] at hrecv
              rw [c7]
              rcases hrecv with rfl | rfl
              · exact ⟨rfl, vk_recv hRO.1 (i := 0) (by decide) hS⟩
              · exact ⟨rfl, vk_recv hRO.1 (i := 1) (by decide) hS⟩
            · rw [if_neg c6] at hrecv
              have hk := am_ob_iff.mp hrecv
              have hci := (am_cls c7).1
              have hp1 : 1 ≤ o := am_kd_pos (by omega)
              have he := am_ws_get (ad := ad) (cA := cA) (m := μ) hp1 (am_okV_a.mp (am_okL_cons.mp hok).1).2
              rw [am_cell_ob hk hci] at he
              exact ⟨am_val_ref hp1, va_recv hK hP c7 he⟩
          have eas : ((2, o) :: as').map (am_val ad) = .ref (ad o) :: as'.map (am_val ad) := by rw [List.map_cons, ho1]
          rw [eas]
          rw [eas] at hblind hmap hMet
          refine va_runV (C := (am_nm z).cls) (As := as'.map (am_val ad)) hS0 hMet ⟨hcb, hts _ c2, hts _ c3⟩ ⟨hblind, ⟨cell, hc1, hc2, hc3⟩, fun U hU hW => ⟨rfl, hKz U hU hW⟩⟩ rfl (by rw [List.length_map]; simp at hlen; omega) hsz ?_ hroom hd hcells
          show st.map (am_val ad) = _
          rw [hmap]; simp
    case invokestatic idx =>
      obtain ⟨c1, c2, c5⟩ := hc
      have hcb : CallB R s args (am_nm y).cls idx (am_nm z) (am_bc z) (am_ml z) (am_rt z) (am_wsz z) (am_rm d' z (μ1.1 - μ.1) (am_sz μ1.1 - am_sz μ.1)) (μ1.1 - μ.1) (am_sz μ1.1 - am_sz μ.1) n := callB_of n hts hgood rfl rfl rfl (hts _ z5) (hts _ c1) ⟨z2, z3, c5⟩ hrm
      refine va_runS (As := as.map (am_val ad)) hS0 hMet ⟨hcb, hts _ c2⟩ ⟨hblind, fun U hU hW => ⟨rfl, hKz U hU hW⟩⟩ rfl (by rw [List.length_map]; exact hlen) hsz ?_ hroom hd hcells
      exact hmap
    case invokespecial idx =>
      obtain ⟨c1, c2, c3, c4, c5, c6, c7, c8⟩ := hc
      match as, hlen, hok, hMet, hblind, hmap, hrecv with
      | [], hlen, _, _, _, _, _ => simp at hlen; omega
      | (t, o) :: as', hlen, hok, hMet, hblind, hmap, hrecv =>
        unfold am_recv at hrecv
        match t, hok, hMet, hblind, hmap, hrecv with
        | 2, hok, hMet, hblind, hmap, hrecv =>
          have hrecv : (if am_own z = 60 then decide (o = -2) || decide (o = -3) else am_ob o (am_own z)) = true := hrecv
          rw [if_neg c7] at hrecv
          have hk := am_ob_iff.mp hrecv
          have hp1 : 1 ≤ o := am_kd_pos (by omega)
          have eas : ((2, o) :: as').map (am_val ad) = .ref (ad o) :: as'.map (am_val ad) := by rw [List.map_cons, am_val_ref hp1]
          rw [eas]
          rw [eas] at hblind hmap hMet
          have hstk : (F0 m pc ls (st.map (am_val ad))).stack = (as'.map (am_val ad)).reverse ++ .ref (ad o) :: (st.drop n).map (am_val ad) := by
            show st.map (am_val ad) = _
            rw [hmap]; simp
          have hwz : am_wsz z = Cond.code (am_nm z) (am_bc z) (am_ml z) none :: am_Gg := by unfold am_wsz; rw [c6]
          rcases c1 with c1 | ⟨host, c1⟩
          · have hcb : CallB R s args (am_nm y).cls idx (am_nm z) (am_bc z) (am_ml z) none (am_wsz z) (am_rm d' z (μ1.1 - μ.1) (am_sz μ1.1 - am_sz μ.1)) (μ1.1 - μ.1) (am_sz μ1.1 - am_sz μ.1) (n - 1) := callB_of (n - 1) hts hgood hwz rfl rfl (hts _ z5) (hts _ c1) ⟨z2, z3, c5⟩ hrm
            exact va_runI (As := as'.map (am_val ad)) hS0 hMet ⟨hcb, c2, hts _ c3⟩ ⟨hblind, fun U hU hW => ⟨rfl, hKz U hU hW⟩⟩ rfl (by rw [List.length_map]; simp at hlen; omega) hsz hstk hroom hd hcells
          · have hcb := va_cnB (R := R) (host := host) (own := (am_nm y).cls) (index := idx) (y := am_nm z) (bytes := am_bc z) (maxL := am_ml z) (ret := none) (rm := am_rm d' z (μ1.1 - μ.1) (am_sz μ1.1 - am_sz μ.1)) (n - 1) hts hgood hwz rfl rfl (va_Nw.of rfl (hts _ c1)) (hts _ z5) ⟨z2, z3, c5⟩ hrm
            exact va_runIN (As := as'.map (am_val ad)) hS0 hMet ⟨hcb, c2, hts _ c3⟩ ⟨hblind, fun U hU hW => ⟨rfl, hKz U hU hW⟩⟩ rfl (by rw [List.length_map]; simp at hlen; omega) hsz hstk hroom hd hcells
    all_goals exact hc.elim
  have hkk : ∀ (ad' : Int → Nat) (t : State) (H1 : Heap) (locs1 : List Loc), t.heap = H1 → am_Bz D cA (va_A (am_ws ad cA μ) H.size) ad μ.1 μ1 ad' t → va_S A s.heap H1 locs1 → am_agr μ.1 ad ad' ∧ am_Wd D cA A s.heap ad' μ1 H1 locs1 ∧ (st.drop n).map (am_val ad') = (st.drop n).map (am_val ad) := fun ad' t H1 locs1 ht hB hS1 => by
    obtain ⟨b1, b2, b3, b4⟩ := hB
    rw [ht] at b2
    exact ⟨b1, ⟨b2, b4.weaken (fun _ q _ h => hFA q.1 h), hS1⟩, am_map_agree hok2 b1⟩
  unfold am_Qz at hr
  by_cases h0 : am_rk z = 0
  · rw [if_pos h0] at hr
    refine va_callv hr hS (fun q _ h => hFA q h) hFA fun ad' t H1 locs1 ht hvm hp hB _ _ hS1 => ?_
    obtain ⟨g1, g2, g3⟩ := hkk ad' t H1 locs1 ht hB hS1
    have := kk ad' H1 locs1 g1 g2
    unfold am_push at this
    rw [if_pos h0, g3] at this
    exact this
  · rw [if_neg h0] at hr
    by_cases h5 : am_rk z = 5
    · rw [if_pos h5] at hr
      refine va_calll hr hS (fun q _ h => hFA q h) hFA fun v ad' t H1 locs1 ht hvm hp hB _ _ hS1 => ?_
      obtain ⟨g1, g2, g3⟩ := hkk ad' t H1 locs1 ht hB hS1
      have := kk ad' H1 locs1 g1 g2
      unfold am_push at this
      rw [if_neg h0, if_pos h5, List.map_cons, g3] at this
      rw [hp]
      exact this
    · rw [if_neg h5] at hr
      refine va_calli hr hS (fun q _ h => hFA q h) hFA fun v ad' t H1 locs1 ht hvm hp hB _ _ hS1 => ?_
      obtain ⟨g1, g2, g3⟩ := hkk ad' t H1 locs1 ht hB hS1
      have := kk ad' H1 locs1 g1 g2
      unfold am_push at this
      have h6 : ¬ am_rk z = 6 := by rcases z7 with ⟨h, -⟩ | ⟨h, -⟩ | ⟨h, -⟩ | ⟨h, -⟩ | ⟨h, -⟩ | ⟨h, -⟩ <;> omega
      rw [if_neg h0, if_neg h5, if_neg h6, List.map_cons, g3] at this
      rw [hp]
      exact this
end AMS
