/-! new rows of rows, Object's constructor, arraycopy, Math, the law's script, over the machine -/
def am_mOk (own : String) (idx : Nat) : Prop := Cond.classLink own idx "[[I" ∈ am_G ∧ Cond.arrayOver (.array .int) ∈ am_G ∧ Cond.arrayClass .int ∈ am_G
def am_adM (ad : Int → Nat) (n k : Nat) (q : Nat) (r : Nat → Nat) : Int → Nat := fun x => if x = (n : Int) then q else if (n : Int) < x ∧ x < ((n + 1 + k : Nat) : Int) then r (x - n - 1).toNat else ad x
theorem am_adM_lt {ad : Int → Nat} {n k q : Nat} {r : Nat → Nat} : ∀ x : Int, x < n → am_adM ad n k q r x = ad x := fun x hx => by unfold am_adM; rw [if_neg (by omega), if_neg (by omega)]
theorem am_adM_at {ad : Int → Nat} {n k q : Nat} {r : Nat → Nat} : am_adM ad n k q r n = q := if_pos rfl
theorem am_adM_in {ad : Int → Nat} {n k q j : Nat} {r : Nat → Nat} (hj : j < k) : am_adM ad n k q r ((n : Int) + 1 + (j : Nat)) = r j := by
  unfold am_adM; rw [if_neg (by omega), if_pos (by omega), show ((n : Int) + 1 + (j : Nat) - n - 1).toNat = j by omega]
theorem am_mna_lo {μ : am_M} {n : Nat} {c i : Int} (h : c < μ.1) : am_rd (am_mna μ n) c i = am_rd μ c i := by
  show (if c = (μ.1 : Int) then _ else if (μ.1 : Int) < c ∧ c < ((μ.1 + 1 + n : Nat) : Int) then 0 else _) = _
  rw [if_neg (by omega), if_neg (by omega)]; rfl
theorem am_mna_out {μ : am_M} {n j : Nat} : am_rd (am_mna μ n) μ.1 (j : Nat) = if j < n then (μ.1 : Int) + 1 + (j : Nat) else 0 := by
  show (if (μ.1 : Int) = (μ.1 : Int) then (if 0 ≤ ((j : Nat) : Int) ∧ ((j : Nat) : Int) < (n : Int) then _ else 0) else _) = _
  rw [if_pos rfl]
  by_cases h : j < n
  · rw [if_pos (by omega), if_pos h]
  · rw [if_neg (by omega), if_neg h]
theorem am_mna_in {μ : am_M} {n : Nat} {c i : Int} (h1 : (μ.1 : Int) < c) (h2 : c < ((μ.1 + 1 + n : Nat) : Int)) : am_rd (am_mna μ n) c i = 0 := by
  show (if c = (μ.1 : Int) then _ else if (μ.1 : Int) < c ∧ c < ((μ.1 + 1 + n : Nat) : Int) then 0 else _) = _
  rw [if_neg (by omega), if_pos ⟨h1, h2⟩]
theorem am_ws_mna {ad : Int → Nat} {cA : Nat → ClassId} {μ : am_M} {n k q : Nat} {r : Nat → Nat} (hM : am_okM μ) (hk : am_kd μ.1 = 26) (hln : am_ln μ.1 = n) (hin : ∀ j, j < n → am_kd ((μ.1 : Int) + 1 + (j : Nat)) = 20 ∧ am_ln ((μ.1 : Int) + 1 + (j : Nat)) = (k : Nat)) :
    am_ws (am_adM ad μ.1 n q r) cA (am_mna μ n) = ((am_ws ad cA μ ++ [(q, .inl (cA 26, n, .inr (.inr (.inr (.inr (fun i => if i < n then some (r i) else none))))))]) ++ (List.range n).map fun j => (r j, .inl (cA 20, k, .inl fun _ => 0))) := by
  have h1 := hM.1
  unfold am_ws
  rw [show (am_mna μ n).1 - 1 = ((μ.1 - 1) + 1) + n by show μ.1 + 1 + n - 1 = _; omega, List.range_add, List.map_append, List.range_succ, List.map_append, List.map_singleton, List.map_map, show μ.1 - 1 + 1 = μ.1 by omega]
  congr 1
  · congr 1
    · apply List.map_congr_left
      intro j hj
      have hj := List.mem_range.mp hj
      rw [am_adM_lt _ (by omega), am_cell_agree hM (by omega) (by omega) (fun i => am_mna_lo (by omega)) am_adM_lt]
    · rw [am_adM_at, am_cell_arr hk (by decide), am_arr_q (by decide), hln]
      congr 9
      funext j
      rw [am_mna_out]
      by_cases h : j < n
      · rw [if_pos h, if_neg (by omega), am_adM_in h, if_pos h]
      · rw [if_neg h, if_pos rfl, if_neg h]
  · apply List.map_congr_left
    intro j hj
    have hj := List.mem_range.mp hj
    obtain ⟨g1, g2⟩ := hin j hj
    show (am_adM ad μ.1 n q r ((μ.1 + j + 1 : Nat) : Int), am_cell (am_adM ad μ.1 n q r) cA (am_mna μ n) ((μ.1 + j + 1 : Nat) : Int)) = _
    rw [show ((μ.1 + j + 1 : Nat) : Int) = (μ.1 : Int) + 1 + (j : Nat) by omega, am_adM_in hj, am_cell_arr g1 (by decide), am_arr_i (by decide) (by decide), g2, Int.toNat_natCast]
    congr 5
    funext i
    rw [am_mna_in (by omega) (by omega)]
    rfl
theorem am_vrup {α : Type} {f : Nat → α} {v : α} {r : Nat → Nat} {n : Nat} : ((List.range n).map r).map (fun a => (a, vr_up f ((List.range n).map r) v a)) = (List.range n).map fun j => (r j, v) := by
  rw [List.map_map]
  apply List.map_congr_left
  intro j hj
  show (r j, vr_up f _ v (r j)) = _
  rw [vr_up_in (List.mem_map.mpr ⟨j, hj, rfl⟩)]
section AMS
variable {p : Program} {l : Launch} {e : Env} {R : Room} {s : State} {m : MethodId} {args : Array Value} {below : List Frame} {meth : Method} {c : Code} {H : Heap} {locs : List Loc} {cells slots : Nat} {Q : State → Prop}
variable {D : va_G} {cA : Nat → ClassId} {y pc : Nat} {ad : Int → Nat} {ls : Array Slot} {st st' : List am_V} {A : Nat → Prop} {H0 : Heap} {μ μ' : am_M}
theorem am_W_mna (C : am_Cx y p s m args meth c D cA) {idx : Nat} {n k : Int} (hd : decode (am_bc y) pc = .ok (.multianewarray idx 2, 4)) (hf : am_mOk (am_nm y).cls idx) (hk : am_ob μ.1 26 = true) (hln : am_ln μ.1 = n) (hk0 : 0 ≤ k) (hin : ∀ j : Nat, j < n.toNat → am_kd ((μ.1 : Int) + 1 + (j : Nat)) = 20 ∧ am_ln ((μ.1 : Int) + 1 + (j : Nat)) = k) (hM : am_okM μ) (hW : am_Wd D cA A H0 ad μ H locs) (hA : ∀ q, H0.size ≤ q → A q) (hcells : cells + (1 + n.toNat) ≤ R.cells) (hslots : slots + (n.toNat + n.toNat * k.toNat) ≤ R.slots) (hnl : n.toNat ≤ 10000) (hkl : k.toNat ≤ 10000)
    (kk : ∀ (q : Nat) (r : Nat → Nat) (H1 : Heap), am_Wd D cA A H0 (am_adM ad μ.1 n.toNat q r) (am_mna μ n.toNat) H1 locs → W p l e R s m args below meth c H1 locs (cells + 1 + n.toNat) (slots + n.toNat + n.toNat * k.toNat) Q (F0 m (pc + 4) ls (.ref q :: st.map (am_val ad)))) : W p l e R s m args below meth c H locs cells slots Q (F0 m pc ls (((0, k) :: (0, n) :: st).map (am_val ad))) := by
  obtain ⟨hx, hb, hml, hown, hts, hK, -, hname⟩ := C
  obtain ⟨hP, hD, hS⟩ := hW
  obtain ⟨h1, h2, h3⟩ := hf
  have hr := am_ln_ok μ.1
  rw [hln] at hr
  have neg : ∀ {z : Int}, 0 ≤ z → z < 2147483648 → ¬ Int32.ofInt z < 0 := fun g1 g2 => by rw [show (0 : Int32) = Int32.ofInt 0 from rfl, am_ofInt_lt (by omega) (by omega)]; omega
  rw [List.map_cons, List.map_cons]
  refine va_mna (X := am_ws ad cA μ) (L := []) (f := fun _ => .inr (0, [])) (ty := .int) (cy := cA 20) (N' := n.toNat) (K' := k.toNat) (z := (k.toNat, .inl fun _ => 0)) hx hb hown (hts _ h1) (am_AOA.of (hts _ h2)) (hts _ h3) (hK.2 0 _ rfl).2 hK (by simpa [va_pl] using hP) (by simpa [va_pl] using hD) hS hA (neg hr.1 hr.2) (neg hk0 (by omega)) (am_clamp hr.1 hr.2) (am_clamp hk0 (by omega)) (by omega) (by show k.toNat * 4 ≤ _; omega) (by omega) rfl rfl hcells hslots (fun c => arrV_new c k.toNat (.int 0)) hd fun q r c1 H1 hr1 hr2 q0 q1 q2 q3 => kk q r H1 ?_
  obtain rfl := am_cA_eq hK q0 (t0 := 6) rfl
  have e := am_ws_mna (ad := ad) (cA := cA) (q := q) (r := r) hM (am_ob_iff.mp hk) (n := n.toNat) (k := k.toNat) (by omega) (fun j hj => by obtain ⟨g1, g2⟩ := hin j hj; exact ⟨g1, by omega⟩)
  have e2 : va_pl ([] ++ (List.range n.toNat).map r) (vr_up (fun _ => (.inr (0, []) : va_E)) ((List.range n.toNat).map r) (.inl (cA 20, k.toNat, .inl fun _ => 0))) = (List.range n.toNat).map fun j => (r j, (.inl (cA 20, k.toNat, .inl fun _ => 0) : va_E)) := am_vrup
  rw [e2] at q1 q2
  exact ⟨by rw [e]; exact q1, by rw [e]; exact q2, q3⟩
def am_oOk (own : String) (idx : Nat) : Prop := Cond.methodLink own idx objectInit ∈ am_G ∧ Cond.instanceMethod objectInit ∈ am_G ∧ Cond.code objectInit ⟨#[0xb1]⟩ 1 none ∈ am_G
theorem am_cats {l : List am_V} : ((l.map (am_val ad)).map fun v => v.category).sum = am_sum l := by
  unfold am_sum
  rw [List.map_map]
  congr 1
  apply List.map_congr_left
  intro v _
  exact am_cat
theorem am_W_obj (C : am_Cx y p s m args meth c D cA) {idx : Nat} {o : Int} (hd : decode (am_bc y) pc = .ok (.invokespecial idx, 3)) (hf : am_oOk (am_nm y).cls idx) (ho : 0 < o) (hsum : am_sum st ≤ 8) (hR : 1 ≤ R.frames ∧ 40 ≤ R.locals) (hsz : ls.size = am_ml y)
    (kk : W p l e R s m args below meth c H locs cells slots Q (F0 m (pc + 3) ls (st.map (am_val ad)))) : W p l e R s m args below meth c H locs cells slots Q (F0 m pc ls (((2, o) :: st).map (am_val ad))) := by
  obtain ⟨hx, hb, hml, hown, hts, hK, -, hname⟩ := C
  obtain ⟨h1, h2, h3⟩ := hf
  rw [List.map_cons, am_val_ref (by omega)]
  refine W.objInit hx hb hown (hts _ h1) (hts _ h2) (hts _ h3) rfl (by rw [hml]; exact hsz) rfl hd hR.1 ?_ ?_
  · show 2 * 0 + _ + 12 ≤ _
    rw [am_cats]; omega
  · exact kk
def am_yOk (own : String) (idx : Nat) : Prop := Cond.methodLink own idx arraycopyName ∈ am_G ∧ Cond.native arraycopyName ∈ am_G ∧ Cond.static arraycopyName ∈ am_G ∧ Cond.initialized "java/lang/System" ∈ am_G
theorem am_W_cpy (C : am_Cx y p s m args meth c D cA) {idx : Nat} {n dp t sp o : Int} (hd : decode (am_bc y) pc = .ok (.invokestatic idx, 3)) (hf : am_yOk (am_nm y).cls idx) (hsum : am_sum st ≤ 8) (hR : 1 ≤ R.frames ∧ 40 ≤ R.locals) (hsz : ls.size = am_ml y)
    (hso : am_kd o = 20) (hto : am_kd t = 20) (hn : 0 ≤ n) (hsp : 0 ≤ sp) (hdp : 0 ≤ dp) (h1 : sp + n ≤ am_ln o) (h2 : dp + n ≤ am_ln t) (ho2 : o < μ.1) (ht2 : t < μ.1) (hW : am_Wd D cA A H0 ad μ H locs)
    (kk : ∀ (H1 : Heap) (locs1 : List Loc), am_Wd D cA A H0 ad (am_cpy μ o sp t dp n) H1 locs1 → W p l e R s m args below meth c H1 locs1 cells slots Q (F0 m (pc + 3) ls (st.map (am_val ad)))) : W p l e R s m args below meth c H locs cells slots Q (F0 m pc ls (((0, n) :: (0, dp) :: (2, t) :: (0, sp) :: (2, o) :: st).map (am_val ad))) := by
  have hW0 := hW
  obtain ⟨hx, hb, hml, hown, hts, hK, -, hname⟩ := C
  obtain ⟨hP, hD, hS⟩ := hW
  obtain ⟨f1, f2, f3, f4⟩ := hf
  have hp1 : 1 ≤ o := am_kd_pos (by omega)
  have ht1 : 1 ≤ t := am_kd_pos (by omega)
  have l1 := am_ln_ok o
  have l2 := am_ln_ok t
  have neg : ∀ {z : Int}, 0 ≤ z → z < 2147483648 → ¬ Int32.ofInt z < 0 := fun g1 g2 => by rw [show (0 : Int32) = Int32.ofInt 0 from rfl, am_ofInt_lt (by omega) (by omega)]; omega
  have he := am_ws_get (ad := ad) (cA := cA) (m := μ) hp1 ho2
  rw [am_cell_arr hso (by omega), am_arr_i (by omega) (by omega)] at he
  have he2 := am_ws_get (ad := ad) (cA := cA) (m := μ) ht1 ht2
  rw [am_cell_arr hto (by omega), am_arr_i (by omega) (by omega)] at he2
  have c1 := am_clamp hn (by omega : n < 2147483648)
  have c2 := am_clamp hsp (by omega : sp < 2147483648)
  have c3 := am_clamp hdp (by omega : dp < 2147483648)
  simp only [List.map_cons]
  rw [am_val_ref hp1, am_val_ref ht1]
  refine va_copyi hx hb (hml.trans hsz.symm) hown (hts _ f1) (hts _ f2) (hts _ f3) (hts _ f4) hK hP hD hS _ _ 0 0 he he2 rfl rfl rfl (neg hsp (by omega)) (neg hdp (by omega)) (neg hn (by omega)) (by rw [c1, c2]; omega) (by rw [c1, c3]; omega) (fun _ _ => rfl) hR.1 ?_ hd fun H1 locs1 q1 q2 q3 => kk H1 locs1 (am_Wd_set hW0 ht1 rfl (fun c hc i => ?_) ?_ q1 q2 q3)
  · rw [am_cats]
    have : nativeFrameWords "java/lang/System" "arraycopy" 5 = 7 := by decide +kernel
    rw [this]; omega
  · show (if c = t ∧ _ then _ else _) = _
    rw [if_neg (fun q => hc q.1)]; rfl
  · rw [am_cell_arr hto (by omega), am_arr_i (by omega) (by omega), c1, c2, c3]
    congr 4
    funext j
    show (if dp.toNat ≤ j ∧ j < dp.toNat + n.toNat then Int32.ofInt (am_rd μ o ((sp.toNat + (j - dp.toNat) : Nat) : Int)) else Int32.ofInt (am_rd μ t j)) = Int32.ofInt (if t = t ∧ dp ≤ ((j : Nat) : Int) ∧ ((j : Nat) : Int) < dp + n then μ.2 o (sp + ((j : Nat) - dp)) else μ.2 t j)
    by_cases hj : dp.toNat ≤ j ∧ j < dp.toNat + n.toNat
    · rw [if_pos hj, if_pos ⟨rfl, by omega, by omega⟩, show ((sp.toNat + (j - dp.toNat) : Nat) : Int) = sp + ((j : Nat) - dp) by omega]; rfl
    · rw [if_neg hj, if_neg (by omega)]; rfl
def am_xOk (own : String) (idx : Nat) (a : Int) : Prop := (a = 0 ∧ Cond.methodLink own idx Lib.Math.max.name ∈ am_G ∧ Cond.static Lib.Math.max.name ∈ am_G ∧ Cond.initialized "java/lang/Math" ∈ am_G ∧ Cond.code Lib.Math.max.name Lib.Math.max.code 2 (some .int) ∈ am_G) ∨ (a = 1 ∧ Cond.methodLink own idx Lib.Math.min.name ∈ am_G ∧ Cond.static Lib.Math.min.name ∈ am_G ∧ Cond.initialized "java/lang/Math" ∈ am_G ∧ Cond.code Lib.Math.min.name Lib.Math.min.code 2 (some .int) ∈ am_G)
theorem am_W_mm (C : am_Cx y p s m args meth c D cA) {idx : Nat} {a u v : Int} (hd : decode (am_bc y) pc = .ok (.invokestatic idx, 3)) (hf : am_xOk (am_nm y).cls idx a) (hsum : am_sum st ≤ 8) (hR : 1 ≤ R.frames ∧ 40 ≤ R.locals) (hc : cells ≤ R.cells) (hs : slots ≤ R.slots) (hsz : ls.size = am_ml y) {n : Nat} (hu : am_okV n (0, u)) (hv : am_okV n (0, v))
    (kk : W p l e R s m args below meth c H locs cells slots Q (F0 m (pc + 3) ls (((0, if a = 0 then max u v else min u v) :: st).map (am_val ad)))) : W p l e R s m args below meth c H locs cells slots Q (F0 m pc ls (((0, v) :: (0, u) :: st).map (am_val ad))) := by
  obtain ⟨hx, hb, hml, hown, hts, hK, -, hname⟩ := C
  have hu' := am_okV_i.mp hu
  have hv' := am_okV_i.mp hv
  rw [List.map_cons, List.map_cons]
  rw [List.map_cons] at kk
  rcases hf with ⟨rfl, f1, f2, f3, f4⟩ | ⟨rfl, f1, f2, f3, f4⟩
  · refine va_mmax hx hb (hml.trans hsz.symm) hown (hts _ f1) (hts _ f2) (hts _ f3) (hts _ f4) hR.1 (by rw [am_cats]; omega) hc hs hd ?_
    have e : am_val ad (0, if (0 : Int) = 0 then max u v else min u v) = .int (if Int32.ofInt u < Int32.ofInt v then Int32.ofInt v else Int32.ofInt u) := by
      show Value.int (Int32.ofInt (max u v)) = _
      by_cases q : u < v
      · rw [if_pos ((am_ofInt_lt hu' hv').mpr q), Int.max_eq_right (by omega)]
      · rw [if_neg (fun z => q ((am_ofInt_lt hu' hv').mp z)), Int.max_eq_left (by omega)]
    rw [← e]; exact kk
  · refine va_mmin hx hb (hml.trans hsz.symm) hown (hts _ f1) (hts _ f2) (hts _ f3) (hts _ f4) hR.1 (by rw [am_cats]; omega) hc hs hd ?_
    have e : am_val ad (0, if (1 : Int) = 0 then max u v else min u v) = .int (if Int32.ofInt v < Int32.ofInt u then Int32.ofInt v else Int32.ofInt u) := by
      show Value.int (Int32.ofInt (min u v)) = _
      by_cases q : v < u
      · rw [if_pos ((am_ofInt_lt hv' hu').mpr q), Int.min_eq_right (by omega)]
      · rw [if_neg (fun z => q ((am_ofInt_lt hv' hu').mp z)), Int.min_eq_left (by omega)]
    rw [← e]; exact kk
end AMS
