/-! THE WORLD of the abstract machine's memory in the real heap, and the instructions that touch the frame alone -/
def am_val (ad : Int → Nat) (v : am_V) : Value := match v with
  | (0, x) => .int (Int32.ofInt x)
  | (1, x) => .long (Int64.ofInt x)
  | (4, _) => if ad (-8) = 0 then .null else .ref (ad (-8) - 1)
  | (_, x) => if x = 0 then .null else .ref (ad x)
def am_cl : List vw_C := [(RX0, TX0, 2), (RX1, TX1, 8), (RX2, TX2, 13), (RX3, TX3, 8), (RX4, TX4, 4), (RX5, TX5, 5), (RX6, TX6, 10), (RX7, TX7, 4), (RX8, TX8, 7), (RX9, TX9, 3), (RX10, TX10, 15), (RX11, TX11, 54)]
def am_tys (cA : Nat → ClassId) : List (ClassId × FieldType) := [(cA 20, .int), (cA 21, .long), (cA 22, .char), (cA 23, .byte), (cA 24, .object RX8), (cA 25, .object RX3), (cA 26, .array .int)]
/-- words that a method carries beside its table: they are no 'good' words of the kit, and stay all the same -/
def am_isN : Cond → Bool
  | .fieldLinkNest .. => true
  | .methodLinkNest .. => true
  | .arrayOver (.object _) => true
  | .arrayOver (.array _) => true
  | _ => false
def am_Gg : List Cond := lw_tbl.filter goodWord
def am_G : List Cond := lw_tbl.filter fun w => goodWord w || am_isN w
abbrev am_nm (y : Nat) : MethodName := (am_info y).1
abbrev am_bc (y : Nat) : ByteArray := (am_info y).2.1
abbrev am_ml (y : Nat) : Nat := (am_info y).2.2.1
abbrev am_rt (y : Nat) : Option FieldType := (am_info y).2.2.2
/-- which locals are known -/
def am_lr (ad : Int → Nat) : Nat → List am_V → List (Nat × Value)
  | _, [] => []
  | k, v :: r => if v.1 < 3 then (k, am_val ad v) :: am_lr ad (k + 1) r else am_lr ad (k + 1) r
def am_Fr (ad : Int → Nat) (n : Nat) (ls : Array Slot) (la : List am_V) : Prop := la.length = n ∧ lv_has ls n (am_lr ad 0 la)
theorem am_lr_mem {ad : Int → Nat} {la : List am_V} {k : Nat} {q : Nat × Value} (h : q ∈ am_lr ad k la) : ∃ (j : Nat) (v : am_V), q.1 = k + j ∧ la[j]? = some v ∧ v.1 < 3 ∧ q.2 = am_val ad v := by
  induction la generalizing k with
  | nil => cases h
  | cons u r ih =>
    unfold am_lr at h
    split at h
    · rename_i hu
      rcases List.mem_cons.mp h with rfl | h
      · exact ⟨0, u, rfl, rfl, hu, rfl⟩
      · obtain ⟨j, v, h1, h2, h3, h4⟩ := ih h
        exact ⟨j + 1, v, by omega, h2, h3, h4⟩
    · obtain ⟨j, v, h1, h2, h3, h4⟩ := ih h
      exact ⟨j + 1, v, by omega, h2, h3, h4⟩
theorem am_lr_in {ad : Int → Nat} {la : List am_V} {k j : Nat} {v : am_V} (h : la[j]? = some v) (hv : v.1 < 3) : (k + j, am_val ad v) ∈ am_lr ad k la := by
  induction la generalizing k j with
  | nil => simp at h
  | cons u r ih =>
    unfold am_lr
    match j, h with
    | 0, h =>
      have : u = v := by simpa using h
      subst this
      rw [if_pos hv]
      exact List.mem_cons_self
    | j + 1, h =>
      have h' : r[j]? = some v := by simpa using h
      have := ih (k := k + 1) h'
      rw [show k + 1 + j = k + (j + 1) by omega] at this
      split
      · exact List.mem_cons_of_mem _ this
      · exact this
theorem am_has_mono {ls : Array Slot} {n : Nat} {l l' : List (Nat × Value)} (h : lv_has ls n l) (hs : ∀ q ∈ l', q ∈ l) : lv_has ls n l' := ⟨h.1, h.2.1, fun q hq => h.2.2 q (hs q hq)⟩
theorem am_Fr_get {ad : Int → Nat} {n : Nat} {ls : Array Slot} {la : List am_V} (h : am_Fr ad n ls la) {j : Nat} {v : am_V} (hj : la[j]? = some v) (hv : v.1 < 3) : ls[j]? = some (.val (am_val ad v)) := by
  have := h.2.2.2 _ (am_lr_in (k := 0) hj hv)
  simpa using this
theorem am_cat {ad : Int → Nat} {v : am_V} : (am_val ad v).category = if v.1 = 1 then 2 else 1 := by
  obtain ⟨t, x⟩ := v
  match t with
  | 0 => rfl
  | 1 => rfl
  | 4 =>
    show (if ad (-8) = 0 then Value.null else Value.ref (ad (-8) - 1)).category = _
    split <;> rfl
  | 2 =>
    show (if x = 0 then Value.null else Value.ref (ad x)).category = _
    split <;> rfl
  | 3 =>
    show (if x = 0 then Value.null else Value.ref (ad x)).category = _
    split <;> rfl
  | t + 5 =>
    show (if x = 0 then Value.null else Value.ref (ad x)).category = _
    rw [if_neg (show ¬ (t + 5 : Nat) = 1 by omega)]
    split <;> rfl
theorem am_clr_get {la : List am_V} {k j : Nat} {u : am_V} (h : (am_clr la k)[j]? = some u) (hu : u.1 < 3) : la[j]? = some u ∧ ¬ (j + 1 = k ∧ u.1 = 1) := by
  match k with
  | 0 => exact ⟨h, by omega⟩
  | k + 1 =>
    rw [show am_clr la (k + 1) = (match la[k]? with | some v => if v.1 = 1 then la.set k am_N else la | none => la) from rfl] at h
    cases hk : la[k]? with
    | none =>
      rw [hk] at h
      refine ⟨h, fun q => ?_⟩
      have : j = k := by omega
      subst this
      have h' : la[j]? = some u := h
      rw [hk] at h'
      cases h'
    | some v =>
      rw [hk] at h
      dsimp only at h
      split at h
      · rename_i hv
        by_cases hj : j = k
        · subst hj
          rw [List.getElem?_set_self (by have := (List.getElem?_eq_some_iff.mp hk).1; omega)] at h
          have : u = am_N := (Option.some.inj h).symm
          subst this
          exact absurd hu (by decide)
        · rw [List.getElem?_set_ne (fun q => hj q.symm)] at h
          exact ⟨h, fun q => hj (by omega)⟩
      · rename_i hv
        refine ⟨h, fun q => ?_⟩
        have : j = k := by omega
        subst this
        rw [hk] at h
        have : u = v := (Option.some.inj h).symm
        subst this
        exact hv q.2
theorem am_clr_len {la : List am_V} {k : Nat} : (am_clr la k).length = la.length := by
  match k with
  | 0 => rfl
  | k + 1 =>
    rw [show am_clr la (k + 1) = (match la[k]? with | some v => if v.1 = 1 then la.set k am_N else la | none => la) from rfl]
    cases la[k]? with
    | none => rfl
    | some v => dsimp only; split <;> simp
theorem am_set_len {la : List am_V} {k : Nat} {v : am_V} : (am_set la k v).length = la.length := by unfold am_set; rw [List.length_set, am_clr_len]
theorem am_setL_len {la : List am_V} {k : Nat} {v : am_V} : (am_setL la k v).length = la.length := by unfold am_setL; rw [List.length_set, List.length_set, am_clr_len]
theorem am_Fr_set {ad : Int → Nat} {n k : Nat} {ls : Array Slot} {la : List am_V} {v : am_V} (hla : la.length = n) (hk : k < la.length) (h : lv_has ls n ((k, am_val ad v) :: (am_lr ad 0 la).filter (fun q => !(q.1 == k) && !(q.1 + 1 == k && q.2.category == 2)))) : am_Fr ad n ls (am_set la k v) := by
  refine ⟨by rw [am_set_len]; exact hla, am_has_mono h fun q hq => ?_⟩
  obtain ⟨j, u, h1, h2, h3, h4⟩ := am_lr_mem hq
  have e : q = (j, am_val ad u) := Prod.ext (by omega) h4
  subst e
  unfold am_set at h2
  by_cases hj : j = k
  · subst hj
    rw [List.getElem?_set_self (by rw [am_clr_len]; exact hk)] at h2
    have : u = v := (Option.some.inj h2).symm
    subst this
    exact List.mem_cons_self
  · rw [List.getElem?_set_ne (fun q => hj q.symm)] at h2
    obtain ⟨g1, g2⟩ := am_clr_get h2 h3
    refine List.mem_cons_of_mem _ (List.mem_filter.mpr ⟨by have := am_lr_in (ad := ad) (k := 0) g1 h3; simpa using this, ?_⟩)
    simp only [am_cat]
    by_cases hu : u.1 = 1
    · have : ¬ j + 1 = k := fun q => g2 ⟨q, hu⟩
      simp [hj, this]
    · simp [hj, hu]
theorem am_Fr_setL {ad : Int → Nat} {n k : Nat} {ls : Array Slot} {la : List am_V} {v : am_V} (hla : la.length = n) (hk : k < la.length) (h : lv_has ls n ((k, am_val ad v) :: (am_lr ad 0 la).filter (fun q => !(q.1 == k) && (!(q.1 == k + 1) && !(q.1 + 1 == k && q.2.category == 2))))) : am_Fr ad n ls (am_setL la k v) := by
  refine ⟨by rw [am_setL_len]; exact hla, am_has_mono h fun q hq => ?_⟩
  obtain ⟨j, u, h1, h2, h3, h4⟩ := am_lr_mem hq
  have e : q = (j, am_val ad u) := Prod.ext (by omega) h4
  subst e
  unfold am_setL at h2
  by_cases hj1 : j = k + 1
  · subst hj1
    exfalso
    have hl : k + 1 < ((am_clr la k).set k v).length := by
      have := (List.getElem?_eq_some_iff.mp h2).1
      simpa using this
    rw [List.getElem?_set_self hl] at h2
    have : u = am_N := (Option.some.inj h2).symm
    subst this
    exact absurd h3 (by decide)
  · rw [List.getElem?_set_ne (fun q => hj1 q.symm)] at h2
    by_cases hj : j = k
    · subst hj
      rw [List.getElem?_set_self (by rw [am_clr_len]; exact hk)] at h2
      have : u = v := (Option.some.inj h2).symm
      subst this
      exact List.mem_cons_self
    · rw [List.getElem?_set_ne (fun q => hj q.symm)] at h2
      obtain ⟨g1, g2⟩ := am_clr_get h2 h3
      refine List.mem_cons_of_mem _ (List.mem_filter.mpr ⟨by have := am_lr_in (ad := ad) (k := 0) g1 h3; simpa using this, ?_⟩)
      simp only [am_cat]
      by_cases hu : u.1 = 1
      · have : ¬ j + 1 = k := fun q => g2 ⟨q, hu⟩
        simp [hj, hj1, this]
      · simp [hj, hj1, hu]
theorem am_Fr_kill {ad : Int → Nat} {n : Nat} {ls : Array Slot} (x : List Nat) {la : List am_V} (h : am_Fr ad n ls la) : am_Fr ad n ls (am_kill x la) := by
  induction x generalizing la with
  | nil => exact h
  | cons k x ih =>
    refine ih ⟨by rw [List.length_set]; exact h.1, am_has_mono h.2 fun q hq => ?_⟩
    obtain ⟨j, u, h1, h2, h3, h4⟩ := am_lr_mem hq
    have e : q = (j, am_val ad u) := Prod.ext (by omega) h4
    subst e
    by_cases hj : j = k
    · subst hj
      have hl : j < la.length := by have := (List.getElem?_eq_some_iff.mp h2).1; simpa using this
      rw [List.getElem?_set_self hl] at h2
      have : u = am_N := (Option.some.inj h2).symm
      subst this
      exact absurd h3 (by decide)
    · rw [List.getElem?_set_ne (fun q => hj q.symm)] at h2
      have := am_lr_in (ad := ad) (k := 0) h2 h3
      simpa using this
/-- a number fits its tag -/
def am_okV (n : Nat) (v : am_V) : Prop := if v.1 = 0 then -2147483648 ≤ v.2 ∧ v.2 < 2147483648 else if v.1 = 1 then -9223372036854775808 ≤ v.2 ∧ v.2 < 9223372036854775808 else -16 ≤ v.2 ∧ v.2 < n
theorem am_ofw32 (x : Int) : Int32.ofInt (am_w32 x) = Int32.ofInt x := Int32.ofInt_toInt _
theorem am_ofw64 (x : Int) : Int64.ofInt (am_w64 x) = Int64.ofInt x := Int64.ofInt_toInt _
theorem am_i32r (x : Int32) : -2147483648 ≤ x.toInt ∧ x.toInt < 2147483648 := ⟨Int32.le_toInt x, Int32.toInt_lt x⟩
theorem am_i64r (x : Int64) : -9223372036854775808 ≤ x.toInt ∧ x.toInt < 9223372036854775808 := ⟨Int64.le_toInt x, Int64.toInt_lt x⟩
theorem am_w32_id {x : Int} (h1 : -2147483648 ≤ x) (h2 : x < 2147483648) : am_w32 x = x := by
  unfold am_w32
  rw [Int32.toInt_ofInt, show Int32.size = 4294967296 from rfl]
  rw [Int.bmod_eq_of_le] <;> omega
theorem am_w64_id {x : Int} (h1 : -9223372036854775808 ≤ x) (h2 : x < 9223372036854775808) : am_w64 x = x := by
  unfold am_w64
  rw [Int64.toInt_ofInt, show Int64.size = 18446744073709551616 from rfl]
  rw [Int.bmod_eq_of_le] <;> omega
theorem am_ofInt_inj {x y : Int} (hx : -2147483648 ≤ x ∧ x < 2147483648) (hy : -2147483648 ≤ y ∧ y < 2147483648) : Int32.ofInt x = Int32.ofInt y ↔ x = y := by
  constructor
  · intro h
    have := congrArg Int32.toInt h
    change am_w32 x = am_w32 y at this
    rwa [am_w32_id hx.1 hx.2, am_w32_id hy.1 hy.2] at this
  · rintro rfl; rfl
theorem am_ofInt_lt {x y : Int} (hx : -2147483648 ≤ x ∧ x < 2147483648) (hy : -2147483648 ≤ y ∧ y < 2147483648) : Int32.ofInt x < Int32.ofInt y ↔ x < y := by
  rw [Int32.lt_iff_toInt_lt]
  show am_w32 x < am_w32 y ↔ _
  rw [am_w32_id hx.1 hx.2, am_w32_id hy.1 hy.2]
theorem am_ofInt_le {x y : Int} (hx : -2147483648 ≤ x ∧ x < 2147483648) (hy : -2147483648 ≤ y ∧ y < 2147483648) : Int32.ofInt x ≤ Int32.ofInt y ↔ x ≤ y := by
  rw [Int32.le_iff_toInt_le]
  show am_w32 x ≤ am_w32 y ↔ _
  rw [am_w32_id hx.1 hx.2, am_w32_id hy.1 hy.2]
theorem am_ofInt_ge {x y : Int} (hx : -2147483648 ≤ x ∧ x < 2147483648) (hy : -2147483648 ≤ y ∧ y < 2147483648) : Int32.ofInt x ≥ Int32.ofInt y ↔ y ≤ x := am_ofInt_le hy hx
theorem am_lgcmp {x y : Int} (hx : -9223372036854775808 ≤ x ∧ x < 9223372036854775808) (hy : -9223372036854775808 ≤ y ∧ y < 9223372036854775808) : lg_cmp (Int64.ofInt x) (Int64.ofInt y) = Int32.ofInt (am_cmp x y) := by
  have h1 : (Int64.ofInt x).toInt = x := am_w64_id hx.1 hx.2
  have h2 : (Int64.ofInt y).toInt = y := am_w64_id hy.1 hy.2
  have h3 : Int64.ofInt x = Int64.ofInt y ↔ x = y := by
    constructor
    · intro h
      have := congrArg Int64.toInt h
      rwa [h1, h2] at this
    · rintro rfl; rfl
  unfold lg_cmp am_cmp
  simp only [Int64.lt_iff_toInt_lt, gt_iff_lt, h1, h2, h3]
  by_cases a : y < x
  · simp only [if_pos a]; rfl
  · simp only [if_neg a]
    by_cases b : x < y
    · have : ¬ x = y := by omega
      simp only [if_pos b, if_neg this]; rfl
    · have : x = y := by omega
      simp only [if_neg b, if_pos this]; rfl
