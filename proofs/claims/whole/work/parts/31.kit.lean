/-! THE PURE PART. What a run gives -/
def ax_ok (x : Option (Int × am_M)) (Q : Int → am_M → Prop) : Prop := ∃ r m, x = some (r, m) ∧ Q r m
theorem ax_ok_some {r : Int} {m : am_M} {Q : Int → am_M → Prop} (h : Q r m) : ax_ok (some (r, m)) Q := ⟨r, m, rfl, h⟩
theorem ax_ok_bind {x : Option (Int × am_M)} {f : Int × am_M → Option (Int × am_M)} {P Q : Int → am_M → Prop} (h : ax_ok x P) (k : ∀ r m, P r m → ax_ok (f (r, m)) Q) : ax_ok (x.bind f) Q := by
  obtain ⟨r, m, rfl, h⟩ := h
  exact k r m h
theorem ax_ok_mono {x : Option (Int × am_M)} {P Q : Int → am_M → Prop} (h : ax_ok x P) (k : ∀ r m, P r m → Q r m) : ax_ok x Q := by
  obtain ⟨r, m, e, h⟩ := h
  exact ⟨r, m, e, k r m h⟩
/-- truth as a number -/
def ax_b (p : Prop) [Decidable p] : Int := if p then 1 else 0
theorem ax_b0 {p : Prop} [Decidable p] : (ax_b p = 0) = ¬ p := by unfold ax_b; by_cases h : p <;> simp [h]
theorem ax_b1 {p : Prop} [Decidable p] : (ax_b p = 1) = p := by unfold ax_b; by_cases h : p <;> simp [h]
theorem ax_bt {p : Prop} [Decidable p] (h : p) : ax_b p = 1 := if_pos h
theorem ax_bf {p : Prop} [Decidable p] (h : ¬ p) : ax_b p = 0 := if_neg h
theorem ax_bi {p : Prop} [Decidable p] : (if p then (1 : Int) else 0) = ax_b p := rfl
theorem ax_bc {p q : Prop} [Decidable p] [Decidable q] (h : p ↔ q) : ax_b p = ax_b q := by unfold ax_b; by_cases k : q <;> simp [h, k]
theorem ax_br {p : Prop} [Decidable p] : 0 ≤ ax_b p ∧ ax_b p ≤ 1 := by unfold ax_b; split <;> omega
theorem ax_gt {α : Type} {k : Option α} : am_g true k = k := rfl
theorem ax_gi {α : Type} {i n : Int} {k : Option α} (h0 : 0 ≤ i) (h1 : i < n) : am_g (decide (0 ≤ i) && decide (i < n)) k = k := by
  rw [decide_eq_true h0, decide_eq_true h1]; rfl
theorem ax_gd {α : Type} {p : Prop} [Decidable p] {k : Option α} (h : p) : am_g (decide p) k = k := by
  rw [decide_eq_true h]; rfl
theorem ax_gbl {α : Type} {p : Prop} [Decidable p] {k : Option α} : am_g (ax_b p == 0 || ax_b p == 1) k = k := by
  unfold ax_b; split <;> rfl
theorem ax_gb2 {α : Type} {r : Int} {k : Option α} (h0 : 0 ≤ r) (h1 : r ≤ 1) : am_g (r == 0 || r == 1) k = k := by
  have : r = 0 ∨ r = 1 := by omega
  rcases this with rfl | rfl <;> rfl
/-! memory -/
theorem ax_rw {M : am_M} {c i v c' i' : Int} : am_rd (am_wr M c i v) c' i' = if c' = c ∧ i' = i then v else am_rd M c' i' := rfl
theorem ax_ws {M : am_M} {c i v : Int} : am_rd (am_wr M c i v) c i = v := if_pos ⟨rfl, rfl⟩
theorem ax_wc {M : am_M} {c i v c' i' : Int} (h : c' ≠ c) : am_rd (am_wr M c i v) c' i' = am_rd M c' i' := if_neg fun e => h e.1
theorem ax_wi {M : am_M} {c i v c' i' : Int} (h : i' ≠ i) : am_rd (am_wr M c i v) c' i' = am_rd M c' i' := if_neg fun e => h e.2
theorem ax_rc {M : am_M} {s sp d dp n c i : Int} : am_rd (am_cpy M s sp d dp n) c i = if c = d ∧ dp ≤ i ∧ i < dp + n then am_rd M s (sp + (i - dp)) else am_rd M c i := rfl
theorem ax_w32 {x : Int} (h1 : -2147483648 ≤ x) (h2 : x < 2147483648) : am_w32 x = x := am_w32_id h1 h2
/-! the places that hold references: constants -/
def ax_isr (k : Nat) (i : Int) : Bool := match k with
  | 0 => decide (0 ≤ i) && decide (i < 2)
  | 1 => decide (0 ≤ i) && decide (i < 8)
  | 2 => decide (0 ≤ i) && decide (i < 5)
  | 3 => decide (0 ≤ i) && decide (i < 5)
  | 4 => decide (0 ≤ i) && decide (i < 4)
  | 5 => decide (0 ≤ i) && decide (i < 4)
  | 6 => decide (0 ≤ i) && decide (i < 3)
  | 7 => decide (0 ≤ i) && decide (i < 4)
  | 8 => decide (i = 0) || (decide (2 ≤ i) && decide (i < 6))
  | 9 => decide (i = 0)
  | 10 => (decide (0 ≤ i) && decide (i < 8)) || (decide (9 ≤ i) && decide (i < 15))
  | 11 => (decide (0 ≤ i) && decide (i < 3)) || (decide (6 ≤ i) && decide (i < 14)) || (decide (23 ≤ i) && decide (i < 25)) || (decide (26 ≤ i) && decide (i < 28)) || (decide (31 ≤ i) && decide (i < 36)) || (decide (37 ≤ i) && decide (i < 47)) || (decide (48 ≤ i) && decide (i < 54))
  | 24 => decide (0 ≤ i) && decide (i < 4)
  | 25 => decide (0 ≤ i) && decide (i < 30)
  | 26 => decide (0 ≤ i) && decide (i < 8)
  | _ => false
def ax_rv (c i : Int) : Int := match am_kd c with
  | 0 => [(2 : Int), 39].getD i.toNat 0
  | 1 => [(2 : Int), 8, 39, 42, 425, 431, 440, 441].getD i.toNat 0
  | 2 => c + 1 + i
  | 3 => c + 1 + i
  | 4 => [(2 : Int), 14, 40, 41].getD i.toNat 0
  | 5 => [(2 : Int), 8, 445, 446].getD i.toNat 0
  | 6 => [(421 : Int), 422, 423].getD i.toNat 0
  | 7 => [(2 : Int), 8, 39, 443].getD i.toNat 0
  | 8 => if i = 0 then c + 1 else c + i
  | 9 => c + 1
  | 10 => [(2 : Int), 43, 8, 49, 55, 237, 14, 419, 0, 420, 39, 42, 424, 442, 444].getD i.toNat 0
  | 11 => [(448 : Int), 449, 450, 0, 0, 0, 451, 452, 453, 454, 455, 456, 457, 458, 0, 0, 0, 0, 0, 0, 0, 0, 0, 459, 460, 0, 461, 462, 0, 0, 0, 463, 464, 465, 466, 467, 0, 468, 469, 470, 471, 472, 473, 474, 475, 476, 477, 0, 478, 479, 480, 481, 482, 483].getD i.toNat 0
  | 24 => c + 1 + 6 * i
  | 25 => c + 1 + 6 * i
  | 26 => c + 1 + i
  | _ => 0
def ax_K (M : am_M) : Prop := M.1 = 484 ∧ ∀ c i, ax_isr (am_kd c) i = true → am_rd M c i = ax_rv c i
theorem ax_Kw {M : am_M} {c i v : Int} (h : ax_K M) (hn : ax_isr (am_kd c) i = false) : ax_K (am_wr M c i v) := ⟨h.1, fun c' i' e => by
  have : ¬ (c' = c ∧ i' = i) := fun q => by rw [q.1, q.2, hn] at e; cases e
  exact (if_neg this).trans (h.2 c' i' e)⟩
theorem ax_Kwa {M : am_M} {c i v : Int} {k : Nat} (h : ax_K M) (hk : am_kd c = k) (hn : ∀ i, ax_isr k i = false) : ax_K (am_wr M c i v) := ax_Kw h (by rw [hk]; exact hn i)
theorem ax_Kc {M : am_M} {s sp d dp n : Int} (h : ax_K M) (hn : am_kd d = 20) : ax_K (am_cpy M s sp d dp n) := ⟨h.1, fun c' i' e => by
  have : ¬ (c' = d ∧ dp ≤ i' ∧ i' < dp + n) := fun q => by
    rw [q.1, hn] at e
    cases e
  exact (if_neg this).trans (h.2 c' i' e)⟩
/-! they stay -/
def ax_nc (y : Nat) : Bool := Nat.blt y 306 && !([0, 5, 21, 29, 34, 38, 47, 49, 105, 132, 142, 181].contains y)
def ax_rq (q : Instr) (a b : Int) : Bool := match q with
  | .putfield _ => !(ax_isr a.toNat b)
  | .new _ => false
  | .newarray _ => false
  | .anewarray _ => false
  | .multianewarray _ _ => false
  | .aastore => false
  | _ => true
def ax_re (e : am_E) : Bool := match e with
  | (2, _, _, q, a, b, _, _) => ax_rq q a b
  | (3, _, _, _, z, _, _, _) => ax_nc z.toNat
  | _ => true
theorem ax_rowsB : ((List.range 306).all fun y => !(ax_nc y) || (am_prog y).all fun l => l.all ax_re) = true := by decide +kernel
theorem ax_rows {y : Nat} (hy : ax_nc y = true) (i : Nat) : ax_re (am_at y i) = true := by
  have h1 : y < 306 := by
    unfold ax_nc at hy
    exact Nat.le_of_ble_eq_true (Bool.and_eq_true_iff.mp hy).1
  have h2 := List.all_eq_true.mp ax_rowsB y (List.mem_range.mpr h1)
  rw [hy] at h2
  have h3 : ((am_prog y).all fun l => l.all ax_re) = true := h2
  unfold am_at
  rcases am_getD_mem (am_prog y) (i / 16) [] with h | h
  · have h4 := List.all_eq_true.mp h3 _ h
    rcases am_getD_mem ((am_prog y).getD (i / 16) []) (i % 16) am_E0 with h5 | h5
    · exact List.all_eq_true.mp h4 _ h5
    · rw [h5]; rfl
  · rw [h]; rfl
theorem ax_kdB {c : Int} {k : Nat} (h : am_ob c k = true) : am_kd c = k := eq_of_beq h
theorem ax_kdA {c i : Int} {k : Nat} (h : am_ar c k i = true) : am_kd c = k := eq_of_beq (Bool.and_eq_true_iff.mp h).1
theorem ax_Kheap {q : Instr} {a b : Int} {st : List am_V} {m : am_M} {r : List am_V × am_M} (hK : ax_K m) (hq : ax_rq q a b = true) (h : am_heap q a b st m = some r) : ax_K r.2 := by
  unfold am_heap at h
  split at h
  all_goals first
    | (cases hq; done)
    | (cases h; done)
    | (split at h
       · rename_i hc
         cases h
         first
           | exact hK
           | exact ax_Kw hK (by rw [ax_kdA hc]; rfl)
           | exact ax_Kw hK (by rw [ax_kdB (Bool.and_eq_true_iff.mp hc).1]; exact (Bool.not_eq_true' _).mp hq)
       · cases h)
def ax_Kg (g : am_X) : Prop := ∀ d y i ls st m r, ax_nc y = true → ax_K m → g d y i ls st m = some r → ax_K r.2
theorem ax_KF {g : am_X} (H : ax_Kg g) : ax_Kg (am_F g) := by
  intro d y i ls st m r hy hK hr
  have hrow := ax_rows hy i
  unfold am_F at hr
  generalize am_at y i = e at hr hrow
  obtain ⟨k, pc, n, q, a, b, w, x⟩ := e
  match k, hr, hrow with
  | 0, hr, _ => obtain ⟨u, h1, h2⟩ := Option.bind_eq_some_iff.mp hr; exact H _ _ _ _ _ _ _ hy hK h2
  | 1, hr, _ => obtain ⟨u, h1, h2⟩ := Option.bind_eq_some_iff.mp hr; exact H _ _ _ _ _ _ _ hy hK h2
  | 2, hr, hrow => obtain ⟨u, h1, h2⟩ := Option.bind_eq_some_iff.mp hr; exact H _ _ _ _ _ _ _ hy (ax_Kheap hK hrow h1) h2
  | 3, hr, hrow =>
    replace hr : am_F3 g d y i q a.toNat b.toNat ls st m = some r := hr
    unfold am_F3 at hr
    split at hr
    · obtain ⟨u, h1, h2⟩ := Option.bind_eq_some_iff.mp hr
      obtain ⟨v, h3, h4⟩ := Option.bind_eq_some_iff.mp h2
      exact H _ _ _ _ _ _ _ hy (H _ _ _ _ _ _ _ hrow hK h3) h4
    · cases hr
  | 4, hr, _ =>
    replace hr : am_ret q y st m = some r := hr
    unfold am_ret at hr
    split at hr
    all_goals first | (split at hr <;> (cases hr; try exact hK)) | cases hr
  | 5, hr, _ => exact H _ _ _ _ _ _ _ hy hK hr
  | 6, hr, _ =>
    replace hr : am_F6 g d y i q ls st m = some r := hr
    unfold am_F6 at hr
    split at hr
    all_goals first | (split at hr <;> first | exact H _ _ _ _ _ _ _ hy hK hr | cases hr) | cases hr
  | 7, hr, _ => exact H _ _ _ _ _ _ _ hy hK hr
  | 8, hr, _ =>
    replace hr : am_F8 g d y i ls st m = some r := hr
    unfold am_F8 at hr
    split at hr
    all_goals first | (split at hr <;> first | exact H _ _ _ _ _ _ _ hy hK hr | cases hr) | cases hr
  | 9, hr, _ =>
    replace hr : am_F9 g d y i ls st m = some r := hr
    unfold am_F9 at hr
    split at hr
    · split at hr
      · rename_i hc
        exact H _ _ _ _ _ _ _ hy (ax_Kc hK (ax_kdB (Bool.and_eq_true_iff.mp (Bool.and_eq_true_iff.mp (Bool.and_eq_true_iff.mp hc).2).1).2)) hr
      · cases hr
    · cases hr
  | 10, hr, _ =>
    replace hr : am_F10 g d y i a ls st m = some r := hr
    unfold am_F10 at hr
    split at hr
    all_goals first | (split at hr <;> first | exact H _ _ _ _ _ _ _ hy hK hr | cases hr) | cases hr
  | 11, hr, _ => obtain ⟨u, h1, h2⟩ := Option.bind_eq_some_iff.mp hr; exact H _ _ _ _ _ _ _ hy hK h2
  | n + 12, hr, _ => cases hr
theorem ax_Kex (f : Nat) : ax_Kg (am_exec f) := by
  induction f with
  | zero => intro d y i ls st m r _ _ h; cases h
  | succ f ih => exact ax_KF ih
theorem ax_KE {d y i : Nat} {ls st : List am_V} {m : am_M} {r : Int × am_M} (hy : ax_nc y = true) (hK : ax_K m) (h : am_Ex d y i ls st m = some r) : ax_K r.2 := by
  obtain ⟨f, hf⟩ := am_Ex_to h
  exact ax_Kex f d y i ls st m r hy hK hf
/-- behind a call -/
theorem ax_Kp {d y : Nat} {as : List am_V} {m m' : am_M} {r : Int} (h : am_Call d y as m = some (r, m')) (hK : ax_K m) (hy : ax_nc y = true) : ax_K m' := ax_KE (r := (r, m')) hy hK h
/-! bits -/
theorem ax_ofN (n : Nat) : Int32.ofInt (n : Int) = Int32.ofNat n := by
  first
  | exact Int32.ofInt_eq_ofNat
  | rfl
  | (apply Int32.toBitVec_inj.1; simp [Int32.toBitVec_ofInt, Int32.toBitVec_ofNat]; done)
theorem ax_toN {n : Nat} (h : n < 2147483648) : (Int32.ofNat n).toInt = (n : Int) := Int32.toInt_ofNat_of_lt h
theorem ax_andO (a b : Nat) : Int32.ofNat a &&& Int32.ofNat b = Int32.ofNat (a &&& b) := by
  apply Int32.toBitVec_inj.1
  show BitVec.ofNat 32 a &&& BitVec.ofNat 32 b = BitVec.ofNat 32 (a &&& b)
  apply BitVec.eq_of_toNat_eq
  first
  | (simp only [BitVec.toNat_and, BitVec.toNat_ofNat, Nat.and_mod_two_pow]; done)
  | (simp [Nat.and_mod_two_pow]; done)
theorem ax_andN {a b : Nat} (ha : a < 2147483648) : am_and (a : Int) (b : Int) = ((a &&& b : Nat) : Int) := by
  unfold am_and
  rw [ax_ofN, ax_ofN, ax_andO, ax_toN (Nat.lt_of_le_of_lt Nat.and_le_left ha)]
theorem ax_orO (a b : Nat) : Int32.ofNat a ||| Int32.ofNat b = Int32.ofNat (a ||| b) := by
  apply Int32.toBitVec_inj.1
  show BitVec.ofNat 32 a ||| BitVec.ofNat 32 b = BitVec.ofNat 32 (a ||| b)
  apply BitVec.eq_of_toNat_eq
  first
  | (simp only [BitVec.toNat_or, BitVec.toNat_ofNat, Nat.or_mod_two_pow]; done)
  | (simp [Nat.or_mod_two_pow]; done)
theorem ax_orN {a b : Nat} (ha : a < 2147483648) (hb : b < 2147483648) : am_or (a : Int) (b : Int) = ((a ||| b : Nat) : Int) := by
  unfold am_or
  rw [ax_ofN, ax_ofN, ax_orO, ax_toN (Nat.or_lt_two_pow (n := 31) ha hb)]
theorem ax_xorO (a b : Nat) : Int32.ofNat a ^^^ Int32.ofNat b = Int32.ofNat (a ^^^ b) := by
  apply Int32.toBitVec_inj.1
  show BitVec.ofNat 32 a ^^^ BitVec.ofNat 32 b = BitVec.ofNat 32 (a ^^^ b)
  apply BitVec.eq_of_toNat_eq
  first
  | (simp only [BitVec.toNat_xor, BitVec.toNat_ofNat, Nat.xor_mod_two_pow]; done)
  | (simp [Nat.xor_mod_two_pow]; done)
theorem ax_xorN {a b : Nat} (ha : a < 2147483648) (hb : b < 2147483648) : am_xor (a : Int) (b : Int) = ((a ^^^ b : Nat) : Int) := by
  unfold am_xor
  rw [ax_ofN, ax_ofN, ax_xorO, ax_toN (Nat.xor_lt_two_pow (n := 31) ha hb)]
theorem ax_shrB : ∀ k : Fin 32, ((Int32.ofNat k.val &&& 31).toBitVec.smod 32).toNat = k.val := by decide +kernel
theorem ax_shrN {a k : Nat} (ha : a < 2147483648) (hk : k < 32) : am_shr (a : Int) (k : Int) = ((a / 2 ^ k : Nat) : Int) := by
  unfold am_shr
  rw [ax_ofN, ax_ofN]
  have h := pk_shrN (n := a) ha (Int32.ofNat k &&& 31) k (ax_shrB ⟨k, hk⟩)
  have e : nI a = Int32.ofNat a := by first | rfl | (unfold nI; rfl)
  have e2 : nI (a / 2 ^ k) = Int32.ofNat (a / 2 ^ k) := by first | rfl | (unfold nI; rfl)
  rw [e, e2] at h
  rw [h, ax_toN (Nat.lt_of_le_of_lt (Nat.div_le_self _ _) ha)]
theorem ax_shl1B : ∀ k : Fin 31, am_shl 1 (k.val : Int) = ((2 ^ k.val : Nat) : Int) := by decide +kernel
/-- the bit t of x -/
def ax_t (x t : Int) : Prop := x.toNat.testBit t.toNat = true
