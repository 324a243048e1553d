/-! equations of am_Ex: a row at a time -/
def am_g {α : Type} (b : Bool) (k : Option α) : Option α := if b = true then k else none
def am_let {α β : Type} (v : α) (f : α → β) : β := f v
theorem am_g_congr {α : Type} {b : Bool} {k k' : Option α} (h : b = true → k = k') : am_g b k = am_g b k' := by
  unfold am_g
  split
  · rename_i hb; exact h hb
  · rfl
theorem am_g_t {α : Type} {b : Bool} {k : Option α} (h : b = true) : am_g b k = k := if_pos h
theorem am_if_congr {α : Type} {p : Prop} [Decidable p] {a a' b b' : α} (h1 : p → a = a') (h2 : ¬ p → b = b') : (if p then a else b) = (if p then a' else b') := by
  split
  · rename_i h; exact h1 h
  · rename_i h; exact h2 h
theorem am_bind_congr {α β : Type} {x : Option α} {f g : α → Option β} (h : ∀ a, f a = g a) : x.bind f = x.bind g := congrArg (Option.bind x) (funext h)
section AME
variable {d y i j pc n h : Nat} {q : Instr} {a b : Int} {x : List Nat} {ls st ls' st' : List am_V} {m m' : am_M}
theorem am_e0 (ha : am_at y i = (0, pc, n, q, a, b, h, x)) (hp : am_pure q a ls st = some (ls', st')) : am_Ex d y i ls st m = am_Ex d y (i + 1) ls' st' m := by
  rw [am_Ex_eq]
  unfold am_F
  rw [ha]
  show (am_pure q a ls st).bind _ = _
  rw [hp]
  rfl
theorem am_e1 {t : Nat} (ha : am_at y i = (1, pc, n, q, a, b, h, x)) (hp : am_jump q h x (i + 1) st = some (t, st')) : am_Ex d y i ls st m = am_Ex d y t ls st' m := by
  rw [am_Ex_eq]
  unfold am_F
  rw [ha]
  show (am_jump q h x (i + 1) st).bind _ = _
  rw [hp]
  rfl
theorem am_e1if {p : Prop} [Decidable p] {t t' : Nat} (ha : am_at y i = (1, pc, n, q, a, b, h, x)) (hp : am_jump q h x (i + 1) st = some (if p then t else t', st')) : am_Ex d y i ls st m = if p then am_Ex d y t ls st' m else am_Ex d y t' ls st' m := by
  rw [am_e1 ha hp]
  split <;> rfl
theorem am_cc_eq {u v : Int} {t t' : Nat} : (if am_cond .eq u v = true then t else t') = if u = v then t else t' := by simp [am_cond]
theorem am_cc_ne {u v : Int} {t t' : Nat} : (if am_cond .ne u v = true then t else t') = if u = v then t' else t := by by_cases h : u = v <;> simp [am_cond, h]
theorem am_cc_lt {u v : Int} {t t' : Nat} : (if am_cond .lt u v = true then t else t') = if u < v then t else t' := by simp [am_cond]
theorem am_cc_ge {u v : Int} {t t' : Nat} : (if am_cond .ge u v = true then t else t') = if u < v then t' else t := by
  by_cases h : u < v
  · have : ¬ v ≤ u := by omega
    simp [am_cond, h, this]
  · have : v ≤ u := by omega
    simp [am_cond, h]
theorem am_cc_gt {u v : Int} {t t' : Nat} : (if am_cond .gt u v = true then t else t') = if u ≤ v then t' else t := by
  by_cases h : u ≤ v
  · have : ¬ v < u := by omega
    simp [am_cond, h, this]
  · have : v < u := by omega
    simp [am_cond, h]
theorem am_cc_le {u v : Int} {t t' : Nat} : (if am_cond .le u v = true then t else t') = if u ≤ v then t else t' := by simp [am_cond]
theorem am_i_eq {u v : Int} {off : Int} (ha : am_at y i = (1, pc, n, .if_icmp .eq off, a, b, h, x)) : am_Ex d y i ls ((0, v) :: (0, u) :: st) m = if u = v then am_Ex d y h ls st m else am_Ex d y (i + 1) ls st m := am_e1if ha (by show some (if am_cond .eq u v = true then h else i + 1, st) = _; rw [am_cc_eq])
theorem am_i_ne {u v : Int} {off : Int} (ha : am_at y i = (1, pc, n, .if_icmp .ne off, a, b, h, x)) : am_Ex d y i ls ((0, v) :: (0, u) :: st) m = if u = v then am_Ex d y (i + 1) ls st m else am_Ex d y h ls st m := am_e1if ha (by show some (if am_cond .ne u v = true then h else i + 1, st) = _; rw [am_cc_ne])
theorem am_i_lt {u v : Int} {off : Int} (ha : am_at y i = (1, pc, n, .if_icmp .lt off, a, b, h, x)) : am_Ex d y i ls ((0, v) :: (0, u) :: st) m = if u < v then am_Ex d y h ls st m else am_Ex d y (i + 1) ls st m := am_e1if ha (by show some (if am_cond .lt u v = true then h else i + 1, st) = _; rw [am_cc_lt])
theorem am_i_ge {u v : Int} {off : Int} (ha : am_at y i = (1, pc, n, .if_icmp .ge off, a, b, h, x)) : am_Ex d y i ls ((0, v) :: (0, u) :: st) m = if u < v then am_Ex d y (i + 1) ls st m else am_Ex d y h ls st m := am_e1if ha (by show some (if am_cond .ge u v = true then h else i + 1, st) = _; rw [am_cc_ge])
theorem am_i_gt {u v : Int} {off : Int} (ha : am_at y i = (1, pc, n, .if_icmp .gt off, a, b, h, x)) : am_Ex d y i ls ((0, v) :: (0, u) :: st) m = if u ≤ v then am_Ex d y (i + 1) ls st m else am_Ex d y h ls st m := am_e1if ha (by show some (if am_cond .gt u v = true then h else i + 1, st) = _; rw [am_cc_gt])
theorem am_i_le {u v : Int} {off : Int} (ha : am_at y i = (1, pc, n, .if_icmp .le off, a, b, h, x)) : am_Ex d y i ls ((0, v) :: (0, u) :: st) m = if u ≤ v then am_Ex d y h ls st m else am_Ex d y (i + 1) ls st m := am_e1if ha (by show some (if am_cond .le u v = true then h else i + 1, st) = _; rw [am_cc_le])
theorem am_z_eq {u : Int} {off : Int} (ha : am_at y i = (1, pc, n, .ifCond .eq off, a, b, h, x)) : am_Ex d y i ls ((0, u) :: st) m = if u = 0 then am_Ex d y h ls st m else am_Ex d y (i + 1) ls st m := am_e1if ha (by show some (if am_cond .eq u 0 = true then h else i + 1, st) = _; rw [am_cc_eq])
theorem am_z_ne {u : Int} {off : Int} (ha : am_at y i = (1, pc, n, .ifCond .ne off, a, b, h, x)) : am_Ex d y i ls ((0, u) :: st) m = if u = 0 then am_Ex d y (i + 1) ls st m else am_Ex d y h ls st m := am_e1if ha (by show some (if am_cond .ne u 0 = true then h else i + 1, st) = _; rw [am_cc_ne])
theorem am_z_lt {u : Int} {off : Int} (ha : am_at y i = (1, pc, n, .ifCond .lt off, a, b, h, x)) : am_Ex d y i ls ((0, u) :: st) m = if u < 0 then am_Ex d y h ls st m else am_Ex d y (i + 1) ls st m := am_e1if ha (by show some (if am_cond .lt u 0 = true then h else i + 1, st) = _; rw [am_cc_lt])
theorem am_z_ge {u : Int} {off : Int} (ha : am_at y i = (1, pc, n, .ifCond .ge off, a, b, h, x)) : am_Ex d y i ls ((0, u) :: st) m = if u < 0 then am_Ex d y (i + 1) ls st m else am_Ex d y h ls st m := am_e1if ha (by show some (if am_cond .ge u 0 = true then h else i + 1, st) = _; rw [am_cc_ge])
theorem am_z_gt {u : Int} {off : Int} (ha : am_at y i = (1, pc, n, .ifCond .gt off, a, b, h, x)) : am_Ex d y i ls ((0, u) :: st) m = if u ≤ 0 then am_Ex d y (i + 1) ls st m else am_Ex d y h ls st m := am_e1if ha (by show some (if am_cond .gt u 0 = true then h else i + 1, st) = _; rw [am_cc_gt])
theorem am_z_le {u : Int} {off : Int} (ha : am_at y i = (1, pc, n, .ifCond .le off, a, b, h, x)) : am_Ex d y i ls ((0, u) :: st) m = if u ≤ 0 then am_Ex d y h ls st m else am_Ex d y (i + 1) ls st m := am_e1if ha (by show some (if am_cond .le u 0 = true then h else i + 1, st) = _; rw [am_cc_le])
theorem am_nul {u : Int} {off : Int} (ha : am_at y i = (1, pc, n, .ifnull off, a, b, h, x)) : am_Ex d y i ls ((2, u) :: st) m = if u = 0 then am_Ex d y h ls st m else am_Ex d y (i + 1) ls st m := am_e1if ha rfl
theorem am_nnul {u : Int} {off : Int} (ha : am_at y i = (1, pc, n, .ifnonnull off, a, b, h, x)) : am_Ex d y i ls ((2, u) :: st) m = if u = 0 then am_Ex d y (i + 1) ls st m else am_Ex d y h ls st m := am_e1if ha rfl
/-- a switch: its places one after another -/
def am_swF {α : Type} (v : Int) (f : Nat → α) (dflt : Nat) : Int → List Nat → α
  | _, [] => f dflt
  | k, t :: x => if v = k then f t else am_swF v f dflt (k + 1) x
theorem am_swF_eq {α : Type} {v : Int} {f : Nat → α} {dflt : Nat} : ∀ (x : List Nat) (k : Int), f (am_sw v dflt k x) = am_swF v f dflt k x
  | [], k => rfl
  | t :: x, k => by
    unfold am_sw am_swF
    split
    · rfl
    · exact am_swF_eq x (k + 1)
def am_lsF {α : Type} (v : Int) (f : Nat → α) (dflt : Nat) : List (Int × Int) → List Nat → α
  | p :: ps, t :: x => if v = p.1 then f t else am_lsF v f dflt ps x
  | _, _ => f dflt
theorem am_lsF_eq {α : Type} {v : Int} {f : Nat → α} {dflt : Nat} : ∀ (ps : List (Int × Int)) (x : List Nat), f (am_lsw v dflt ps x) = am_lsF v f dflt ps x
  | [], _ => rfl
  | _ :: _, [] => rfl
  | p :: ps, t :: x => by
    unfold am_lsw am_lsF
    split
    · rfl
    · exact am_lsF_eq ps x
theorem am_tsw {v dd lo hi : Int} {offs : Array Int} (ha : am_at y i = (1, pc, n, .tableswitch dd lo hi offs, a, b, h, x)) : am_Ex d y i ls ((0, v) :: st) m = am_swF v (fun t => am_Ex d y t ls st m) h lo x := by
  rw [am_e1 ha (t := am_sw v h lo x) (st' := st) rfl]
  exact am_swF_eq (f := fun t => am_Ex d y t ls st m) x lo
theorem am_lsws {v dd : Int} {ps : Array (Int × Int)} (ha : am_at y i = (1, pc, n, .lookupswitch dd ps, a, b, h, x)) : am_Ex d y i ls ((0, v) :: st) m = am_lsF v (fun t => am_Ex d y t ls st m) h ps.toList x := by
  rw [am_e1 ha (t := am_lsw v h ps.toList x) (st' := st) rfl]
  exact am_lsF_eq (f := fun t => am_Ex d y t ls st m) ps.toList x
theorem am_e2 {c : Bool} (ha : am_at y i = (2, pc, n, q, a, b, h, x)) (hp : am_heap q a b st m = if c = true then some (st', m') else none) : am_Ex d y i ls st m = am_g c (am_Ex d y (i + 1) ls st' m') := by
  rw [am_Ex_eq]
  unfold am_F
  rw [ha]
  show (am_heap q a b st m).bind _ = _
  rw [hp]
  unfold am_g
  split <;> rfl
theorem am_e5 (ha : am_at y i = (5, pc, n, q, a, b, h, x)) : am_Ex d y i ls st m = am_Ex d y (i + 1) (am_kill x ls) st m := by
  rw [am_Ex_eq]
  unfold am_F
  rw [ha]
  rfl
theorem am_e4 {c : Bool} {r : Int} (ha : am_at y i = (4, pc, n, q, a, b, h, x)) (hp : am_ret q y st m = if c = true then some (r, m) else none) : am_Ex d y i ls st m = am_g c (some (r, m)) := by
  rw [am_Ex_eq]
  unfold am_F
  rw [ha]
  exact hp
theorem am_e4v (ha : am_at y i = (4, pc, n, .return_, a, b, h, x)) (hk : am_rk y = 0) : am_Ex d y i ls [] m = some (0, m) := by
  rw [am_Ex_eq]
  unfold am_F
  rw [ha]
  show (if am_rk y = 0 then _ else _) = _
  rw [if_pos hk]
theorem am_e4i {v : Int} (ha : am_at y i = (4, pc, n, .ireturn, a, b, h, x)) (hk : am_rok (am_rk y) v = true) : am_Ex d y i ls [(0, v)] m = some (v, m) := by
  rw [am_Ex_eq]
  unfold am_F
  rw [ha]
  show (if am_rok (am_rk y) v = true then _ else _) = _
  rw [if_pos hk]
theorem am_e4z {v : Int} (ha : am_at y i = (4, pc, n, .ireturn, a, b, h, x)) {c : Bool} (hk : am_rok (am_rk y) v = c) : am_Ex d y i ls [(0, v)] m = am_g c (some (v, m)) := by
  rw [am_Ex_eq]
  unfold am_F
  rw [ha, ← hk]
  rfl
theorem am_e4l {v : Int} (ha : am_at y i = (4, pc, n, .lreturn, a, b, h, x)) (hk : am_rk y = 5) : am_Ex d y i ls [(1, v)] m = some (v, m) := by
  rw [am_Ex_eq]
  unfold am_F
  rw [ha]
  show (if am_rk y = 5 then _ else _) = _
  rw [if_pos hk]
theorem am_e3 {z k : Nat} {d' : Nat} {c : Bool} (ha : am_at y i = (3, pc, n, q, a, b, h, x)) (hz : a.toNat = z) (hk : b.toNat = k) (hdep : am_dep d y z = some d') (hc : (Nat.ble k st.length && (Nat.ble (am_sum (st.drop k)) 8 && (am_recv q z (st.take k).reverse && Nat.ble (am_lay (st.take k).reverse).length (am_info z).2.2.1))) = c) : am_Ex d y i ls st m = am_g c ((am_Call d' z (st.take k).reverse m).bind fun r => am_Ex d y (i + 1) ls (am_push z r.1 (st.drop k)) r.2) := by
  rw [am_Ex_eq]
  unfold am_F
  rw [ha]
  show am_F3 am_Ex d y i q a.toNat b.toNat ls st m = _
  rw [hz, hk]
  unfold am_F3
  rw [hc, hdep]
  rfl
theorem am_e6l (ha : am_at y i = (6, pc, n, .arraylength, a, b, h, x)) : am_Ex d y i ls ((2, -1) :: st) m = am_Ex d y (i + 1) ls ((0, am_rd m (-4) 0) :: st) m := by
  rw [am_Ex_eq]
  unfold am_F
  rw [ha]
  rfl
theorem am_e6i {k : Int} (ha : am_at y i = (6, pc, n, .iaload, a, b, h, x)) : am_Ex d y i ls ((0, k) :: (2, -1) :: st) m = am_g (decide (0 ≤ k) && decide (k < am_rd m (-4) 0)) (am_Ex d y (i + 1) ls ((0, am_rd m (-1) k) :: st) m) := by
  rw [am_Ex_eq]
  unfold am_F
  rw [ha]
  rfl
theorem am_e7 (ha : am_at y i = (7, pc, n, q, a, b, h, x)) : am_Ex d y i ls st m = am_Ex d y (i + 1) ls ((2, -2 - a) :: st) m := by
  rw [am_Ex_eq]
  unfold am_F
  rw [ha]
  rfl
theorem am_e8 {o : Int} (ha : am_at y i = (8, pc, n, q, a, b, h, x)) (hc : Nat.ble (am_sum st) 8 = true) : am_Ex d y i ls ((2, o) :: st) m = am_g (decide (0 < o)) (am_Ex d y (i + 1) ls st m) := by
  rw [am_Ex_eq]
  unfold am_F
  rw [ha]
  show (if (Nat.ble (am_sum st) 8 && decide (0 < o)) = true then _ else _) = _
  rw [hc]
  rfl
theorem am_e9 {k dp t sp s : Int} (ha : am_at y i = (9, pc, n, q, a, b, h, x)) (hc : Nat.ble (am_sum st) 8 = true) : am_Ex d y i ls ((0, k) :: (0, dp) :: (2, t) :: (0, sp) :: (2, s) :: st) m = am_g (am_ob s 20 && am_ob t 20 && (decide (0 ≤ k) && (decide (0 ≤ sp) && (decide (0 ≤ dp) && (decide (sp + k ≤ am_ln s) && decide (dp + k ≤ am_ln t)))))) (am_Ex d y (i + 1) ls st (am_cpy m s sp t dp k)) := by
  rw [am_Ex_eq]
  unfold am_F
  rw [ha]
  show (if (Nat.ble (am_sum st) 8 && _) = true then _ else _) = _
  rw [hc]
  rfl
theorem am_e10 {u v w : Int} (ha : am_at y i = (10, pc, n, q, a, b, h, x)) (hc : Nat.ble (am_sum st) 8 = true) (hw : (if a = 0 then max u v else min u v) = w) : am_Ex d y i ls ((0, v) :: (0, u) :: st) m = am_Ex d y (i + 1) ls ((0, w) :: st) m := by
  rw [am_Ex_eq]
  unfold am_F
  rw [ha]
  show (if Nat.ble (am_sum st) 8 = true then am_Ex d y (i + 1) ls ((0, if a = 0 then max u v else min u v) :: st) m else none) = _
  rw [hc, hw]
  rfl
theorem am_e11 (ha : am_at y i = (11, pc, n, q, a, b, h, x)) (hp : am_ro q a st = some st') : am_Ex d y i ls st m = am_Ex d y (i + 1) ls st' m := by
  rw [am_Ex_eq]
  unfold am_F
  rw [ha]
  show (am_ro q a st).bind _ = _
  rw [hp]
  rfl
theorem am_e11g {c : Bool} (ha : am_at y i = (11, pc, n, q, a, b, h, x)) (hp : am_ro q a st = if c = true then some st' else none) : am_Ex d y i ls st m = am_g c (am_Ex d y (i + 1) ls st' m) := by
  rw [am_Ex_eq]
  unfold am_F
  rw [ha]
  show (am_ro q a st).bind _ = _
  rw [hp]
  unfold am_g
  split <;> rfl
theorem am_lets {L : Int → List am_V} {e : Int} {f : Int → Option (Int × am_M)} (h : ∀ v, am_Ex d y j (L v) st m = f v) : am_Ex d y j (L e) st m = am_let e f := h e
theorem am_letm {e : am_M} {f : am_M → Option (Int × am_M)} (h : ∀ v, am_Ex d y j ls st v = f v) : am_Ex d y j ls st e = am_let e f := h e
end AME
section AMH
variable {d y i pc n h c k t : Nat} {a b : Int} {x : List Nat} {ls st : List am_V} {m : am_M} {o v u : Int}
def am_ia (o : Int) : Bool := Nat.ble 20 (am_kd o) && Nat.ble (am_kd o) 26
theorem am_gf {idx : Nat} (ha : am_at y i = (2, pc, n, .getfield idx, a, b, h, x)) (hc : a.toNat = c) (ht : am_tg (am_ft c b.toNat) = t) : am_Ex d y i ls ((2, o) :: st) m = am_g (am_ob o c) (am_Ex d y (i + 1) ls ((t, am_rd m o b) :: st) m) := by
  subst hc; subst ht; exact am_e2 ha rfl
theorem am_pf {idx : Nat} (ha : am_at y i = (2, pc, n, .putfield idx, a, b, h, x)) (hc : a.toNat = c) (hf : am_fits (am_ft c b.toNat) (t, v) = true) : am_Ex d y i ls ((t, v) :: (2, o) :: st) m = am_g (am_ob o c) (am_Ex d y (i + 1) ls st (am_wr m o b v)) := by
  subst hc
  refine am_e2 ha ?_
  show (if (am_ob o a.toNat && am_fits (am_ft a.toNat b.toNat) (t, v)) = true then some (st, am_wr m o b v) else none) = _
  rw [hf, Bool.and_true]
theorem am_pfb {idx : Nat} (ha : am_at y i = (2, pc, n, .putfield idx, a, b, h, x)) (hc : a.toNat = c) (hf : am_ft c b.toNat = 3) : am_Ex d y i ls ((0, v) :: (2, o) :: st) m = am_g (am_ob o c && (v == 0 || v == 1)) (am_Ex d y (i + 1) ls st (am_wr m o b v)) := by
  subst hc
  refine am_e2 ha ?_
  show (if (am_ob o a.toNat && am_fits (am_ft a.toNat b.toNat) (0, v)) = true then some (st, am_wr m o b v) else none) = _
  rw [hf]
  rfl
theorem am_aln (ha : am_at y i = (2, pc, n, .arraylength, a, b, h, x)) : am_Ex d y i ls ((2, o) :: st) m = am_g (am_ia o) (am_Ex d y (i + 1) ls ((0, am_ln o) :: st) m) := am_e2 ha rfl
theorem am_ial (ha : am_at y i = (2, pc, n, .iaload, a, b, h, x)) : am_Ex d y i ls ((0, u) :: (2, o) :: st) m = am_g (am_ar o 20 u) (am_Ex d y (i + 1) ls ((0, am_rd m o u) :: st) m) := am_e2 ha rfl
theorem am_lal (ha : am_at y i = (2, pc, n, .laload, a, b, h, x)) : am_Ex d y i ls ((0, u) :: (2, o) :: st) m = am_g (am_ar o 21 u) (am_Ex d y (i + 1) ls ((1, am_rd m o u) :: st) m) := am_e2 ha rfl
theorem am_cal (ha : am_at y i = (2, pc, n, .caload, a, b, h, x)) : am_Ex d y i ls ((0, u) :: (2, o) :: st) m = am_g (am_ar o 22 u) (am_Ex d y (i + 1) ls ((0, am_rd m o u) :: st) m) := am_e2 ha rfl
theorem am_bal (ha : am_at y i = (2, pc, n, .baload, a, b, h, x)) : am_Ex d y i ls ((0, u) :: (2, o) :: st) m = am_g (am_ar o 23 u) (am_Ex d y (i + 1) ls ((0, am_rd m o u) :: st) m) := am_e2 ha rfl
theorem am_aal (ha : am_at y i = (2, pc, n, .aaload, a, b, h, x)) : am_Ex d y i ls ((0, u) :: (2, o) :: st) m = am_g (am_ar o 24 u || (am_ar o 25 u || am_ar o 26 u)) (am_Ex d y (i + 1) ls ((2, am_rd m o u) :: st) m) := am_e2 ha rfl
theorem am_ias (ha : am_at y i = (2, pc, n, .iastore, a, b, h, x)) : am_Ex d y i ls ((0, v) :: (0, u) :: (2, o) :: st) m = am_g (am_ar o 20 u) (am_Ex d y (i + 1) ls st (am_wr m o u v)) := am_e2 ha rfl
theorem am_las (ha : am_at y i = (2, pc, n, .lastore, a, b, h, x)) : am_Ex d y i ls ((1, v) :: (0, u) :: (2, o) :: st) m = am_g (am_ar o 21 u) (am_Ex d y (i + 1) ls st (am_wr m o u v)) := am_e2 ha rfl
theorem am_cas (ha : am_at y i = (2, pc, n, .castore, a, b, h, x)) : am_Ex d y i ls ((0, v) :: (0, u) :: (2, o) :: st) m = am_g (am_ar o 22 u) (am_Ex d y (i + 1) ls st (am_wr m o u (am_u16 v))) := am_e2 ha rfl
theorem am_bas (ha : am_at y i = (2, pc, n, .bastore, a, b, h, x)) : am_Ex d y i ls ((0, v) :: (0, u) :: (2, o) :: st) m = am_g (am_ar o 23 u) (am_Ex d y (i + 1) ls st (am_wr m o u (am_i8 v))) := am_e2 ha rfl
theorem am_aas (ha : am_at y i = (2, pc, n, .aastore, a, b, h, x)) : am_Ex d y i ls ((2, v) :: (0, u) :: (2, o) :: st) m = am_g (am_ar o 24 u && am_ob v 8 || am_ar o 25 u && am_ob v 3) (am_Ex d y (i + 1) ls st (am_wr m o u v)) := am_e2 ha rfl
theorem am_nwo {idx : Nat} (ha : am_at y i = (2, pc, n, .new idx, a, b, h, x)) (hc : a.toNat = c) : am_Ex d y i ls st m = am_g (am_ob m.1 c) (am_Ex d y (i + 1) ls ((2, (m.1 : Int)) :: st) (am_al m)) := by
  subst hc; exact am_e2 ha rfl
theorem am_nwa {ty : ArrayType} (ha : am_at y i = (2, pc, n, .newarray ty, a, b, h, x)) (hc : a.toNat = c) : am_Ex d y i ls ((0, u) :: st) m = am_g (am_ob m.1 c && (am_ln m.1 == u)) (am_Ex d y (i + 1) ls ((2, (m.1 : Int)) :: st) (am_al m)) := by
  subst hc; exact am_e2 ha rfl
theorem am_nwq {idx : Nat} (ha : am_at y i = (2, pc, n, .anewarray idx, a, b, h, x)) (hc : a.toNat = c) : am_Ex d y i ls ((0, u) :: st) m = am_g (am_ob m.1 c && (am_ln m.1 == u)) (am_Ex d y (i + 1) ls ((2, (m.1 : Int)) :: st) (am_al m)) := by
  subst hc; exact am_e2 ha rfl
/-- the test of a new row of rows -/
def am_mt (m : am_M) (k u : Int) : Bool := am_ob m.1 26 && (am_ln m.1 == u) && ((List.range u.toNat).all fun j => am_ob ((m.1 : Int) + 1 + (j : Nat)) 20 && (am_ln ((m.1 : Int) + 1 + (j : Nat)) == k)) && (decide (0 ≤ k) && decide (k ≤ 10000))
theorem am_nwm {idx dd : Nat} (ha : am_at y i = (2, pc, n, .multianewarray idx dd, a, b, h, x)) : am_Ex d y i ls ((0, v) :: (0, u) :: st) m = am_g (am_mt m v u) (am_Ex d y (i + 1) ls ((2, (m.1 : Int)) :: st) (am_mna m u.toNat)) := am_e2 ha rfl
theorem am_cal3 {z k d' : Nat} {c : Bool} {q : Instr} (ha : am_at y i = (3, pc, n, q, a, b, h, x)) (hz : a.toNat = z) (hk : b.toNat = k) (hdep : am_dep d y z = some d') (h1 : Nat.ble k st.length = true) (h2 : Nat.ble (am_sum (st.drop k)) 8 = true) (h3 : am_recv q z (st.take k).reverse = c) (h4 : Nat.ble (am_lay (st.take k).reverse).length (am_info z).2.2.1 = true) : am_Ex d y i ls st m = am_g c ((am_Call d' z (st.take k).reverse m).bind fun r => am_Ex d y (i + 1) ls (am_push z r.1 (st.drop k)) r.2) := am_e3 ha hz hk hdep (by rw [h1, h2, h3, h4]; simp)
theorem am_rbl (ha : am_at y i = (11, pc, n, .baload, a, b, h, x)) : am_Ex d y i ls ((0, u) :: (2, o) :: st) m = am_g ((decide (o = -5) || decide (o = -6)) && (decide (0 ≤ u) && decide (u < ((am_str (-5 - o).toNat).length : Int)))) (am_Ex d y (i + 1) ls ((0, (am_str (-5 - o).toNat).getD u.toNat 0) :: st) m) := am_e11g ha rfl
theorem am_rln (ha : am_at y i = (11, pc, n, .arraylength, a, b, h, x)) : am_Ex d y i ls ((2, o) :: st) m = am_g (decide (o = -5) || decide (o = -6)) (am_Ex d y (i + 1) ls ((0, ((am_str (-5 - o).toNat).length : Int)) :: st) m) := am_e11g ha rfl
theorem am_rgv {idx : Nat} (ha : am_at y i = (11, pc, n, .getfield idx, 0, b, h, x)) : am_Ex d y i ls ((2, o) :: st) m = am_g (decide (o = -2) || decide (o = -3)) (am_Ex d y (i + 1) ls ((2, o - 3) :: st) m) := am_e11g ha rfl
theorem am_rgc {idx : Nat} (ha : am_at y i = (11, pc, n, .getfield idx, 1, b, h, x)) : am_Ex d y i ls ((2, o) :: st) m = am_g (decide (o = -2) || decide (o = -3)) (am_Ex d y (i + 1) ls ((0, 0) :: st) m) := am_e11g ha rfl
end AMH
theorem am_sw_c {α : Type} {v k : Int} {f : Nat → α} {dflt t : Nat} {x : List Nat} : am_swF v f dflt k (t :: x) = if v = k then f t else am_swF v f dflt (k + 1) x := rfl
theorem am_sw_n {α : Type} {v k : Int} {f : Nat → α} {dflt : Nat} : am_swF v f dflt k [] = f dflt := rfl
theorem am_ls_c {α : Type} {v : Int} {f : Nat → α} {dflt t : Nat} {p : Int × Int} {ps : List (Int × Int)} {x : List Nat} : am_lsF v f dflt (p :: ps) (t :: x) = if v = p.1 then f t else am_lsF v f dflt ps x := rfl
theorem am_ls_n {α : Type} {v : Int} {f : Nat → α} {dflt : Nat} {ps : List (Int × Int)} : am_lsF v f dflt ps [] = f dflt := by cases ps <;> rfl
section AMD
variable {d y i pc n h : Nat} {a b : Int} {x : List Nat} {ls st : List am_V} {m : am_M} {u v : Int} {q : Instr}
theorem am_ez {q : Instr} {f : Int → Int → Int} (ha : am_at y i = (0, pc, n, q, a, b, h, x)) (hp : am_pure q a ls ((0, v) :: (0, u) :: st) = if v = 0 then none else some (ls, (0, f u v) :: st)) : am_Ex d y i ls ((0, v) :: (0, u) :: st) m = if v = 0 then none else am_Ex d y (i + 1) ls ((0, f u v) :: st) m := by
  by_cases hv : v = 0
  · rw [if_pos hv]
    rw [if_pos hv] at hp
    rw [am_Ex_eq]
    unfold am_F
    rw [ha]
    show (am_pure q a ls _).bind _ = _
    rw [hp]
    rfl
  · rw [if_neg hv]
    rw [if_neg hv] at hp
    exact am_e0 ha hp
theorem am_ezl {q : Instr} {f : Int → Int → Int} (ha : am_at y i = (0, pc, n, q, a, b, h, x)) (hp : am_pure q a ls ((1, v) :: (1, u) :: st) = if v = 0 then none else some (ls, (1, f u v) :: st)) : am_Ex d y i ls ((1, v) :: (1, u) :: st) m = if v = 0 then none else am_Ex d y (i + 1) ls ((1, f u v) :: st) m := by
  by_cases hv : v = 0
  · rw [if_pos hv]
    rw [if_pos hv] at hp
    rw [am_Ex_eq]
    unfold am_F
    rw [ha]
    show (am_pure q a ls _).bind _ = _
    rw [hp]
    rfl
  · rw [if_neg hv]
    rw [if_neg hv] at hp
    exact am_e0 ha hp
theorem am_dvi (ha : am_at y i = (0, pc, n, .idiv, a, b, h, x)) : am_Ex d y i ls ((0, v) :: (0, u) :: st) m = if v = 0 then none else am_Ex d y (i + 1) ls ((0, am_div u v) :: st) m := am_ez ha rfl
theorem am_rmi (ha : am_at y i = (0, pc, n, .irem, a, b, h, x)) : am_Ex d y i ls ((0, v) :: (0, u) :: st) m = if v = 0 then none else am_Ex d y (i + 1) ls ((0, am_rem u v) :: st) m := am_ez ha rfl
theorem am_dvl (ha : am_at y i = (0, pc, n, .ldiv, a, b, h, x)) : am_Ex d y i ls ((1, v) :: (1, u) :: st) m = if v = 0 then none else am_Ex d y (i + 1) ls ((1, am_ldiv u v) :: st) m := am_ezl ha rfl
theorem am_rml (ha : am_at y i = (0, pc, n, .lrem, a, b, h, x)) : am_Ex d y i ls ((1, v) :: (1, u) :: st) m = if v = 0 then none else am_Ex d y (i + 1) ls ((1, am_lrem u v) :: st) m := am_ezl ha rfl
theorem am_e99 (ha : am_at y i = (99, pc, n, q, a, b, h, x)) : am_Ex d y i ls st m = none := by
  rw [am_Ex_eq]
  unfold am_F
  rw [ha]
  rfl
end AMD
