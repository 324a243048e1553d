/-! THE ABSTRACT MACHINE: numbers (Int), cells of fixed shapes, one step a row; am_Ex: what comes out (none: stuck, or no end) -/
/-- a value: tag (0 int, 1 long, 2 reference, 9 nothing) and number; a reference is a cell's number, 0 is null -/
abbrev am_V : Type := Nat × Int
abbrev am_N : am_V := (9, 0)
/-- the memory: how many cells there are (cell 0 is none), what each place of each holds -/
abbrev am_M : Type := Nat × (Int → Int → Int)
def am_w32 (x : Int) : Int := (Int32.ofInt x).toInt
def am_w64 (x : Int) : Int := (Int64.ofInt x).toInt
def am_and (x y : Int) : Int := (Int32.ofInt x &&& Int32.ofInt y).toInt
def am_or (x y : Int) : Int := (Int32.ofInt x ||| Int32.ofInt y).toInt
def am_xor (x y : Int) : Int := (Int32.ofInt x ^^^ Int32.ofInt y).toInt
def am_shl (x y : Int) : Int := (Int32.ofInt x <<< (Int32.ofInt y &&& 31)).toInt
def am_shr (x y : Int) : Int := (Int32.ofInt x >>> (Int32.ofInt y &&& 31)).toInt
def am_ushr (x y : Int) : Int := ((Int32.ofInt x).toUInt32 >>> ((Int32.ofInt y).toUInt32 &&& Int32.toUInt32 31)).toInt32.toInt
def am_div (x y : Int) : Int := (Int32.ofInt x / Int32.ofInt y).toInt
def am_rem (x y : Int) : Int := (Int32.ofInt x - Int32.ofInt x / Int32.ofInt y * Int32.ofInt y).toInt
def am_ldiv (x y : Int) : Int := (Int64.ofInt x / Int64.ofInt y).toInt
def am_lrem (x y : Int) : Int := (Int64.ofInt x - Int64.ofInt x / Int64.ofInt y * Int64.ofInt y).toInt
def am_i8 (x : Int) : Int := (Int32.ofInt x).toInt8.toInt32.toInt
def am_u16 (x : Int) : Int := ((Int32.ofInt x).toUInt32 % 65536).toInt32.toInt
def am_cmp (x y : Int) : Int := if y < x then 1 else if x < y then -1 else 0
def am_rd (m : am_M) (c i : Int) : Int := m.2 c i
def am_wr (m : am_M) (c i v : Int) : am_M := (m.1, fun c' i' => if c' = c ∧ i' = i then v else m.2 c' i')
/-- a new cell -/
def am_al (m : am_M) : am_M := (m.1 + 1, fun c i => if c = (m.1 : Int) then 0 else m.2 c i)
/-- a new row of n new rows -/
def am_mna (m : am_M) (n : Nat) : am_M := (m.1 + 1 + n, fun c i => if c = (m.1 : Int) then (if 0 ≤ i ∧ i < (n : Int) then (m.1 : Int) + 1 + i else 0) else if (m.1 : Int) < c ∧ c < ((m.1 + 1 + n : Nat) : Int) then 0 else m.2 c i)
def am_cpy (m : am_M) (s sp d dp n : Int) : am_M := (m.1, fun c i => if c = d ∧ dp ≤ i ∧ i < dp + n then m.2 s (sp + (i - dp)) else m.2 c i)
def am_kd (c : Int) : Nat := if 0 ≤ c then (am_shape c.toNat).1 else 99
def am_ln (c : Int) : Int := if 0 ≤ c then ((am_shape c.toNat).2 : Int) else 0
/-- the cell c is of the kind k -/
def am_ob (c : Int) (k : Nat) : Bool := am_kd c == k
/-- the cell c is of the kind k and has the place i -/
def am_ar (c : Int) (k : Nat) (i : Int) : Bool := am_kd c == k && (decide (0 ≤ i) && decide (i < am_ln c))
def am_ld (t k : Nat) (ls st : List am_V) : Option (List am_V × List am_V) := match ls[k]? with
  | some v => if v.1 = t then some (ls, v :: st) else none
  | none => none
/-- a store behind a long's first half takes the long away -/
def am_clr (ls : List am_V) : Nat → List am_V
  | 0 => ls
  | k + 1 => match ls[k]? with
    | some v => if v.1 = 1 then ls.set k am_N else ls
    | none => ls
def am_set (ls : List am_V) (k : Nat) (v : am_V) : List am_V := (am_clr ls k).set k v
def am_setL (ls : List am_V) (k : Nat) (v : am_V) : List am_V := ((am_clr ls k).set k v).set (k + 1) am_N
def am_sto (t k : Nat) (ls : List am_V) : List am_V → Option (List am_V × List am_V)
  | v :: st => if v.1 = t then (if t = 1 then (if k + 1 < ls.length then some (am_setL ls k v, st) else none) else (if k < ls.length then some (am_set ls k v, st) else none)) else none
  | [] => none
def am_ii (f : Int → Int → Int) (ls : List am_V) : List am_V → Option (List am_V × List am_V)
  | (0, b) :: (0, a) :: st => some (ls, (0, f a b) :: st)
  | _ => none
def am_iz (f : Int → Int → Int) (ls : List am_V) : List am_V → Option (List am_V × List am_V)
  | (0, b) :: (0, a) :: st => if b = 0 then none else some (ls, (0, f a b) :: st)
  | _ => none
def am_ll (f : Int → Int → Int) (ls : List am_V) : List am_V → Option (List am_V × List am_V)
  | (1, b) :: (1, a) :: st => some (ls, (1, f a b) :: st)
  | _ => none
def am_lz (f : Int → Int → Int) (ls : List am_V) : List am_V → Option (List am_V × List am_V)
  | (1, b) :: (1, a) :: st => if b = 0 then none else some (ls, (1, f a b) :: st)
  | _ => none
def am_un (t u : Nat) (f : Int → Int) (ls : List am_V) : List am_V → Option (List am_V × List am_V)
  | (k, a) :: st => if k = t then some (ls, (u, f a) :: st) else none
  | _ => none
/-- what touches the frame alone -/
def am_pure (q : Instr) (a : Int) (ls st : List am_V) : Option (List am_V × List am_V) :=
  match q with
  | .iconst n => some (ls, (0, n) :: st)
  | .bipush n => some (ls, (0, n) :: st)
  | .sipush n => some (ls, (0, n) :: st)
  | .ldc _ => some (ls, (0, a) :: st)
  | .ldc_w _ => some (ls, (0, a) :: st)
  | .lconst n => some (ls, (1, ((n : Nat) : Int)) :: st)
  | .ldc2_w _ => some (ls, (1, a) :: st)
  | .aconst_null => some (ls, (2, 0) :: st)
  | .iload k => am_ld 0 k ls st
  | .iload_n k => am_ld 0 k ls st
  | .lload k => am_ld 1 k ls st
  | .lload_n k => am_ld 1 k ls st
  | .aload k => am_ld 2 k ls st
  | .aload_n k => am_ld 2 k ls st
  | .istore k => am_sto 0 k ls st
  | .istore_n k => am_sto 0 k ls st
  | .lstore k => am_sto 1 k ls st
  | .lstore_n k => am_sto 1 k ls st
  | .astore k => am_sto 2 k ls st
  | .astore_n k => am_sto 2 k ls st
  | .iinc k n => (am_ld 0 k ls []).bind fun r => match r.2 with
    | [(0, x)] => some (am_set ls k (0, am_w32 (x + n)), st)
    | _ => none
  | .iadd => am_ii (fun a b => am_w32 (a + b)) ls st
  | .isub => am_ii (fun a b => am_w32 (a - b)) ls st
  | .imul => am_ii (fun a b => am_w32 (a * b)) ls st
  | .iand => am_ii am_and ls st
  | .ior => am_ii am_or ls st
  | .ixor => am_ii am_xor ls st
  | .ishl => am_ii am_shl ls st
  | .ishr => am_ii am_shr ls st
  | .iushr => am_ii am_ushr ls st
  | .idiv => am_iz am_div ls st
  | .irem => am_iz am_rem ls st
  | .ineg => am_un 0 0 (fun a => am_w32 (-a)) ls st
  | .ladd => am_ll (fun a b => am_w64 (a + b)) ls st
  | .lsub => am_ll (fun a b => am_w64 (a - b)) ls st
  | .lmul => am_ll (fun a b => am_w64 (a * b)) ls st
  | .ldiv => am_lz am_ldiv ls st
  | .lrem => am_lz am_lrem ls st
  | .lneg => am_un 1 1 (fun a => am_w64 (-a)) ls st
  | .lcmp => match st with
    | (1, b) :: (1, a) :: st => some (ls, (0, am_cmp a b) :: st)
    | _ => none
  | .i2l => am_un 0 1 (fun a => a) ls st
  | .l2i => am_un 1 0 am_w32 ls st
  | .i2b => am_un 0 0 am_i8 ls st
  | .i2c => am_un 0 0 am_u16 ls st
  | .dup => match st with
    | v :: st => if v.1 = 1 then none else some (ls, v :: v :: st)
    | _ => none
  | .pop => match st with
    | v :: st => if v.1 = 1 then none else some (ls, st)
    | _ => none
  | .dup2 => match st with
    | v :: st => if v.1 = 1 then some (ls, v :: v :: st) else (match st with
      | w :: st => if w.1 = 1 then none else some (ls, v :: w :: v :: w :: st)
      | [] => none)
    | _ => none
  | _ => none
def am_cond : ClassFile.Cond → Int → Int → Bool
  | .eq, a, b => decide (a = b)
  | .ne, a, b => decide (¬ a = b)
  | .lt, a, b => decide (a < b)
  | .ge, a, b => decide (b ≤ a)
  | .gt, a, b => decide (b < a)
  | .le, a, b => decide (a ≤ b)
/-- the place that a switch goes to: x's first at v, then on; d outside -/
def am_sw (v : Int) (d : Nat) : Int → List Nat → Nat
  | _, [] => d
  | k, t :: x => if v = k then t else am_sw v d (k + 1) x
def am_lsw (v : Int) (d : Nat) : List (Int × Int) → List Nat → Nat
  | p :: ps, t :: x => if v = p.1 then t else am_lsw v d ps x
  | _, _ => d
def am_jump (q : Instr) (h : Nat) (x : List Nat) (i : Nat) (st : List am_V) : Option (Nat × List am_V) :=
  match q, st with
  | .goto _, st => some (h, st)
  | .ifCond c _, (0, a) :: st => some (if am_cond c a 0 = true then h else i, st)
  | .if_icmp c _, (0, b) :: (0, a) :: st => some (if am_cond c a b = true then h else i, st)
  | .ifnull _, (2, a) :: st => some (if a = 0 then h else i, st)
  | .ifnonnull _, (2, a) :: st => some (if a = 0 then i else h, st)
  | .tableswitch _ lo _ _, (0, a) :: st => some (am_sw a h lo x, st)
  | .lookupswitch _ ps, (0, a) :: st => some (am_lsw a h ps.toList x, st)
  | _, _ => none
def am_fits (t : Nat) (v : am_V) : Bool := if t = 3 then v.1 == 0 && (v.2 == 0 || v.2 == 1) else v.1 == t
def am_tg (t : Nat) : Nat := if t = 3 then 0 else t
/-- what touches the cells -/
def am_heap (q : Instr) (a b : Int) (st : List am_V) (m : am_M) : Option (List am_V × am_M) :=
  match q, st with
  | .getfield _, (2, o) :: st => if am_ob o a.toNat = true then some ((am_tg (am_ft a.toNat b.toNat), am_rd m o b) :: st, m) else none
  | .putfield _, v :: (2, o) :: st => if (am_ob o a.toNat && am_fits (am_ft a.toNat b.toNat) v) = true then some (st, am_wr m o b v.2) else none
  | .arraylength, (2, o) :: st => if (Nat.ble 20 (am_kd o) && Nat.ble (am_kd o) 26) = true then some ((0, am_ln o) :: st, m) else none
  | .iaload, (0, i) :: (2, o) :: st => if am_ar o 20 i = true then some ((0, am_rd m o i) :: st, m) else none
  | .laload, (0, i) :: (2, o) :: st => if am_ar o 21 i = true then some ((1, am_rd m o i) :: st, m) else none
  | .caload, (0, i) :: (2, o) :: st => if am_ar o 22 i = true then some ((0, am_rd m o i) :: st, m) else none
  | .baload, (0, i) :: (2, o) :: st => if am_ar o 23 i = true then some ((0, am_rd m o i) :: st, m) else none
  | .aaload, (0, i) :: (2, o) :: st => if (am_ar o 24 i || (am_ar o 25 i || am_ar o 26 i)) = true then some ((2, am_rd m o i) :: st, m) else none
  | .iastore, (0, v) :: (0, i) :: (2, o) :: st => if am_ar o 20 i = true then some (st, am_wr m o i v) else none
  | .lastore, (1, v) :: (0, i) :: (2, o) :: st => if am_ar o 21 i = true then some (st, am_wr m o i v) else none
  | .castore, (0, v) :: (0, i) :: (2, o) :: st => if am_ar o 22 i = true then some (st, am_wr m o i (am_u16 v)) else none
  | .bastore, (0, v) :: (0, i) :: (2, o) :: st => if am_ar o 23 i = true then some (st, am_wr m o i (am_i8 v)) else none
  | .aastore, (2, v) :: (0, i) :: (2, o) :: st => if (am_ar o 24 i && am_ob v 8 || am_ar o 25 i && am_ob v 3) = true then some (st, am_wr m o i v) else none
  | .new _, st => if am_ob m.1 a.toNat = true then some ((2, (m.1 : Int)) :: st, am_al m) else none
  | .newarray _, (0, n) :: st => if (am_ob m.1 a.toNat && (am_ln m.1 == n)) = true then some ((2, (m.1 : Int)) :: st, am_al m) else none
  | .anewarray _, (0, n) :: st => if (am_ob m.1 a.toNat && (am_ln m.1 == n)) = true then some ((2, (m.1 : Int)) :: st, am_al m) else none
  | .multianewarray _ _, (0, k) :: (0, n) :: st => if (am_ob m.1 26 && (am_ln m.1 == n) && ((List.range n.toNat).all fun j => am_ob ((m.1 : Int) + 1 + (j : Nat)) 20 && (am_ln ((m.1 : Int) + 1 + (j : Nat)) == k)) && (decide (0 ≤ k) && decide (k ≤ 10000))) = true then some ((2, (m.1 : Int)) :: st, am_mna m n.toNat) else none
  | _, _ => none
def am_sum (st : List am_V) : Nat := (st.map fun v => if v.1 = 1 then 2 else 1).sum
def am_lay : List am_V → List am_V
  | [] => []
  | v :: r => if v.1 = 1 then v :: am_N :: am_lay r else v :: am_lay r
def am_entry (z : Nat) (as : List am_V) : List am_V := am_lay as ++ List.replicate ((am_info z).2.2.1 - (am_lay as).length) am_N
def am_push (z : Nat) (r : Int) (st : List am_V) : List am_V := if am_rk z = 0 then st else if am_rk z = 5 then (1, r) :: st else if am_rk z = 6 then (2, r) :: st else (0, r) :: st
def am_kill : List Nat → List am_V → List am_V
  | [], ls => ls
  | k :: x, ls => am_kill x (ls.set k am_N)
def am_rok (k : Nat) (v : Int) : Bool := if k = 2 then v == 0 || v == 1 else if k = 3 then decide (0 ≤ v) && decide (v < 65536) else if k = 4 then decide (-128 ≤ v) && decide (v < 128) else k == 1
def am_ret (q : Instr) (y : Nat) (st : List am_V) (m : am_M) : Option (Int × am_M) :=
  match q, st with
  | .return_, [] => if am_rk y = 0 then some (0, m) else none
  | .ireturn, [(0, v)] => if am_rok (am_rk y) v = true then some (v, m) else none
  | .lreturn, [(1, v)] => if am_rk y = 5 then some (v, m) else none
  | .areturn, [(2, v)] => if am_rk y = 6 then some (v, m) else none
  | _, _ => none
/-- the receiver of a call is of the method's class -/
def am_recv (q : Instr) (z : Nat) (as : List am_V) : Bool :=
  match q with
  | .invokestatic _ => true
  | _ => match as with
    | (2, o) :: _ => if am_own z = 60 then decide (o = -2) || decide (o = -3) else am_ob o (am_own z)
    | _ => false
/-- the String constants (references -2, -3), their rows of bytes (-5, -6), two statics: none of them is ever written -/
def am_ro (q : Instr) (a : Int) (st : List am_V) : Option (List am_V) :=
  match q, st with
  | .getfield _, (2, s) :: st => if (decide (s = -2) || decide (s = -3)) = true then (if a = 0 then some ((2, s - 3) :: st) else some ((0, 0) :: st)) else none
  | .arraylength, (2, t) :: st => if (decide (t = -5) || decide (t = -6)) = true then some ((0, ((am_str (-5 - t).toNat).length : Int)) :: st) else none
  | .baload, (0, i) :: (2, t) :: st => if ((decide (t = -5) || decide (t = -6)) && (decide (0 ≤ i) && decide (i < ((am_str (-5 - t).toNat).length : Int)))) = true then some ((0, (am_str (-5 - t).toNat).getD i.toNat 0) :: st) else none
  | .getstatic _, st => if a = 0 then some ((0, 1) :: st) else some ((4, 0) :: st)
  | _, _ => none
abbrev am_X : Type := Nat → Nat → Nat → List am_V → List am_V → am_M → Option (Int × am_M)
def am_dep (d y z : Nat) : Option Nat := if am_lv z < am_lv y then some d else if am_lv z ≤ am_lv y + 1 then (match d with
  | 0 => none
  | d + 1 => some d) else none
def am_F3 (g : am_X) (d y i : Nat) (q : Instr) (z n : Nat) (ls st : List am_V) (m : am_M) : Option (Int × am_M) :=
  if (Nat.ble n st.length && (Nat.ble (am_sum (st.drop n)) 8 && (am_recv q z (st.take n).reverse && Nat.ble (am_lay (st.take n).reverse).length (am_info z).2.2.1))) = true then
    (am_dep d y z).bind fun d' => (g d' z 0 (am_entry z (st.take n).reverse) [] m).bind fun r => g d y (i + 1) ls (am_push z r.1 (st.drop n)) r.2
  else none
def am_F6 (g : am_X) (d y i : Nat) (q : Instr) (ls st : List am_V) (m : am_M) : Option (Int × am_M) := match q, st with
  | .arraylength, (2, o) :: st => if o = -1 then g d y (i + 1) ls ((0, am_rd m (-4) 0) :: st) m else none
  | .iaload, (0, k) :: (2, o) :: st => if (o == -1 && (decide (0 ≤ k) && decide (k < am_rd m (-4) 0))) = true then g d y (i + 1) ls ((0, am_rd m (-1) k) :: st) m else none
  | _, _ => none
def am_F8 (g : am_X) (d y i : Nat) (ls st : List am_V) (m : am_M) : Option (Int × am_M) := match st with
  | (2, o) :: st => if (Nat.ble (am_sum st) 8 && decide (0 < o)) = true then g d y (i + 1) ls st m else none
  | _ => none
def am_F9 (g : am_X) (d y i : Nat) (ls st : List am_V) (m : am_M) : Option (Int × am_M) := match st with
  | (0, n) :: (0, dp) :: (2, t) :: (0, sp) :: (2, s) :: st =>
    if (Nat.ble (am_sum st) 8 && (am_ob s 20 && am_ob t 20 && (decide (0 ≤ n) && (decide (0 ≤ sp) && (decide (0 ≤ dp) && (decide (sp + n ≤ am_ln s) && decide (dp + n ≤ am_ln t))))))) = true then g d y (i + 1) ls st (am_cpy m s sp t dp n) else none
  | _ => none
def am_F10 (g : am_X) (d y i : Nat) (a : Int) (ls st : List am_V) (m : am_M) : Option (Int × am_M) := match st with
  | (0, v) :: (0, u) :: st => if Nat.ble (am_sum st) 8 = true then g d y (i + 1) ls ((0, if a = 0 then max u v else min u v) :: st) m else none
  | _ => none
/-- one step, with g for what comes behind -/
def am_F (g : am_X) : am_X := fun d y i ls st m =>
  match am_at y i with
  | (0, _, _, q, a, _, _, _) => (am_pure q a ls st).bind fun r => g d y (i + 1) r.1 r.2 m
  | (1, _, _, q, _, _, h, x) => (am_jump q h x (i + 1) st).bind fun r => g d y r.1 ls r.2 m
  | (2, _, _, q, a, b, _, _) => (am_heap q a b st m).bind fun r => g d y (i + 1) ls r.1 r.2
  | (3, _, _, q, z, n, _, _) => am_F3 g d y i q z.toNat n.toNat ls st m
  | (4, _, _, q, _, _, _, _) => am_ret q y st m
  | (5, _, _, _, _, _, _, x) => g d y (i + 1) (am_kill x ls) st m
  | (6, _, _, q, _, _, _, _) => am_F6 g d y i q ls st m
  | (7, _, _, _, a, _, _, _) => g d y (i + 1) ls ((2, -2 - a) :: st) m
  | (8, _, _, _, _, _, _, _) => am_F8 g d y i ls st m
  | (9, _, _, _, _, _, _, _) => am_F9 g d y i ls st m
  | (10, _, _, _, a, _, _, _) => am_F10 g d y i a ls st m
  | (11, _, _, q, a, _, _, _) => (am_ro q a st).bind fun r => g d y (i + 1) ls r m
  | _ => none
def am_exec : Nat → am_X
  | 0 => fun _ _ _ _ _ _ => none
  | f + 1 => am_F (am_exec f)
def am_le (g h : am_X) : Prop := ∀ d y i ls st m r, g d y i ls st m = some r → h d y i ls st m = some r
section am_monos
variable {g h : am_X}
theorem am_F3_mono (H : am_le g h) {d y i : Nat} {q : Instr} {z n : Nat} {ls st : List am_V} {m : am_M} {r : Int × am_M} (hr : am_F3 g d y i q z n ls st m = some r) : am_F3 h d y i q z n ls st m = some r := by
  unfold am_F3 at hr ⊢
  split at hr
  · rename_i hc
    rw [if_pos hc]
    obtain ⟨u, h1, h2⟩ := Option.bind_eq_some_iff.mp hr
    obtain ⟨w, h3, h4⟩ := Option.bind_eq_some_iff.mp h2
    exact Option.bind_eq_some_iff.mpr ⟨u, h1, Option.bind_eq_some_iff.mpr ⟨w, H _ _ _ _ _ _ _ h3, H _ _ _ _ _ _ _ h4⟩⟩
  · cases hr
theorem am_F6_mono (H : am_le g h) {d y i : Nat} {q : Instr} {ls st : List am_V} {m : am_M} {r : Int × am_M} (hr : am_F6 g d y i q ls st m = some r) : am_F6 h d y i q ls st m = some r := by
  unfold am_F6 at hr ⊢
  split at hr
  all_goals first | (split at hr <;> first | (rename_i hc; rw [if_pos hc]; exact H _ _ _ _ _ _ _ hr) | (rename_i hc; dsimp only; rw [if_pos hc]; exact H _ _ _ _ _ _ _ hr) | (cases hr; done)) | (cases hr; done)
theorem am_F8_mono (H : am_le g h) {d y i : Nat} {ls st : List am_V} {m : am_M} {r : Int × am_M} (hr : am_F8 g d y i ls st m = some r) : am_F8 h d y i ls st m = some r := by
  unfold am_F8 at hr ⊢
  split at hr
  all_goals first | (split at hr <;> first | (rename_i hc; rw [if_pos hc]; exact H _ _ _ _ _ _ _ hr) | (rename_i hc; dsimp only; rw [if_pos hc]; exact H _ _ _ _ _ _ _ hr) | (cases hr; done)) | (cases hr; done)
theorem am_F9_mono (H : am_le g h) {d y i : Nat} {ls st : List am_V} {m : am_M} {r : Int × am_M} (hr : am_F9 g d y i ls st m = some r) : am_F9 h d y i ls st m = some r := by
  unfold am_F9 at hr ⊢
  split at hr
  all_goals first | (split at hr <;> first | (rename_i hc; rw [if_pos hc]; exact H _ _ _ _ _ _ _ hr) | (rename_i hc; dsimp only; rw [if_pos hc]; exact H _ _ _ _ _ _ _ hr) | (cases hr; done)) | (cases hr; done)
theorem am_F10_mono (H : am_le g h) {d y i : Nat} {a : Int} {ls st : List am_V} {m : am_M} {r : Int × am_M} (hr : am_F10 g d y i a ls st m = some r) : am_F10 h d y i a ls st m = some r := by
  unfold am_F10 at hr ⊢
  split at hr
  all_goals first | (split at hr <;> first | (rename_i hc; rw [if_pos hc]; exact H _ _ _ _ _ _ _ hr) | (rename_i hc; dsimp only; rw [if_pos hc]; exact H _ _ _ _ _ _ _ hr) | (cases hr; done)) | (cases hr; done)
theorem am_F_mono (H : am_le g h) : am_le (am_F g) (am_F h) := by
  intro d y i ls st m r hr
  unfold am_F at hr ⊢
  generalize am_at y i = e at hr ⊢
  obtain ⟨k, pc, n, q, a, b, w, x⟩ := e
  match k, hr with
  | 0, hr => obtain ⟨u, h1, h2⟩ := Option.bind_eq_some_iff.mp hr; exact Option.bind_eq_some_iff.mpr ⟨u, h1, H _ _ _ _ _ _ _ h2⟩
  | 1, hr => obtain ⟨u, h1, h2⟩ := Option.bind_eq_some_iff.mp hr; exact Option.bind_eq_some_iff.mpr ⟨u, h1, H _ _ _ _ _ _ _ h2⟩
  | 2, hr => obtain ⟨u, h1, h2⟩ := Option.bind_eq_some_iff.mp hr; exact Option.bind_eq_some_iff.mpr ⟨u, h1, H _ _ _ _ _ _ _ h2⟩
  | 3, hr => exact am_F3_mono H hr
  | 4, hr => exact hr
  | 5, hr => exact H _ _ _ _ _ _ _ hr
  | 6, hr => exact am_F6_mono H hr
  | 7, hr => exact H _ _ _ _ _ _ _ hr
  | 8, hr => exact am_F8_mono H hr
  | 9, hr => exact am_F9_mono H hr
  | 10, hr => exact am_F10_mono H hr
  | 11, hr => obtain ⟨u, h1, h2⟩ := Option.bind_eq_some_iff.mp hr; exact Option.bind_eq_some_iff.mpr ⟨u, h1, H _ _ _ _ _ _ _ h2⟩
  | n + 12, hr => cases hr
/-- what a step asks of g lies in a finite part of it -/
def am_fin (G : Nat → am_X) (g : am_X) : Prop := (∀ f f', f ≤ f' → am_le (G f) (G f')) ∧ ∀ d y i ls st m r, g d y i ls st m = some r → ∃ f, G f d y i ls st m = some r
variable {G : Nat → am_X}
theorem am_F3_fin (H : am_fin G g) {d y i : Nat} {q : Instr} {z n : Nat} {ls st : List am_V} {m : am_M} {r : Int × am_M} (hr : am_F3 g d y i q z n ls st m = some r) : ∃ f, am_F3 (G f) d y i q z n ls st m = some r := by
  unfold am_F3 at hr ⊢
  split at hr
  · rename_i hc
    obtain ⟨u, h1, h2⟩ := Option.bind_eq_some_iff.mp hr
    obtain ⟨w, h3, h4⟩ := Option.bind_eq_some_iff.mp h2
    obtain ⟨f, h5⟩ := H.2 _ _ _ _ _ _ _ h3
    obtain ⟨f', h6⟩ := H.2 _ _ _ _ _ _ _ h4
    refine ⟨max f f', ?_⟩
    rw [if_pos hc]
    exact Option.bind_eq_some_iff.mpr ⟨u, h1, Option.bind_eq_some_iff.mpr ⟨w, H.1 _ _ (Nat.le_max_left f f') _ _ _ _ _ _ _ h5, H.1 _ _ (Nat.le_max_right f f') _ _ _ _ _ _ _ h6⟩⟩
  · cases hr
theorem am_F6_fin (H : am_fin G g) {d y i : Nat} {q : Instr} {ls st : List am_V} {m : am_M} {r : Int × am_M} (hr : am_F6 g d y i q ls st m = some r) : ∃ f, am_F6 (G f) d y i q ls st m = some r := by
  unfold am_F6 at hr ⊢
  split at hr
  all_goals first | (split at hr <;> first | (rename_i hc; obtain ⟨f, hf⟩ := H.2 _ _ _ _ _ _ _ hr; refine ⟨f, ?_⟩; rw [if_pos hc]; exact hf) | (rename_i hc; obtain ⟨f, hf⟩ := H.2 _ _ _ _ _ _ _ hr; refine ⟨f, ?_⟩; dsimp only; rw [if_pos hc]; exact hf) | (cases hr; done)) | (cases hr; done)
theorem am_F8_fin (H : am_fin G g) {d y i : Nat} {ls st : List am_V} {m : am_M} {r : Int × am_M} (hr : am_F8 g d y i ls st m = some r) : ∃ f, am_F8 (G f) d y i ls st m = some r := by
  unfold am_F8 at hr ⊢
  split at hr
  all_goals first | (split at hr <;> first | (rename_i hc; obtain ⟨f, hf⟩ := H.2 _ _ _ _ _ _ _ hr; refine ⟨f, ?_⟩; rw [if_pos hc]; exact hf) | (rename_i hc; obtain ⟨f, hf⟩ := H.2 _ _ _ _ _ _ _ hr; refine ⟨f, ?_⟩; dsimp only; rw [if_pos hc]; exact hf) | (cases hr; done)) | (cases hr; done)
theorem am_F9_fin (H : am_fin G g) {d y i : Nat} {ls st : List am_V} {m : am_M} {r : Int × am_M} (hr : am_F9 g d y i ls st m = some r) : ∃ f, am_F9 (G f) d y i ls st m = some r := by
  unfold am_F9 at hr ⊢
  split at hr
  all_goals first | (split at hr <;> first | (rename_i hc; obtain ⟨f, hf⟩ := H.2 _ _ _ _ _ _ _ hr; refine ⟨f, ?_⟩; rw [if_pos hc]; exact hf) | (rename_i hc; obtain ⟨f, hf⟩ := H.2 _ _ _ _ _ _ _ hr; refine ⟨f, ?_⟩; dsimp only; rw [if_pos hc]; exact hf) | (cases hr; done)) | (cases hr; done)
theorem am_F10_fin (H : am_fin G g) {d y i : Nat} {a : Int} {ls st : List am_V} {m : am_M} {r : Int × am_M} (hr : am_F10 g d y i a ls st m = some r) : ∃ f, am_F10 (G f) d y i a ls st m = some r := by
  unfold am_F10 at hr ⊢
  split at hr
  all_goals first | (split at hr <;> first | (rename_i hc; obtain ⟨f, hf⟩ := H.2 _ _ _ _ _ _ _ hr; refine ⟨f, ?_⟩; rw [if_pos hc]; exact hf) | (rename_i hc; obtain ⟨f, hf⟩ := H.2 _ _ _ _ _ _ _ hr; refine ⟨f, ?_⟩; dsimp only; rw [if_pos hc]; exact hf) | (cases hr; done)) | (cases hr; done)
theorem am_F_fin (H : am_fin G g) (d y i : Nat) (ls st : List am_V) (m : am_M) (r : Int × am_M) (hr : am_F g d y i ls st m = some r) : ∃ f, am_F (G f) d y i ls st m = some r := by
  unfold am_F at hr ⊢
  generalize am_at y i = e at hr ⊢
  obtain ⟨k, pc, n, q, a, b, w, x⟩ := e
  match k, hr with
  | 0, hr => obtain ⟨u, h1, h2⟩ := Option.bind_eq_some_iff.mp hr; obtain ⟨f, h3⟩ := H.2 _ _ _ _ _ _ _ h2; exact ⟨f, Option.bind_eq_some_iff.mpr ⟨u, h1, h3⟩⟩
  | 1, hr => obtain ⟨u, h1, h2⟩ := Option.bind_eq_some_iff.mp hr; obtain ⟨f, h3⟩ := H.2 _ _ _ _ _ _ _ h2; exact ⟨f, Option.bind_eq_some_iff.mpr ⟨u, h1, h3⟩⟩
  | 2, hr => obtain ⟨u, h1, h2⟩ := Option.bind_eq_some_iff.mp hr; obtain ⟨f, h3⟩ := H.2 _ _ _ _ _ _ _ h2; exact ⟨f, Option.bind_eq_some_iff.mpr ⟨u, h1, h3⟩⟩
  | 3, hr => exact am_F3_fin H hr
  | 4, hr => exact ⟨0, hr⟩
  | 5, hr => exact H.2 _ _ _ _ _ _ _ hr
  | 6, hr => exact am_F6_fin H hr
  | 7, hr => exact H.2 _ _ _ _ _ _ _ hr
  | 8, hr => exact am_F8_fin H hr
  | 9, hr => exact am_F9_fin H hr
  | 10, hr => exact am_F10_fin H hr
  | 11, hr => obtain ⟨u, h1, h2⟩ := Option.bind_eq_some_iff.mp hr; obtain ⟨f, h3⟩ := H.2 _ _ _ _ _ _ _ h2; exact ⟨f, Option.bind_eq_some_iff.mpr ⟨u, h1, h3⟩⟩
  | n + 12, hr => cases hr
end am_monos
theorem am_exec_succ (f d y i : Nat) (ls st : List am_V) (m : am_M) (r : Int × am_M) : am_exec f d y i ls st m = some r → am_exec (f + 1) d y i ls st m = some r := by
  induction f generalizing d y i ls st m r with
  | zero => intro h; cases h
  | succ f ih => intro h; exact am_F_mono (fun d y i ls st m r => ih d y i ls st m r) d y i ls st m r h
theorem am_exec_le {f f' : Nat} (hf : f ≤ f') {d y i : Nat} {ls st : List am_V} {m : am_M} {r : Int × am_M} (h : am_exec f d y i ls st m = some r) : am_exec f' d y i ls st m = some r := by
  induction hf with
  | refl => exact h
  | step _ ih => exact am_exec_succ _ _ _ _ _ _ _ _ ih
/-- what comes out -/
noncomputable def am_Ex : am_X := fun d y i ls st m => by
  classical
  exact if h : ∃ r, ∃ f, am_exec f d y i ls st m = some r then some h.choose else none
theorem am_Ex_of {f d y i : Nat} {ls st : List am_V} {m : am_M} {r : Int × am_M} (h : am_exec f d y i ls st m = some r) : am_Ex d y i ls st m = some r := by
  unfold am_Ex
  have hx : ∃ r, ∃ f, am_exec f d y i ls st m = some r := ⟨r, f, h⟩
  rw [dif_pos hx]
  obtain ⟨f', h'⟩ := hx.choose_spec
  have a := am_exec_le (Nat.le_max_left f f') h
  have b := am_exec_le (Nat.le_max_right f f') h'
  rw [a] at b
  exact b.symm
theorem am_Ex_to {d y i : Nat} {ls st : List am_V} {m : am_M} {r : Int × am_M} (h : am_Ex d y i ls st m = some r) : ∃ f, am_exec f d y i ls st m = some r := by
  unfold am_Ex at h
  by_cases hx : ∃ r, ∃ f, am_exec f d y i ls st m = some r
  · rw [dif_pos hx] at h
    obtain ⟨f', h'⟩ := hx.choose_spec
    rw [Option.some.inj h] at h'
    exact ⟨f', h'⟩
  · rw [dif_neg hx] at h
    cases h
theorem am_Ex_eq (d y i : Nat) (ls st : List am_V) (m : am_M) : am_Ex d y i ls st m = am_F am_Ex d y i ls st m := by
  apply Option.ext
  intro r
  constructor
  · intro h
    obtain ⟨f, hf⟩ := am_Ex_to h
    match f, hf with
    | 0, hf => cases hf
    | f + 1, hf => exact am_F_mono (fun _ _ _ _ _ _ _ h => am_Ex_of h) d y i ls st m r hf
  · intro h
    obtain ⟨f, hf⟩ := am_F_fin (G := am_exec) ⟨fun f f' hle d y i ls st m r h => am_exec_le hle h, fun _ _ _ _ _ _ _ h => am_Ex_to h⟩ d y i ls st m r h
    exact am_Ex_of (f := f + 1) hf
/-- a call: from the entry -/
noncomputable def am_Call (d z : Nat) (as : List am_V) (m : am_M) : Option (Int × am_M) := am_Ex d z 0 (am_entry z as) [] m
