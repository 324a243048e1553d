/-! the instructions that touch the frame alone, over the machine -/
/-- how long an instruction is -/
def am_len : Instr → Nat
  | .bipush _ => 2
  | .sipush _ => 3
  | .ldc _ => 2
  | .ldc_w _ => 3
  | .ldc2_w _ => 3
  | .iload _ => 2
  | .lload _ => 2
  | .aload _ => 2
  | .istore _ => 2
  | .lstore _ => 2
  | .astore _ => 2
  | .iinc _ _ => 3
  | .goto _ => 3
  | .ifCond _ _ => 3
  | .if_icmp _ _ => 3
  | .ifnull _ => 3
  | .ifnonnull _ => 3
  | .getfield _ => 3
  | .getstatic _ => 3
  | .putfield _ => 3
  | .new _ => 3
  | .newarray _ => 2
  | .anewarray _ => 3
  | .multianewarray _ _ => 4
  | .invokevirtual _ => 3
  | .invokestatic _ => 3
  | .invokespecial _ => 3
  | _ => 1
/-- the constants that an instruction brings -/
def am_kOk (own : String) (q : Instr) (a : Int) : Prop := match q with
  | .iconst n => -128 ≤ n ∧ n < 128
  | .bipush n => -128 ≤ n ∧ n < 128
  | .sipush n => -32768 ≤ n ∧ n < 32768
  | .ldc k => Cond.constant own k (Int32.ofInt a) ∈ am_G ∧ -2147483648 ≤ a ∧ a < 2147483648
  | .ldc_w k => Cond.constant own k (Int32.ofInt a) ∈ am_G ∧ -2147483648 ≤ a ∧ a < 2147483648
  | .ldc2_w k => Cond.constantLong own k (Int64.ofInt a) ∈ am_G ∧ -9223372036854775808 ≤ a ∧ a < 9223372036854775808
  | _ => True
theorem am_ii_inv {f : Int → Int → Int} {ls st ls' st' : List am_V} (h : am_ii f ls st = some (ls', st')) : ∃ a b r, st = (0, b) :: (0, a) :: r ∧ ls' = ls ∧ st' = (0, f a b) :: r := by
  unfold am_ii at h
  split at h
  · cases h; exact ⟨_, _, _, rfl, rfl, rfl⟩
  · cases h
theorem am_ll_inv {f : Int → Int → Int} {ls st ls' st' : List am_V} (h : am_ll f ls st = some (ls', st')) : ∃ a b r, st = (1, b) :: (1, a) :: r ∧ ls' = ls ∧ st' = (1, f a b) :: r := by
  unfold am_ll at h
  split at h
  · cases h; exact ⟨_, _, _, rfl, rfl, rfl⟩
  · cases h
theorem am_iz_inv {f : Int → Int → Int} {ls st ls' st' : List am_V} (h : am_iz f ls st = some (ls', st')) : ∃ a b r, ¬ b = 0 ∧ st = (0, b) :: (0, a) :: r ∧ ls' = ls ∧ st' = (0, f a b) :: r := by
  unfold am_iz at h
  split at h
  · split at h
    · cases h
    · rename_i hb; cases h; exact ⟨_, _, _, hb, rfl, rfl, rfl⟩
  · cases h
theorem am_lz_inv {f : Int → Int → Int} {ls st ls' st' : List am_V} (h : am_lz f ls st = some (ls', st')) : ∃ a b r, ¬ b = 0 ∧ st = (1, b) :: (1, a) :: r ∧ ls' = ls ∧ st' = (1, f a b) :: r := by
  unfold am_lz at h
  split at h
  · split at h
    · cases h
    · rename_i hb; cases h; exact ⟨_, _, _, hb, rfl, rfl, rfl⟩
  · cases h
theorem am_un_inv {t u : Nat} {f : Int → Int} {ls st ls' st' : List am_V} (h : am_un t u f ls st = some (ls', st')) : ∃ a r, st = (t, a) :: r ∧ ls' = ls ∧ st' = (u, f a) :: r := by
  unfold am_un at h
  split at h
  · split at h
    · rename_i hk; cases h; exact ⟨_, _, by rw [hk], rfl, rfl⟩
    · cases h
  · cases h
theorem am_ld_inv {t k : Nat} {ls st ls' st' : List am_V} (h : am_ld t k ls st = some (ls', st')) : ∃ x, ls[k]? = some (t, x) ∧ ls' = ls ∧ st' = (t, x) :: st := by
  unfold am_ld at h
  split at h
  · rename_i v hv
    split at h
    · rename_i hk
      cases h
      subst hk
      exact ⟨v.2, hv, rfl, rfl⟩
    · cases h
  · cases h
theorem am_sto_inv {t k : Nat} {ls st ls' st' : List am_V} (h : am_sto t k ls st = some (ls', st')) : ∃ x, st = (t, x) :: st' ∧ ((t = 1 ∧ k + 1 < ls.length ∧ ls' = am_setL ls k (t, x)) ∨ (¬ t = 1 ∧ k < ls.length ∧ ls' = am_set ls k (t, x))) := by
  unfold am_sto at h
  split at h
  · rename_i v st
    split at h
    · rename_i hk
      subst hk
      split at h
      · rename_i h1
        split at h
        · rename_i h2; cases h; exact ⟨v.2, rfl, Or.inl ⟨h1, h2, rfl⟩⟩
        · cases h
      · rename_i h1
        split at h
        · rename_i h2; cases h; exact ⟨v.2, rfl, Or.inr ⟨h1, h2, rfl⟩⟩
        · cases h
    · cases h
  · cases h
theorem am_i8c {n : Int} (h : -128 ≤ n ∧ n < 128) : (Int8.ofInt n).toInt32 = Int32.ofInt n := by
  apply Int32.toInt_inj.mp
  rw [Int8.toInt_toInt32, Int8.toInt_ofInt, Int32.toInt_ofInt, show Int32.size = 4294967296 from rfl, show Int8.size = 256 from rfl, Int.bmod_eq_of_le (by omega) (by omega), Int.bmod_eq_of_le (by omega) (by omega)]
theorem am_i16c {n : Int} (h : -32768 ≤ n ∧ n < 32768) : (Int16.ofInt n).toInt32 = Int32.ofInt n := by
  apply Int32.toInt_inj.mp
  rw [Int16.toInt_toInt32, Int16.toInt_ofInt, Int32.toInt_ofInt, show Int32.size = 4294967296 from rfl, show Int16.size = 65536 from rfl, Int.bmod_eq_of_le (by omega) (by omega), Int.bmod_eq_of_le (by omega) (by omega)]
theorem am_i2l {n : Int} (h : -2147483648 ≤ n ∧ n < 2147483648) : (Int32.ofInt n).toInt64 = Int64.ofInt n := by
  apply Int64.toInt_inj.mp
  rw [Int32.toInt_toInt64, Int32.toInt_ofInt, Int64.toInt_ofInt, show Int32.size = 4294967296 from rfl, show Int64.size = 18446744073709551616 from rfl, Int.bmod_eq_of_le (by omega) (by omega), Int.bmod_eq_of_le (by omega) (by omega)]
theorem am_l2i {n : Int} : (Int64.ofInt n).toInt32 = Int32.ofInt (am_w32 n) := by
  rw [am_ofw32]
  apply Int32.toInt_inj.mp
  rw [Int64.toInt_toInt32, Int64.toInt_ofInt, Int32.toInt_ofInt, show Int32.size = 4294967296 from rfl, show Int64.size = 18446744073709551616 from rfl]
  exact Int.bmod_bmod_of_dvd (by decide)
theorem am_neq0 {n : Int} (h : -2147483648 ≤ n ∧ n < 2147483648) (h0 : ¬ n = 0) : ¬ Int32.ofInt n = 0 := fun q => h0 ((am_ofInt_inj h (by omega)).mp (q.trans (by rfl)))
theorem am_lneq0 {n : Int} (h : -9223372036854775808 ≤ n ∧ n < 9223372036854775808) (h0 : ¬ n = 0) : ¬ Int64.ofInt n = 0 := fun q => h0 (by
  have := congrArg Int64.toInt q
  change am_w64 n = 0 at this
  rwa [am_w64_id h.1 h.2] at this)
/-- what holds in a method's body: the machine, the code, the tables' words -/
def am_Cx (y : Nat) (p : Program) (s : State) (m : MethodId) (args : Array Value) (meth : Method) (c : Code) (D : va_G) (cA : Nat → ClassId) : Prop :=
  p.tables.exec = Jvm.exec ∧ c.code = am_bc y ∧ c.maxLocals = am_ml y ∧ s.vm.findClass (am_nm y).cls = some m.cls ∧ (∀ w ∈ am_G, w.before args s = true) ∧ va_K D am_cl (am_tys cA) s ∧ meth.locks = false ∧ (y < am_law → meth.name = (am_nm y).name)
section AMS
variable {p : Program} {l : Launch} {e : Env} {R : Room} {s : State} {m : MethodId} {args : Array Value} {below : List Frame} {meth : Method} {c : Code} {H : Heap} {locs : List Loc} {cells slots : Nat} {Q : State → Prop}
variable {D : va_G} {cA : Nat → ClassId} {y pc n : Nat} {ad : Int → Nat} {ls : Array Slot} {la st la' st' : List am_V}
theorem am_W_load (C : am_Cx y p s m args meth c D cA) {t k : Nat} {q : Instr} (hq : (t = 0 ∧ (q = .iload k ∨ ∃ f : Fin 4, (f : Nat) = k ∧ q = .iload_n f)) ∨ (t = 1 ∧ (q = .lload k ∨ ∃ f : Fin 4, (f : Nat) = k ∧ q = .lload_n f)) ∨ (t = 2 ∧ (q = .aload k ∨ ∃ f : Fin 4, (f : Nat) = k ∧ q = .aload_n f))) (hd : decode (am_bc y) pc = .ok (q, am_len q)) (hp : am_ld t k la st = some (la', st')) (hl : am_Fr ad (am_ml y) ls la)
    (kk : ∀ ls', am_Fr ad (am_ml y) ls' la' → W p l e R s m args below meth c H locs cells slots Q (F0 m (pc + am_len q) ls' (st'.map (am_val ad)))) : W p l e R s m args below meth c H locs cells slots Q (F0 m pc ls (st.map (am_val ad))) := by
  obtain ⟨hx, hb, -⟩ := C
  obtain ⟨x, h1, rfl, rfl⟩ := am_ld_inv hp
  rcases hq with ⟨rfl, hq⟩ | ⟨rfl, hq⟩ | ⟨rfl, hq⟩
  · have hg := am_Fr_get hl h1 (Nat.le_of_ble_eq_true rfl)
    rcases hq with rfl | ⟨f, rfl, rfl⟩
    · exact lv_iload hx hb hd hg (kk ls hl)
    · exact lv_iload_n hx hb hd rfl hg (kk ls hl)
  · have hg := am_Fr_get hl h1 (Nat.le_of_ble_eq_true rfl)
    rcases hq with rfl | ⟨f, rfl, rfl⟩
    · exact lv_lload hx hb hd hg (kk ls hl)
    · exact lv_lload_n hx hb hd rfl hg (kk ls hl)
  · have hg := am_Fr_get hl h1 (Nat.le_of_ble_eq_true rfl)
    by_cases hx0 : x = 0
    · have ev : am_val ad (2, x) = .null := by show (if x = 0 then Value.null else _) = _; rw [if_pos hx0]
      have kk' := kk ls hl
      rw [List.map_cons, ev] at kk'
      rw [ev] at hg
      rcases hq with rfl | ⟨f, rfl, rfl⟩
      · exact lv_aloadN hx hb hd hg kk'
      · exact lv_aload_nN hx hb hd rfl hg kk'
    · have ev : am_val ad (2, x) = .ref (ad x) := by show (if x = 0 then Value.null else _) = _; rw [if_neg hx0]
      have kk' := kk ls hl
      rw [List.map_cons, ev] at kk'
      rw [ev] at hg
      rcases hq with rfl | ⟨f, rfl, rfl⟩
      · exact lv_aload hx hb hd hg kk'
      · exact lv_aload_n hx hb hd rfl hg kk'
theorem am_W_store (C : am_Cx y p s m args meth c D cA) {t k : Nat} {q : Instr} (hq : (t = 0 ∧ (q = .istore k ∨ ∃ f : Fin 4, (f : Nat) = k ∧ q = .istore_n f)) ∨ (t = 1 ∧ (q = .lstore k ∨ ∃ f : Fin 4, (f : Nat) = k ∧ q = .lstore_n f)) ∨ (t = 2 ∧ (q = .astore k ∨ ∃ f : Fin 4, (f : Nat) = k ∧ q = .astore_n f))) (hd : decode (am_bc y) pc = .ok (q, am_len q)) (hp : am_sto t k la st = some (la', st')) (hl : am_Fr ad (am_ml y) ls la)
    (kk : ∀ ls', am_Fr ad (am_ml y) ls' la' → W p l e R s m args below meth c H locs cells slots Q (F0 m (pc + am_len q) ls' (st'.map (am_val ad)))) : W p l e R s m args below meth c H locs cells slots Q (F0 m pc ls (st.map (am_val ad))) := by
  obtain ⟨hx, hb, -⟩ := C
  obtain ⟨x, rfl, h2⟩ := am_sto_inv hp
  rcases hq with ⟨rfl, hq⟩ | ⟨rfl, hq⟩ | ⟨rfl, hq⟩
  · rcases h2 with ⟨h2, -, -⟩ | ⟨-, h2, rfl⟩
    · cases h2
    · rcases hq with rfl | ⟨f, rfl, rfl⟩
      · exact lv_istore hx hb hd hl.2 (by rw [← hl.1]; exact h2) rfl fun ls' h' => kk ls' (am_Fr_set (v := (0, x)) hl.1 h2 h')
      · exact lv_istore_n hx hb hd rfl hl.2 (by rw [← hl.1]; exact h2) rfl fun ls' h' => kk ls' (am_Fr_set (v := (0, x)) hl.1 h2 h')
  · rcases h2 with ⟨-, h2, rfl⟩ | ⟨h2, -, -⟩
    · rcases hq with rfl | ⟨f, rfl, rfl⟩
      · exact lv_lstore hx hb hd hl.2 (by rw [← hl.1]; exact h2) rfl fun ls' h' => kk ls' (am_Fr_setL (v := (1, x)) hl.1 (by omega) h')
      · exact lv_lstore_n hx hb hd rfl hl.2 (by rw [← hl.1]; exact h2) rfl fun ls' h' => kk ls' (am_Fr_setL (v := (1, x)) hl.1 (by omega) h')
    · exact absurd rfl h2
  · rcases h2 with ⟨h2, -, -⟩ | ⟨-, h2, rfl⟩
    · cases h2
    · have hf := fun ls' h' => kk ls' (am_Fr_set (v := (2, x)) hl.1 h2 h')
      by_cases hx0 : x = 0
      · have ev : am_val ad (2, x) = .null := by show (if x = 0 then Value.null else _) = _; rw [if_pos hx0]
        rw [List.map_cons, ev]
        rw [ev] at hf
        rcases hq with rfl | ⟨f, rfl, rfl⟩
        · exact lv_astoreN hx hb hd hl.2 (by rw [← hl.1]; exact h2) rfl hf
        · exact lv_astore_nN hx hb hd rfl hl.2 (by rw [← hl.1]; exact h2) rfl hf
      · have ev : am_val ad (2, x) = .ref (ad x) := by show (if x = 0 then Value.null else _) = _; rw [if_neg hx0]
        rw [List.map_cons, ev]
        rw [ev] at hf
        rcases hq with rfl | ⟨f, rfl, rfl⟩
        · exact lv_astore hx hb hd hl.2 (by rw [← hl.1]; exact h2) rfl hf
        · exact lv_astore_n hx hb hd rfl hl.2 (by rw [← hl.1]; exact h2) rfl hf
set_option maxHeartbeats 2000000 in
theorem am_sim_pure (C : am_Cx y p s m args meth c D cA) {q : Instr} {a : Int} (hd : decode (am_bc y) pc = .ok (q, am_len q)) (hc : am_kOk (am_nm y).cls q a) (hp : am_pure q a la st = some (la', st')) (hso : ∀ v ∈ st, am_okV n v) (hl : am_Fr ad (am_ml y) ls la)
    (kk : ∀ ls', am_Fr ad (am_ml y) ls' la' → W p l e R s m args below meth c H locs cells slots Q (F0 m (pc + am_len q) ls' (st'.map (am_val ad)))) : W p l e R s m args below meth c H locs cells slots Q (F0 m pc ls (st.map (am_val ad))) := by
  have C0 := C
  obtain ⟨hx, hb, hml, hown, hts, hK, hlocks, hname⟩ := C
  cases q
  case iconst n =>
    cases hp
    exact lv_iconst hx hb hd rfl (kk ls hl)
  case bipush n =>
    cases hp
    exact lv_bipush hx hb hd (am_i8c hc) (kk ls hl)
  case sipush n =>
    cases hp
    exact lv_sipush hx hb hd (am_i16c hc) (kk ls hl)
  case ldc k =>
    cases hp
    exact lv_ldc hx hb hown (hts _ hc.1) hd (kk ls hl)
  case ldc_w k =>
    cases hp
    exact lv_ldcw hx hb hown (hts _ hc.1) hd (kk ls hl)
  case ldc2_w k =>
    cases hp
    exact lv_ldc2 hx hb hown (hts _ hc.1) hd (kk ls hl)
  case lconst n =>
    cases hp
    exact lv_lconst hx hb hd (by first | rfl | exact (Int64.ofInt_eq_ofNat).symm) (kk ls hl)
  case aconst_null =>
    cases hp
    exact lv_null hx hb hd (kk ls hl)
  case iload k =>
    exact am_W_load C0 (Or.inl ⟨rfl, Or.inl rfl⟩) hd hp hl kk
  case istore k =>
    exact am_W_store C0 (Or.inl ⟨rfl, Or.inl rfl⟩) hd hp hl kk
  case iload_n k =>
    exact am_W_load C0 (Or.inl ⟨rfl, Or.inr ⟨k, rfl, rfl⟩⟩) hd hp hl kk
  case istore_n k =>
    exact am_W_store C0 (Or.inl ⟨rfl, Or.inr ⟨k, rfl, rfl⟩⟩) hd hp hl kk
  case lload k =>
    exact am_W_load C0 (Or.inr (Or.inl ⟨rfl, Or.inl rfl⟩)) hd hp hl kk
  case lstore k =>
    exact am_W_store C0 (Or.inr (Or.inl ⟨rfl, Or.inl rfl⟩)) hd hp hl kk
  case lload_n k =>
    exact am_W_load C0 (Or.inr (Or.inl ⟨rfl, Or.inr ⟨k, rfl, rfl⟩⟩)) hd hp hl kk
  case lstore_n k =>
    exact am_W_store C0 (Or.inr (Or.inl ⟨rfl, Or.inr ⟨k, rfl, rfl⟩⟩)) hd hp hl kk
  case aload k =>
    exact am_W_load C0 (Or.inr (Or.inr ⟨rfl, Or.inl rfl⟩)) hd hp hl kk
  case astore k =>
    exact am_W_store C0 (Or.inr (Or.inr ⟨rfl, Or.inl rfl⟩)) hd hp hl kk
  case aload_n k =>
    exact am_W_load C0 (Or.inr (Or.inr ⟨rfl, Or.inr ⟨k, rfl, rfl⟩⟩)) hd hp hl kk
  case astore_n k =>
    exact am_W_store C0 (Or.inr (Or.inr ⟨rfl, Or.inr ⟨k, rfl, rfl⟩⟩)) hd hp hl kk
  case iinc k n =>
    obtain ⟨r, h1, h2⟩ := Option.bind_eq_some_iff.mp hp
    obtain ⟨lr, sr⟩ := r
    obtain ⟨x, h3, rfl, rfl⟩ := am_ld_inv h1
    have h2 : some (am_set lr k (0, am_w32 (x + n)), st) = some (la', st') := h2
    cases h2
    obtain ⟨j, hj⟩ := List.getElem?_of_mem (am_lr_in (ad := ad) (k := 0) h3 (Nat.le_of_ble_eq_true rfl))
    rw [Nat.zero_add] at hj
    have hk := (List.getElem?_eq_some_iff.mp h3).1
    exact lv_iinc hx hb hd hl.2 hj (v := Int32.ofInt (am_w32 (x + n))) (by rw [am_ofw32, Int32.ofInt_add]) (by rw [← hl.1]; exact hk) rfl fun ls' h' => kk ls' (am_Fr_set (v := (0, am_w32 (x + n))) hl.1 hk h')
  case iadd =>
    obtain ⟨u, v, r, rfl, rfl, rfl⟩ := am_ii_inv hp
    have kk := kk ls hl
    refine lv_iadd hx hb hd ?_
    rw [← Int32.ofInt_add, ← am_ofw32]
    exact kk
  case isub =>
    obtain ⟨u, v, r, rfl, rfl, rfl⟩ := am_ii_inv hp
    have kk := kk ls hl
    refine lv_isub hx hb hd ?_
    rw [← Int32.ofInt_sub, ← am_ofw32]
    exact kk
  case imul =>
    obtain ⟨u, v, r, rfl, rfl, rfl⟩ := am_ii_inv hp
    have kk := kk ls hl
    refine lv_imul hx hb hd ?_
    rw [← Int32.ofInt_mul, ← am_ofw32]
    exact kk
  case iand =>
    obtain ⟨u, v, r, rfl, rfl, rfl⟩ := am_ii_inv hp
    have kk := kk ls hl
    have ev : am_val ad (0, am_and u v) = .int (Int32.ofInt u &&& Int32.ofInt v) := congrArg Value.int (Int32.ofInt_toInt _)
    rw [List.map_cons, ev] at kk
    exact lv_iand hx hb hd kk
  case ior =>
    obtain ⟨u, v, r, rfl, rfl, rfl⟩ := am_ii_inv hp
    have kk := kk ls hl
    have ev : am_val ad (0, am_or u v) = .int (Int32.ofInt u ||| Int32.ofInt v) := congrArg Value.int (Int32.ofInt_toInt _)
    rw [List.map_cons, ev] at kk
    exact lv_ior hx hb hd kk
  case ixor =>
    obtain ⟨u, v, r, rfl, rfl, rfl⟩ := am_ii_inv hp
    have kk := kk ls hl
    have ev : am_val ad (0, am_xor u v) = .int (Int32.ofInt u ^^^ Int32.ofInt v) := congrArg Value.int (Int32.ofInt_toInt _)
    rw [List.map_cons, ev] at kk
    exact lv_ixor hx hb hd kk
  case ishl =>
    obtain ⟨u, v, r, rfl, rfl, rfl⟩ := am_ii_inv hp
    have kk := kk ls hl
    have ev : am_val ad (0, am_shl u v) = .int (Int32.ofInt u <<< (Int32.ofInt v &&& 31)) := congrArg Value.int (Int32.ofInt_toInt _)
    rw [List.map_cons, ev] at kk
    exact lv_ishl hx hb hd kk
  case ishr =>
    obtain ⟨u, v, r, rfl, rfl, rfl⟩ := am_ii_inv hp
    have kk := kk ls hl
    have ev : am_val ad (0, am_shr u v) = .int (Int32.ofInt u >>> (Int32.ofInt v &&& 31)) := congrArg Value.int (Int32.ofInt_toInt _)
    rw [List.map_cons, ev] at kk
    exact lv_ishr hx hb hd kk
  case iushr =>
    obtain ⟨u, v, r, rfl, rfl, rfl⟩ := am_ii_inv hp
    exact lv_iushr hx hb hd (v := Int32.ofInt (am_ushr u v)) (Int32.ofInt_toInt _).symm (kk ls hl)
  case idiv =>
    obtain ⟨u, v, r, hv, rfl, rfl, rfl⟩ := am_iz_inv hp
    have kk := kk ls hl
    have hv' : ¬ Int32.ofInt v = 0 := am_neq0 (by have := hso (0, v) List.mem_cons_self; simpa [am_okV] using this) hv
    have ev : am_val ad (0, am_div u v) = .int (Int32.ofInt u / Int32.ofInt v) := congrArg Value.int (Int32.ofInt_toInt _)
    rw [List.map_cons, ev] at kk
    exact lv_idiv hx hb hd hv' kk
  case irem =>
    obtain ⟨u, v, r, hv, rfl, rfl, rfl⟩ := am_iz_inv hp
    have kk := kk ls hl
    have hv' : ¬ Int32.ofInt v = 0 := am_neq0 (by have := hso (0, v) List.mem_cons_self; simpa [am_okV] using this) hv
    have ev : am_val ad (0, am_rem u v) = .int (Int32.ofInt u - Int32.ofInt u / Int32.ofInt v * Int32.ofInt v) := congrArg Value.int (Int32.ofInt_toInt _)
    rw [List.map_cons, ev] at kk
    exact lv_irem hx hb hd hv' kk
  case ineg =>
    obtain ⟨u, r, rfl, rfl, rfl⟩ := am_un_inv hp
    have kk := kk ls hl
    refine lv_ineg hx hb hd ?_
    rw [← Int32.ofInt_neg, ← am_ofw32]
    exact kk
  case ladd =>
    obtain ⟨u, v, r, rfl, rfl, rfl⟩ := am_ll_inv hp
    have kk := kk ls hl
    refine lv_ladd hx hb hd ?_
    rw [← Int64.ofInt_add, ← am_ofw64]
    exact kk
  case lsub =>
    obtain ⟨u, v, r, rfl, rfl, rfl⟩ := am_ll_inv hp
    have kk := kk ls hl
    refine lv_lsub hx hb hd ?_
    rw [← Int64.ofInt_sub, ← am_ofw64]
    exact kk
  case lmul =>
    obtain ⟨u, v, r, rfl, rfl, rfl⟩ := am_ll_inv hp
    have kk := kk ls hl
    refine lv_lmul hx hb hd ?_
    rw [← Int64.ofInt_mul, ← am_ofw64]
    exact kk
  case ldiv =>
    obtain ⟨u, v, r, hv, rfl, rfl, rfl⟩ := am_lz_inv hp
    have kk := kk ls hl
    have hv' : ¬ Int64.ofInt v = 0 := am_lneq0 (by have := hso (1, v) List.mem_cons_self; simpa [am_okV] using this) hv
    have ev : am_val ad (1, am_ldiv u v) = .long (Int64.ofInt u / Int64.ofInt v) := congrArg Value.long (Int64.ofInt_toInt _)
    rw [List.map_cons, ev] at kk
    exact lv_ldiv hx hb hd hv' kk
  case lrem =>
    obtain ⟨u, v, r, hv, rfl, rfl, rfl⟩ := am_lz_inv hp
    have kk := kk ls hl
    have hv' : ¬ Int64.ofInt v = 0 := am_lneq0 (by have := hso (1, v) List.mem_cons_self; simpa [am_okV] using this) hv
    have ev : am_val ad (1, am_lrem u v) = .long (Int64.ofInt u - Int64.ofInt u / Int64.ofInt v * Int64.ofInt v) := congrArg Value.long (Int64.ofInt_toInt _)
    rw [List.map_cons, ev] at kk
    exact lv_lrem hx hb hd hv' kk
  case lneg =>
    obtain ⟨u, r, rfl, rfl, rfl⟩ := am_un_inv hp
    have kk := kk ls hl
    refine lv_lneg hx hb hd ?_
    rw [← Int64.ofInt_neg, ← am_ofw64]
    exact kk
  case lcmp =>
    match st, hso, hp with
    | (1, v) :: (1, u) :: r, hso, hp =>
      cases hp
      have kk := kk ls hl
      refine W.lcmp hx hb hd ?_
      rw [am_lgcmp (by have := hso (1, u) (List.mem_cons_of_mem _ List.mem_cons_self); simpa [am_okV] using this) (by have := hso (1, v) List.mem_cons_self; simpa [am_okV] using this)]
      exact kk
  case i2l =>
    obtain ⟨u, r, rfl, rfl, rfl⟩ := am_un_inv hp
    exact lv_i2l hx hb hd (am_i2l (by have := hso (0, u) List.mem_cons_self; simpa [am_okV] using this)) (kk ls hl)
  case l2i =>
    obtain ⟨u, r, rfl, rfl, rfl⟩ := am_un_inv hp
    exact lv_l2i hx hb hd am_l2i (kk ls hl)
  case i2b =>
    obtain ⟨u, r, rfl, rfl, rfl⟩ := am_un_inv hp
    exact lv_i2b hx hb hd (v := Int32.ofInt (am_i8 u)) (Int32.ofInt_toInt _).symm (kk ls hl)
  case i2c =>
    obtain ⟨u, r, rfl, rfl, rfl⟩ := am_un_inv hp
    exact lv_i2c hx hb hd (v := Int32.ofInt (am_u16 u)) (Int32.ofInt_toInt _).symm (kk ls hl)
  case dup =>
    match st, hp with
    | v :: r, hp =>
      by_cases hv : v.1 = 1
      · have hp : (if v.1 = 1 then none else some (la, v :: v :: r)) = some (la', st') := hp
        rw [if_pos hv] at hp; cases hp
      · have hp : (if v.1 = 1 then none else some (la, v :: v :: r)) = some (la', st') := hp
        rw [if_neg hv] at hp; cases hp
        exact lv_dup hx hb hd (by rw [am_cat, if_neg hv]) (kk ls hl)
  case pop =>
    match st, hp with
    | v :: r, hp =>
      by_cases hv : v.1 = 1
      · have hp : (if v.1 = 1 then none else some (la, r)) = some (la', st') := hp
        rw [if_pos hv] at hp; cases hp
      · have hp : (if v.1 = 1 then none else some (la, r)) = some (la', st') := hp
        rw [if_neg hv] at hp; cases hp
        exact lv_pop hx hb hd (by rw [am_cat, if_neg hv]) (kk ls hl)
  case dup2 =>
    match st, hp with
    | v :: r, hp =>
      by_cases hv : v.1 = 1
      · have e2 : am_pure .dup2 a la (v :: r) = some (la, v :: v :: r) := by show (if v.1 = 1 then _ else _) = _; rw [if_pos hv]
        rw [e2] at hp; cases hp
        exact lv_dup2_2 hx hb hd (by rw [am_cat, if_pos hv]) (kk ls hl)
      · match r, hp with
        | [], hp =>
          have e2 : am_pure .dup2 a la [v] = none := by show (if v.1 = 1 then _ else _) = _; rw [if_neg hv]
          rw [e2] at hp; cases hp
        | w :: r, hp =>
          by_cases hw : w.1 = 1
          · have e2 : am_pure .dup2 a la (v :: w :: r) = none := by show (if v.1 = 1 then _ else (if w.1 = 1 then _ else _)) = _; rw [if_neg hv, if_pos hw]
            rw [e2] at hp; cases hp
          · have e2 : am_pure .dup2 a la (v :: w :: r) = some (la, v :: w :: v :: w :: r) := by show (if v.1 = 1 then _ else (if w.1 = 1 then _ else _)) = _; rw [if_neg hv, if_neg hw]
            rw [e2] at hp; cases hp
            exact lv_dup2_11 hx hb hd (by rw [am_cat, if_neg hv]) (by rw [am_cat, if_neg hw]) (kk ls hl)
  all_goals (exact absurd hp (by intro h; cases h))
end AMS
