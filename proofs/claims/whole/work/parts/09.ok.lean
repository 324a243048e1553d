/-! numbers stay what their tags say -/
def am_okL (n : Nat) (l : List am_V) : Prop := ∀ v ∈ l, am_okV n v
theorem am_okV_i {n : Nat} {x : Int} : am_okV n (0, x) ↔ -2147483648 ≤ x ∧ x < 2147483648 := Iff.rfl
theorem am_okV_l {n : Nat} {x : Int} : am_okV n (1, x) ↔ -9223372036854775808 ≤ x ∧ x < 9223372036854775808 := Iff.rfl
theorem am_okV_a {n : Nat} {x : Int} : am_okV n (2, x) ↔ -16 ≤ x ∧ x < n := Iff.rfl
theorem am_okV_N {n : Nat} (hn : 1 ≤ n) : am_okV n am_N := am_okV_a.mpr (by omega)
theorem am_okV_le {n n' : Nat} {v : am_V} (h : am_okV n v) (hn : n ≤ n') : am_okV n' v := by
  unfold am_okV at h ⊢
  split <;> rename_i h1
  · rw [if_pos h1] at h; exact h
  · rw [if_neg h1] at h
    split <;> rename_i h2
    · rw [if_pos h2] at h; exact h
    · rw [if_neg h2] at h; omega
theorem am_okL_le {n n' : Nat} {l : List am_V} (h : am_okL n l) (hn : n ≤ n') : am_okL n' l := fun v hv => am_okV_le (h v hv) hn
theorem am_okL_set {n : Nat} {l : List am_V} {k : Nat} {v : am_V} (h : am_okL n l) (hv : am_okV n v) : am_okL n (l.set k v) := fun u hu => by
  rcases List.mem_or_eq_of_mem_set hu with h1 | h1
  · exact h u h1
  · exact h1 ▸ hv
theorem am_okL_clr {n : Nat} {l : List am_V} {k : Nat} (hn : 1 ≤ n) (h : am_okL n l) : am_okL n (am_clr l k) := by
  match k with
  | 0 => exact h
  | k + 1 =>
    rw [show am_clr l (k + 1) = (match l[k]? with | some v => if v.1 = 1 then l.set k am_N else l | none => l) from rfl]
    cases l[k]? with
    | none => exact h
    | some v => dsimp only; split; exact am_okL_set h (am_okV_N hn); exact h
theorem am_okL_kill {n : Nat} (hn : 1 ≤ n) (x : List Nat) {l : List am_V} (h : am_okL n l) : am_okL n (am_kill x l) := by
  induction x generalizing l with
  | nil => exact h
  | cons k x ih => exact ih (am_okL_set h (am_okV_N hn))
theorem am_okL_cons {n : Nat} {v : am_V} {l : List am_V} : am_okL n (v :: l) ↔ am_okV n v ∧ am_okL n l := List.forall_mem_cons
theorem am_rI (n : Nat) (x : Int32) : am_okV n (0, x.toInt) := am_i32r x
theorem am_rL (n : Nat) (x : Int64) : am_okV n (1, x.toInt) := am_i64r x
theorem am_pure_ok {n : Nat} {own : String} {q : Instr} {a : Int} {la st la' st' : List am_V} (hp : am_pure q a la st = some (la', st')) (hc : am_kOk own q a) (hn : 1 ≤ n) (h1 : am_okL n la) (h2 : am_okL n st) : am_okL n la' ∧ am_okL n st' := by
  have ld : ∀ {t k : Nat}, am_ld t k la st = some (la', st') → am_okL n la' ∧ am_okL n st' := fun h => by
    obtain ⟨x, e1, rfl, rfl⟩ := am_ld_inv h
    exact ⟨h1, am_okL_cons.mpr ⟨h1 _ (List.mem_of_getElem? e1), h2⟩⟩
  have sto : ∀ {t k : Nat}, am_sto t k la st = some (la', st') → am_okL n la' ∧ am_okL n st' := fun h => by
    obtain ⟨x, e1, e2⟩ := am_sto_inv h
    rw [e1] at h2
    obtain ⟨h3, h4⟩ := am_okL_cons.mp h2
    rcases e2 with ⟨-, -, rfl⟩ | ⟨-, -, rfl⟩
    · exact ⟨am_okL_set (am_okL_set (am_okL_clr hn h1) h3) (am_okV_N hn), h4⟩
    · exact ⟨am_okL_set (am_okL_clr hn h1) h3, h4⟩
  have ii : ∀ {f : Int → Int → Int}, (∀ u v, am_okV n (0, f u v)) → am_ii f la st = some (la', st') → am_okL n la' ∧ am_okL n st' := fun hf h => by
    obtain ⟨u, v, r, rfl, rfl, rfl⟩ := am_ii_inv h
    exact ⟨h1, am_okL_cons.mpr ⟨hf _ _, (am_okL_cons.mp (am_okL_cons.mp h2).2).2⟩⟩
  have iz : ∀ {f : Int → Int → Int}, (∀ u v, am_okV n (0, f u v)) → am_iz f la st = some (la', st') → am_okL n la' ∧ am_okL n st' := fun hf h => by
    obtain ⟨u, v, r, -, rfl, rfl, rfl⟩ := am_iz_inv h
    exact ⟨h1, am_okL_cons.mpr ⟨hf _ _, (am_okL_cons.mp (am_okL_cons.mp h2).2).2⟩⟩
  have ll : ∀ {f : Int → Int → Int}, (∀ u v, am_okV n (1, f u v)) → am_ll f la st = some (la', st') → am_okL n la' ∧ am_okL n st' := fun hf h => by
    obtain ⟨u, v, r, rfl, rfl, rfl⟩ := am_ll_inv h
    exact ⟨h1, am_okL_cons.mpr ⟨hf _ _, (am_okL_cons.mp (am_okL_cons.mp h2).2).2⟩⟩
  have lz : ∀ {f : Int → Int → Int}, (∀ u v, am_okV n (1, f u v)) → am_lz f la st = some (la', st') → am_okL n la' ∧ am_okL n st' := fun hf h => by
    obtain ⟨u, v, r, -, rfl, rfl, rfl⟩ := am_lz_inv h
    exact ⟨h1, am_okL_cons.mpr ⟨hf _ _, (am_okL_cons.mp (am_okL_cons.mp h2).2).2⟩⟩
  have un : ∀ {t u : Nat} {f : Int → Int}, (∀ v, am_okV n (t, v) → am_okV n (u, f v)) → am_un t u f la st = some (la', st') → am_okL n la' ∧ am_okL n st' := fun hf h => by
    obtain ⟨v, r, rfl, rfl, rfl⟩ := am_un_inv h
    obtain ⟨h3, h4⟩ := am_okL_cons.mp h2
    exact ⟨h1, am_okL_cons.mpr ⟨hf _ h3, h4⟩⟩
  cases q
  case iconst k => cases hp; exact ⟨h1, am_okL_cons.mpr ⟨am_okV_i.mpr (by have hc : -128 ≤ k ∧ k < 128 := hc; omega), h2⟩⟩
  case bipush k => cases hp; exact ⟨h1, am_okL_cons.mpr ⟨am_okV_i.mpr (by have hc : -128 ≤ k ∧ k < 128 := hc; omega), h2⟩⟩
  case sipush k => cases hp; exact ⟨h1, am_okL_cons.mpr ⟨am_okV_i.mpr (by have hc : -32768 ≤ k ∧ k < 32768 := hc; omega), h2⟩⟩
  case ldc k => cases hp; exact ⟨h1, am_okL_cons.mpr ⟨am_okV_i.mpr hc.2, h2⟩⟩
  case ldc_w k => cases hp; exact ⟨h1, am_okL_cons.mpr ⟨am_okV_i.mpr hc.2, h2⟩⟩
  case ldc2_w k => cases hp; exact ⟨h1, am_okL_cons.mpr ⟨am_okV_l.mpr hc.2, h2⟩⟩
  case lconst k => cases hp; exact ⟨h1, am_okL_cons.mpr ⟨am_okV_l.mpr (by have := k.isLt; omega), h2⟩⟩
  case aconst_null => cases hp; exact ⟨h1, am_okL_cons.mpr ⟨am_okV_a.mpr (by omega), h2⟩⟩
  case iload k => exact ld hp
  case iload_n k => exact ld hp
  case lload k => exact ld hp
  case lload_n k => exact ld hp
  case aload k => exact ld hp
  case aload_n k => exact ld hp
  case istore k => exact sto hp
  case istore_n k => exact sto hp
  case lstore k => exact sto hp
  case lstore_n k => exact sto hp
  case astore k => exact sto hp
  case astore_n k => exact sto hp
  case iinc k n' =>
    obtain ⟨r, h3, h4⟩ := Option.bind_eq_some_iff.mp hp
    obtain ⟨lr, sr⟩ := r
    obtain ⟨x, h5, rfl, rfl⟩ := am_ld_inv h3
    have h4 : some (am_set lr k (0, am_w32 (x + n')), st) = some (la', st') := h4
    cases h4
    exact ⟨am_okL_set (am_okL_clr hn h1) (am_rI _ _), h2⟩
  case iadd => exact ii (fun _ _ => am_rI _ _) hp
  case isub => exact ii (fun _ _ => am_rI _ _) hp
  case imul => exact ii (fun _ _ => am_rI _ _) hp
  case iand => exact ii (fun _ _ => am_rI _ _) hp
  case ior => exact ii (fun _ _ => am_rI _ _) hp
  case ixor => exact ii (fun _ _ => am_rI _ _) hp
  case ishl => exact ii (fun _ _ => am_rI _ _) hp
  case ishr => exact ii (fun _ _ => am_rI _ _) hp
  case iushr => exact ii (fun _ _ => am_rI _ _) hp
  case idiv => exact iz (fun _ _ => am_rI _ _) hp
  case irem => exact iz (fun _ _ => am_rI _ _) hp
  case ineg => exact un (fun _ _ => am_rI _ _) hp
  case ladd => exact ll (fun _ _ => am_rL _ _) hp
  case lsub => exact ll (fun _ _ => am_rL _ _) hp
  case lmul => exact ll (fun _ _ => am_rL _ _) hp
  case ldiv => exact lz (fun _ _ => am_rL _ _) hp
  case lrem => exact lz (fun _ _ => am_rL _ _) hp
  case lneg => exact un (fun _ _ => am_rL _ _) hp
  case lcmp =>
    match st, h2, hp with
    | (1, v) :: (1, u) :: r, h2, hp =>
      cases hp
      refine ⟨h1, am_okL_cons.mpr ⟨am_okV_i.mpr ?_, (am_okL_cons.mp (am_okL_cons.mp h2).2).2⟩⟩
      unfold am_cmp
      split
      · omega
      · split <;> omega
  case i2l => exact un (fun v hv => am_okV_l.mpr (by have := am_okV_i.mp hv; omega)) hp
  case l2i => exact un (fun _ _ => am_rI _ _) hp
  case i2b => exact un (fun _ _ => am_rI _ _) hp
  case i2c => exact un (fun _ _ => am_rI _ _) hp
  case dup =>
    match st, h2, hp with
    | v :: r, h2, hp =>
      by_cases hv : v.1 = 1
      · have e2 : am_pure .dup a la (v :: r) = none := by show (if v.1 = 1 then _ else _) = _; rw [if_pos hv]
        rw [e2] at hp; cases hp
      · have e2 : am_pure .dup a la (v :: r) = some (la, v :: v :: r) := by show (if v.1 = 1 then _ else _) = _; rw [if_neg hv]
        rw [e2] at hp; cases hp
        exact ⟨h1, am_okL_cons.mpr ⟨(am_okL_cons.mp h2).1, h2⟩⟩
  case pop =>
    match st, h2, hp with
    | v :: r, h2, hp =>
      by_cases hv : v.1 = 1
      · have e2 : am_pure .pop a la (v :: r) = none := by show (if v.1 = 1 then _ else _) = _; rw [if_pos hv]
        rw [e2] at hp; cases hp
      · have e2 : am_pure .pop a la (v :: r) = some (la, r) := by show (if v.1 = 1 then _ else _) = _; rw [if_neg hv]
        rw [e2] at hp; cases hp
        exact ⟨h1, (am_okL_cons.mp h2).2⟩
  case dup2 =>
    match st, h2, hp with
    | v :: r, h2, hp =>
      by_cases hv : v.1 = 1
      · have e2 : am_pure .dup2 a la (v :: r) = some (la, v :: v :: r) := by show (if v.1 = 1 then _ else _) = _; rw [if_pos hv]
        rw [e2] at hp; cases hp
        exact ⟨h1, am_okL_cons.mpr ⟨(am_okL_cons.mp h2).1, h2⟩⟩
      · match r, h2, hp with
        | [], h2, hp =>
          have e2 : am_pure .dup2 a la [v] = none := by show (if v.1 = 1 then _ else _) = _; rw [if_neg hv]
          rw [e2] at hp; cases hp
        | w :: r, h2, hp =>
          by_cases hw : w.1 = 1
          · have e2 : am_pure .dup2 a la (v :: w :: r) = none := by show (if v.1 = 1 then _ else (if w.1 = 1 then _ else _)) = _; rw [if_neg hv, if_pos hw]
            rw [e2] at hp; cases hp
          · have e2 : am_pure .dup2 a la (v :: w :: r) = some (la, v :: w :: v :: w :: r) := by show (if v.1 = 1 then _ else (if w.1 = 1 then _ else _)) = _; rw [if_neg hv, if_neg hw]
            rw [e2] at hp; cases hp
            obtain ⟨g1, g2⟩ := am_okL_cons.mp h2
            exact ⟨h1, am_okL_cons.mpr ⟨g1, am_okL_cons.mpr ⟨(am_okL_cons.mp g2).1, h2⟩⟩⟩
  all_goals (exact absurd hp (by intro h; cases h))
theorem am_jump_ok {n : Nat} {q : Instr} {h i t : Nat} {x : List Nat} {st st' : List am_V} (hp : am_jump q h x i st = some (t, st')) (h2 : am_okL n st) : am_okL n st' := by
  unfold am_jump at hp
  split at hp <;> first
    | (cases hp; exact h2)
    | (cases hp; exact (am_okL_cons.mp h2).2)
    | (cases hp; exact (am_okL_cons.mp (am_okL_cons.mp h2).2).2)
    | (cases hp; done)
theorem am_ln_lo (c : Int) : 0 ≤ am_ln c ∧ am_ln c < 10000 := by
  have key : ∀ s ∈ am_shapes, ∀ u ∈ s, u.2 < 10000 := by decide +kernel
  have gd : ∀ (α : Type) (l : List α) (k : Nat) (d : α), l.getD k d ∈ l ∨ l.getD k d = d := fun α l k d => by
    rw [List.getD_eq_getElem?_getD]
    cases h : l[k]? with
    | none => exact Or.inr rfl
    | some v => exact Or.inl (List.mem_of_getElem? h)
  have hs : (am_shape c.toNat).2 < 10000 := by
    unfold am_shape
    rcases gd _ am_shapes (c.toNat / 16) [] with h | h
    · rcases gd _ (am_shapes.getD (c.toNat / 16) []) (c.toNat % 16) (99, 0) with h2 | h2
      · exact key _ h _ h2
      · rw [h2]; decide
    · rw [h]; show (0 : Nat) < 10000; decide
  unfold am_ln
  split <;> omega
theorem am_ln_ok (c : Int) : 0 ≤ am_ln c ∧ am_ln c < 2147483648 := ⟨(am_ln_lo c).1, by have := (am_ln_lo c).2; omega⟩
theorem am_okM_wr {μ : am_M} {o i v : Int} (h : am_okM μ) (hv : 1 ≤ o → am_okV μ.1 (am_ctg o i, v)) : am_okM (am_wr μ o i v) := by
  refine ⟨h.1, fun c j h1 h2 h3 => ?_⟩
  by_cases e : c = o ∧ j = i
  · obtain ⟨rfl, rfl⟩ := e
    rw [am_wr_same]
    exact hv h1
  · rw [am_wr_ne e]
    exact h.2 c j h1 h2 h3
theorem am_okV_0 {n t : Nat} (hn : 1 ≤ n) : am_okV n (t, 0) := by
  unfold am_okV
  split
  · show (-2147483648 : Int) ≤ 0 ∧ (0 : Int) < 2147483648; decide
  · split
    · show (-9223372036854775808 : Int) ≤ 0 ∧ (0 : Int) < 9223372036854775808; decide
    · dsimp only; omega
theorem am_okM_al {μ : am_M} (h : am_okM μ) : am_okM (am_al μ) := by
  refine ⟨by show 1 ≤ μ.1 + 1; omega, fun c j h1 h2 h3 => ?_⟩
  have h2 : c < ((μ.1 + 1 : Nat) : Int) := h2
  show am_okV (μ.1 + 1) (am_ctg c j, if c = (μ.1 : Int) then 0 else am_rd μ c j)
  by_cases e : c = (μ.1 : Int)
  · rw [if_pos e]; exact am_okV_0 (by omega)
  · rw [if_neg e]; exact am_okV_le (h.2 c j h1 (by omega) h3) (by omega)
theorem am_okM_mna {μ : am_M} {n : Nat} (h : am_okM μ) (hk : am_kd μ.1 = 26) : am_okM (am_mna μ n) := by
  have hm := h.1
  refine ⟨by show 1 ≤ μ.1 + 1 + n; omega, fun c j h1 h2 h3 => ?_⟩
  have h2 : c < ((μ.1 + 1 + n : Nat) : Int) := h2
  show am_okV (μ.1 + 1 + n) (am_ctg c j, if c = (μ.1 : Int) then (if 0 ≤ j ∧ j < (n : Int) then (μ.1 : Int) + 1 + j else 0) else if (μ.1 : Int) < c ∧ c < ((μ.1 + 1 + n : Nat) : Int) then 0 else am_rd μ c j)
  by_cases e : c = (μ.1 : Int)
  · rw [if_pos e]
    have e1 : am_ctg c j = 2 := by rw [e]; unfold am_ctg; rw [hk]; rfl
    rw [e1]
    apply am_okV_a.mpr
    split <;> omega
  · rw [if_neg e]
    by_cases e2 : (μ.1 : Int) < c ∧ c < ((μ.1 + 1 + n : Nat) : Int)
    · rw [if_pos e2]; exact am_okV_0 (by omega)
    · rw [if_neg e2]; exact am_okV_le (h.2 c j h1 (by omega) h3) (by omega)
theorem am_okM_cpy {μ : am_M} {s sp d dp n : Int} (h : am_okM μ) (hs : am_kd s = 20) (hd : am_kd d = 20) (h1 : 0 ≤ sp) (h2 : 0 ≤ dp) (hs2 : s < μ.1) : am_okM (am_cpy μ s sp d dp n) := by
  refine ⟨h.1, fun c j g1 g2 g3 => ?_⟩
  show am_okV μ.1 (am_ctg c j, if c = d ∧ dp ≤ j ∧ j < dp + n then μ.2 s (sp + (j - dp)) else am_rd μ c j)
  by_cases e : c = d ∧ dp ≤ j ∧ j < dp + n
  · rw [if_pos e]
    have := h.2 s (sp + (j - dp)) (am_kd_pos (by omega)) hs2 (by omega)
    have e1 : am_ctg c j = 0 := by rw [e.1]; unfold am_ctg; rw [hd]; rfl
    have e2 : am_ctg s (sp + (j - dp)) = 0 := by unfold am_ctg; rw [hs]; rfl
    rw [e2] at this
    rw [e1]
    exact this
  · rw [if_neg e]; exact h.2 c j g1 g2 g3
theorem am_ctg_arr {o i : Int} {k : Nat} (h : am_kd o = k) (hk : ¬ k < 12) : am_ctg o i = if k = 21 then 1 else if 24 ≤ k then 2 else 0 := by unfold am_ctg; rw [h, if_neg hk]
theorem am_heap_ok {y : Nat} {q : Instr} {a b : Int} {st st' : List am_V} {μ μ' : am_M} (hp : am_heap q a b st μ = some (st', μ')) (hc : am_hOk y q a b) (hM : am_okM μ) (h2 : am_okL μ.1 st) : am_okM μ' ∧ am_okL μ'.1 st' ∧ μ.1 ≤ μ'.1 := by
  have rd : ∀ {o i : Int} {t : Nat}, am_ctg o i = t → ¬ am_kd o = 99 → o < μ.1 → 0 ≤ i → am_okV μ.1 (t, am_rd μ o i) := fun e k1 k2 k3 => by
    subst e; exact hM.2 _ _ (am_kd_pos k1) k2 k3
  have wr : ∀ {o i v : Int}, am_okV μ.1 (am_ctg o i, v) → am_okM (am_wr μ o i v) := fun h => am_okM_wr hM fun _ => h
  unfold am_heap at hp
  split at hp
  · rename_i idx o r
    split at hp
    · rename_i ho
      cases hp
      obtain ⟨g1, g2⟩ := am_okL_cons.mp h2
      obtain ⟨Cn, T, N, k1, k2, k3, -⟩ := hc
      have k4 := (am_cls k1).1
      have k5 := am_ob_iff.mp ho
      refine ⟨hM, am_okL_cons.mpr ⟨rd ?_ (by omega) (am_okV_a.mp g1).2 (by omega), g2⟩, Nat.le_refl _⟩
      unfold am_ctg; rw [k5, if_pos k4]
    · cases hp
  · rename_i idx v o r
    split at hp
    · rename_i ho
      rw [Bool.and_eq_true] at ho
      cases hp
      obtain ⟨g1, g2⟩ := am_okL_cons.mp h2
      obtain ⟨⟨Cn, T, N, k1, k2, k3, -⟩, -⟩ := hc
      have k4 := (am_cls k1).1
      have k5 := am_ob_iff.mp ho.1
      refine ⟨wr ?_, (am_okL_cons.mp g2).2, Nat.le_refl _⟩
      have e : am_ctg o b = v.1 := by
        unfold am_ctg; rw [k5, if_pos k4]
        have h4 := ho.2
        unfold am_fits at h4
        unfold am_tg
        by_cases h3 : am_ft a.toNat b.toNat = 3
        · rw [if_pos h3] at h4 ⊢
          simp only [Bool.and_eq_true, beq_iff_eq] at h4
          exact h4.1.symm
        · rw [if_neg h3] at h4 ⊢
          exact (by simpa using h4 : v.1 = _).symm
      rw [e]; exact g1
    · cases hp
  · split at hp
    · cases hp; exact ⟨hM, am_okL_cons.mpr ⟨am_okV_i.mpr (by have := am_ln_ok; rename_i o r _; have := am_ln_ok o; omega), (am_okL_cons.mp h2).2⟩, Nat.le_refl _⟩
    · cases hp
  · rename_i i o r
    split at hp
    · rename_i ho
      obtain ⟨e1, e2, e3⟩ := am_ar_iff.mp ho
      cases hp
      obtain ⟨-, g2⟩ := am_okL_cons.mp h2
      obtain ⟨g3, g4⟩ := am_okL_cons.mp g2
      exact ⟨hM, am_okL_cons.mpr ⟨rd (am_ctg_arr e1 (by omega)) (by omega) (am_okV_a.mp g3).2 e2, g4⟩, Nat.le_refl _⟩
    · cases hp
  · rename_i i o r
    split at hp
    · rename_i ho
      obtain ⟨e1, e2, e3⟩ := am_ar_iff.mp ho
      cases hp
      obtain ⟨-, g2⟩ := am_okL_cons.mp h2
      obtain ⟨g3, g4⟩ := am_okL_cons.mp g2
      exact ⟨hM, am_okL_cons.mpr ⟨rd (am_ctg_arr e1 (by omega)) (by omega) (am_okV_a.mp g3).2 e2, g4⟩, Nat.le_refl _⟩
    · cases hp
  · rename_i i o r
    split at hp
    · rename_i ho
      obtain ⟨e1, e2, e3⟩ := am_ar_iff.mp ho
      cases hp
      obtain ⟨-, g2⟩ := am_okL_cons.mp h2
      obtain ⟨g3, g4⟩ := am_okL_cons.mp g2
      exact ⟨hM, am_okL_cons.mpr ⟨rd (am_ctg_arr e1 (by omega)) (by omega) (am_okV_a.mp g3).2 e2, g4⟩, Nat.le_refl _⟩
    · cases hp
  · rename_i i o r
    split at hp
    · rename_i ho
      obtain ⟨e1, e2, e3⟩ := am_ar_iff.mp ho
      cases hp
      obtain ⟨-, g2⟩ := am_okL_cons.mp h2
      obtain ⟨g3, g4⟩ := am_okL_cons.mp g2
      exact ⟨hM, am_okL_cons.mpr ⟨rd (am_ctg_arr e1 (by omega)) (by omega) (am_okV_a.mp g3).2 e2, g4⟩, Nat.le_refl _⟩
    · cases hp
  · rename_i i o r
    split at hp
    · rename_i ho
      simp only [Bool.or_eq_true] at ho
      cases hp
      obtain ⟨-, g2⟩ := am_okL_cons.mp h2
      obtain ⟨g3, g4⟩ := am_okL_cons.mp g2
      have hk : (am_kd o = 24 ∨ am_kd o = 25 ∨ am_kd o = 26) ∧ 0 ≤ i := by
        rcases ho with ho | ho | ho <;> obtain ⟨e1, e2, -⟩ := am_ar_iff.mp ho
        · exact ⟨Or.inl e1, e2⟩
        · exact ⟨Or.inr (Or.inl e1), e2⟩
        · exact ⟨Or.inr (Or.inr e1), e2⟩
      have hc2 : am_ctg o i = 2 := by rcases hk.1 with e | e | e <;> exact am_ctg_arr e (by omega)
      exact ⟨hM, am_okL_cons.mpr ⟨rd hc2 (by omega) (am_okV_a.mp g3).2 hk.2, g4⟩, Nat.le_refl _⟩
    · cases hp
  · rename_i v i o r
    split at hp
    · rename_i ho
      obtain ⟨e1, e2, e3⟩ := am_ar_iff.mp ho
      cases hp
      obtain ⟨g1, g2⟩ := am_okL_cons.mp h2
      exact ⟨wr (by rw [am_ctg_arr e1 (by omega)]; exact g1), (am_okL_cons.mp (am_okL_cons.mp g2).2).2, Nat.le_refl _⟩
    · cases hp
  · rename_i v i o r
    split at hp
    · rename_i ho
      obtain ⟨e1, e2, e3⟩ := am_ar_iff.mp ho
      cases hp
      obtain ⟨g1, g2⟩ := am_okL_cons.mp h2
      exact ⟨wr (by rw [am_ctg_arr e1 (by omega)]; exact g1), (am_okL_cons.mp (am_okL_cons.mp g2).2).2, Nat.le_refl _⟩
    · cases hp
  · rename_i v i o r
    split at hp
    · rename_i ho
      obtain ⟨e1, e2, e3⟩ := am_ar_iff.mp ho
      cases hp
      obtain ⟨g1, g2⟩ := am_okL_cons.mp h2
      exact ⟨wr (by rw [am_ctg_arr e1 (by omega)]; exact am_rI _ _), (am_okL_cons.mp (am_okL_cons.mp g2).2).2, Nat.le_refl _⟩
    · cases hp
  · rename_i v i o r
    split at hp
    · rename_i ho
      obtain ⟨e1, e2, e3⟩ := am_ar_iff.mp ho
      cases hp
      obtain ⟨g1, g2⟩ := am_okL_cons.mp h2
      exact ⟨wr (by rw [am_ctg_arr e1 (by omega)]; exact am_rI _ _), (am_okL_cons.mp (am_okL_cons.mp g2).2).2, Nat.le_refl _⟩
    · cases hp
  · rename_i v i o r
    split at hp
    · rename_i ho
      simp only [Bool.or_eq_true, Bool.and_eq_true] at ho
      cases hp
      obtain ⟨g1, g2⟩ := am_okL_cons.mp h2
      have hc2 : am_ctg o i = 2 := by rcases ho with ⟨e, -⟩ | ⟨e, -⟩ <;> exact am_ctg_arr (am_ar_iff.mp e).1 (by omega)
      exact ⟨wr (by rw [hc2]; exact g1), (am_okL_cons.mp (am_okL_cons.mp g2).2).2, Nat.le_refl _⟩
    · cases hp
  · split at hp
    · cases hp; exact ⟨am_okM_al hM, am_okL_cons.mpr ⟨am_okV_a.mpr ⟨by omega, by show (μ.1 : Int) < ((μ.1 + 1 : Nat) : Int); omega⟩, am_okL_le h2 (Nat.le_succ _)⟩, Nat.le_succ _⟩
    · cases hp
  · split at hp
    · cases hp; exact ⟨am_okM_al hM, am_okL_cons.mpr ⟨am_okV_a.mpr ⟨by omega, by show (μ.1 : Int) < ((μ.1 + 1 : Nat) : Int); omega⟩, am_okL_le (am_okL_cons.mp h2).2 (Nat.le_succ _)⟩, Nat.le_succ _⟩
    · cases hp
  · split at hp
    · cases hp; exact ⟨am_okM_al hM, am_okL_cons.mpr ⟨am_okV_a.mpr ⟨by omega, by show (μ.1 : Int) < ((μ.1 + 1 : Nat) : Int); omega⟩, am_okL_le (am_okL_cons.mp h2).2 (Nat.le_succ _)⟩, Nat.le_succ _⟩
    · cases hp
  · split at hp
    · rename_i ho
      simp only [Bool.and_eq_true] at ho
      cases hp
      exact ⟨am_okM_mna hM (am_ob_iff.mp ho.1.1.1), am_okL_cons.mpr ⟨am_okV_a.mpr ⟨by omega, by show (μ.1 : Int) < ((μ.1 + 1 + _ : Nat) : Int); omega⟩, am_okL_le (am_okL_cons.mp (am_okL_cons.mp h2).2).2 (by show μ.1 ≤ μ.1 + 1 + _; omega)⟩, by show μ.1 ≤ μ.1 + 1 + _; omega⟩
    · cases hp
  · cases hp
/-- the cells that are never written hold ints -/
def am_okN (μ : am_M) : Prop := ∀ c : Int, c ≤ 0 → ∀ j, -2147483648 ≤ am_rd μ c j ∧ am_rd μ c j < 2147483648
