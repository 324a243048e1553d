/-! THE SIMULATION: what the abstract machine does, the real one does -/
def am_h2Ok (y : Nat) (q : Instr) (a b : Int) : Prop := match q with
  | .new idx => am_nOk (am_nm y).cls idx a
  | .newarray t => am_aOk t a
  | .anewarray idx => am_qOk (am_nm y).cls idx a
  | .multianewarray idx dims => dims = 2 ∧ am_mOk (am_nm y).cls idx
  | _ => am_hOk y q a b
/-- what the tables say of the row i of the method y -/
def am_eOk (y i : Nat) : Prop := match am_at y i with
  | (0, pc, _, q, a, _, _, _) => decode (am_bc y) pc = .ok (q, am_len q) ∧ am_pc y (i + 1) = pc + am_len q ∧ am_kOk (am_nm y).cls q a
  | (1, pc, n, q, _, _, h, x) => decode (am_bc y) pc = .ok (q, n) ∧ am_jOk y pc n q h x (i + 1)
  | (2, pc, _, q, a, b, _, _) => decode (am_bc y) pc = .ok (q, am_len q) ∧ am_pc y (i + 1) = pc + am_len q ∧ am_h2Ok y q a b
  | (3, pc, _, q, z, n, _, _) => decode (am_bc y) pc = .ok (q, 3) ∧ am_pc y (i + 1) = pc + 3 ∧ am_zOk z.toNat ∧ am_cOk (am_nm y).cls q z.toNat n.toNat
  | (4, pc, _, q, _, _, _, _) => decode (am_bc y) pc = .ok (q, 1)
  | (5, pc, _, _, _, _, _, _) => am_pc y (i + 1) = pc
  | (6, pc, _, q, _, _, _, _) => y = am_law ∧ decode (am_bc y) pc = .ok (q, 1) ∧ am_pc y (i + 1) = pc + 1
  | (7, pc, _, q, a, _, _, _) => ∃ idx, q = .ldc idx ∧ decode (am_bc y) pc = .ok (q, 2) ∧ am_pc y (i + 1) = pc + 2 ∧ (am_nm y).cls = RX6 ∧ (a = 0 ∧ idx = 86 ∨ a = 1 ∧ idx = 94)
  | (8, pc, _, q, _, _, _, _) => ∃ idx, q = .invokespecial idx ∧ decode (am_bc y) pc = .ok (q, 3) ∧ am_pc y (i + 1) = pc + 3 ∧ am_oOk (am_nm y).cls idx
  | (9, pc, _, q, _, _, _, _) => ∃ idx, q = .invokestatic idx ∧ decode (am_bc y) pc = .ok (q, 3) ∧ am_pc y (i + 1) = pc + 3 ∧ am_yOk (am_nm y).cls idx
  | (10, pc, _, q, a, _, _, _) => ∃ idx, q = .invokestatic idx ∧ decode (am_bc y) pc = .ok (q, 3) ∧ am_pc y (i + 1) = pc + 3 ∧ am_xOk (am_nm y).cls idx a
  | (11, pc, _, q, a, _, _, _) => decode (am_bc y) pc = .ok (q, am_len q) ∧ am_pc y (i + 1) = pc + am_len q ∧ am_rOk (am_nm y).cls q a
  | _ => True
def am_neg (μ μ' : am_M) : Prop := ∀ c : Int, c ≤ 0 → ∀ j, am_rd μ' c j = am_rd μ c j
theorem am_neg.trans {a b c : am_M} (h1 : am_neg a b) (h2 : am_neg b c) : am_neg a c := fun x hx j => (h2 x hx j).trans (h1 x hx j)
theorem am_neg_wr {μ : am_M} {o i v : Int} (h : 1 ≤ o) : am_neg μ (am_wr μ o i v) := fun c hc j => am_wr_ne (by omega)
theorem am_heap_neg {q : Instr} {a b : Int} {st st' : List am_V} {μ μ' : am_M} (hp : am_heap q a b st μ = some (st', μ')) (hn : 1 ≤ μ.1) (hc : ∀ k, q = .putfield k → a.toNat < 12) : am_neg μ μ' := by
  unfold am_heap at hp
  split at hp
  · split at hp <;> cases hp; exact fun _ _ _ => rfl
  · split at hp
    · rename_i ho
      rw [Bool.and_eq_true] at ho
      cases hp
      have := am_ob_iff.mp ho.1
      have := hc _ rfl
      exact am_neg_wr (am_kd_pos (by omega))
    · cases hp
  · split at hp <;> cases hp; exact fun _ _ _ => rfl
  · split at hp <;> cases hp; exact fun _ _ _ => rfl
  · split at hp <;> cases hp; exact fun _ _ _ => rfl
  · split at hp <;> cases hp; exact fun _ _ _ => rfl
  · split at hp <;> cases hp; exact fun _ _ _ => rfl
  · split at hp <;> cases hp; exact fun _ _ _ => rfl
  · split at hp
    · rename_i ho; cases hp; have := (am_ar_iff.mp ho).1; exact am_neg_wr (am_kd_pos (by omega))
    · cases hp
  · split at hp
    · rename_i ho; cases hp; have := (am_ar_iff.mp ho).1; exact am_neg_wr (am_kd_pos (by omega))
    · cases hp
  · split at hp
    · rename_i ho; cases hp; have := (am_ar_iff.mp ho).1; exact am_neg_wr (am_kd_pos (by omega))
    · cases hp
  · split at hp
    · rename_i ho; cases hp; have := (am_ar_iff.mp ho).1; exact am_neg_wr (am_kd_pos (by omega))
    · cases hp
  · split at hp
    · rename_i ho
      cases hp
      simp only [Bool.or_eq_true, Bool.and_eq_true] at ho
      rcases ho with ⟨e, -⟩ | ⟨e, -⟩ <;> have := (am_ar_iff.mp e).1 <;> exact am_neg_wr (am_kd_pos (by omega))
    · cases hp
  · split at hp <;> cases hp; exact fun c hc j => am_al_rd (by omega)
  · split at hp <;> cases hp; exact fun c hc j => am_al_rd (by omega)
  · split at hp <;> cases hp; exact fun c hc j => am_al_rd (by omega)
  · split at hp <;> cases hp; exact fun c hc j => am_mna_lo (by omega)
  · cases hp
def am_okR (n y : Nat) (r : Int) : Prop := ¬ am_rk y = 6 → if am_rk y = 5 then am_okV n (1, r) else am_okV n (0, r)
theorem am_ret_ok {q : Instr} {y : Nat} {st : List am_V} {μ μ' : am_M} {r : Int} (h : am_ret q y st μ = some (r, μ')) (h2 : am_okL μ.1 st) : μ' = μ ∧ am_okR μ.1 y r := by
  unfold am_ret at h
  split at h
  · split at h
    · rename_i hk
      cases h
      refine ⟨rfl, fun _ => ?_⟩
      rw [if_neg (by omega)]
      exact am_okV_i.mpr (by omega)
    · cases h
  · rename_i v
    split at h
    · rename_i hk
      cases h
      refine ⟨rfl, fun _ => ?_⟩
      have : ¬ am_rk y = 5 := by
        intro h5
        unfold am_rok at hk
        rw [h5] at hk
        simp at hk
      rw [if_neg this]
      exact (am_okL_cons.mp h2).1
    · cases h
  · split at h
    · rename_i hk
      cases h
      refine ⟨rfl, fun _ => ?_⟩
      rw [if_pos hk]
      exact (am_okL_cons.mp h2).1
    · cases h
  · split at h
    · rename_i hk
      cases h
      exact ⟨rfl, fun z => absurd hk z⟩
    · cases h
  · cases h
theorem am_hOk_of {y : Nat} {q : Instr} {a b : Int} (h : am_h2Ok y q a b) : am_hOk y q a b := by
  cases q <;> first | exact h | trivial
theorem am_hOk_put {y : Nat} {q : Instr} {a b : Int} (h : am_hOk y q a b) (k : Nat) (hq : q = .putfield k) : a.toNat < 12 := by
  subst hq
  obtain ⟨⟨C, T, N, h1, -⟩, -⟩ := h
  exact (am_cls h1).1
theorem am_okL_sub {n : Nat} {l l' : List am_V} (h : am_okL n l) (hs : ∀ v ∈ l', v ∈ l) : am_okL n l' := fun v hv => h v (hs v hv)
theorem am_okL_push {n z : Nat} {r : Int} {st : List am_V} (hz : am_zOk z) (hr : am_okR n z r) (h : am_okL n st) : am_okL n (am_push z r st) := by
  have h6 : ¬ am_rk z = 6 := by rcases hz.2.2.2.2.2.2 with ⟨h, -⟩ | ⟨h, -⟩ | ⟨h, -⟩ | ⟨h, -⟩ | ⟨h, -⟩ | ⟨h, -⟩ <;> omega
  have hr := hr h6
  unfold am_push
  by_cases h0 : am_rk z = 0
  · rw [if_pos h0]; exact h
  · rw [if_neg h0]
    by_cases h5 : am_rk z = 5
    · rw [if_pos h5]; rw [if_pos h5] at hr; exact am_okL_cons.mpr ⟨hr, h⟩
    · rw [if_neg h5, if_neg h6]; rw [if_neg h5] at hr; exact am_okL_cons.mpr ⟨hr, h⟩
/-- what an execution leaves alone -/
def am_after (y : Nat) (μ : am_M) (r : Int) (μ' : am_M) : Prop := am_okM μ' ∧ am_okR μ'.1 y r ∧ μ.1 ≤ μ'.1 ∧ am_neg μ μ'
theorem am_after.of {y : Nat} {μ μ1 μ' : am_M} {r : Int} (h1 : μ.1 ≤ μ1.1) (h2 : am_neg μ μ1) (h : am_after y μ1 r μ') : am_after y μ r μ' := ⟨h.1, h.2.1, Nat.le_trans h1 h.2.2.1, h2.trans h.2.2.2⟩
theorem am_okN.neg {μ μ' : am_M} (h : am_okN μ) (hn : am_neg μ μ') : am_okN μ' := fun c hc j => by rw [hn c hc j]; exact h c hc j
theorem am_neg_cpy {μ : am_M} {s sp t dp n : Int} (h : am_kd t = 20) : am_neg μ (am_cpy μ s sp t dp n) := fun c hc j => by
  show (if c = t ∧ _ then _ else _) = _
  have := am_kd_pos (o := t) (by omega)
  rw [if_neg (by omega)]; rfl
theorem am_neg_rf {μ : am_M} : am_neg μ μ := fun _ _ _ => rfl
theorem am_exec_ok (hE : ∀ y i, am_eOk y i) : ∀ (f d y i : Nat) (la st : List am_V) (μ : am_M) (r : Int) (μ' : am_M), am_exec f d y i la st μ = some (r, μ') → am_okL μ.1 la → am_okL μ.1 st → am_okM μ → am_okN μ → am_after y μ r μ' := by
  intro f
  induction f with
  | zero => intro d y i la st μ r μ' h; cases h
  | succ f ih =>
    intro d y i la st μ r μ' h hl hs hM hN
    have hn := hM.1
    have he := hE y i
    have h : am_F (am_exec f) d y i la st μ = some (r, μ') := h
    unfold am_F at h
    unfold am_eOk at he
    generalize am_at y i = e at h he
    obtain ⟨k, pc, n, q, a, b, w, x⟩ := e
    match k, h, he with
    | 0, h, he =>
      obtain ⟨u, h1, h2⟩ := Option.bind_eq_some_iff.mp h
      obtain ⟨g1, g2⟩ := am_pure_ok (la' := u.1) (st' := u.2) h1 he.2.2 hn hl hs
      exact ih _ _ _ _ _ _ _ _ h2 g1 g2 hM hN
    | 1, h, he =>
      obtain ⟨u, h1, h2⟩ := Option.bind_eq_some_iff.mp h
      exact ih _ _ _ _ _ _ _ _ h2 hl (am_jump_ok (t := u.1) (st' := u.2) h1 hs) hM hN
    | 2, h, he =>
      obtain ⟨u, h1, h2⟩ := Option.bind_eq_some_iff.mp h
      have hok := am_hOk_of he.2.2
      obtain ⟨g1, g2, g3⟩ := am_heap_ok (st' := u.1) (μ' := u.2) h1 hok hM hs
      have g4 := am_heap_neg (st' := u.1) (μ' := u.2) h1 hn (am_hOk_put hok)
      exact (ih _ _ _ _ _ _ _ _ h2 (am_okL_le hl g3) g2 g1 (hN.neg g4)).of g3 g4
    | 3, h, he =>
      have h : am_F3 (am_exec f) d y i q a.toNat b.toNat la st μ = some (r, μ') := h
      unfold am_F3 at h
      split at h
      · rename_i hc
        obtain ⟨d', h1, h2⟩ := Option.bind_eq_some_iff.mp h
        obtain ⟨u, h3, h4⟩ := Option.bind_eq_some_iff.mp h2
        have hargs : am_okL μ.1 (st.take b.toNat).reverse := am_okL_sub hs fun v hv => List.mem_of_mem_take (List.mem_reverse.mp hv)
        have g := ih _ _ _ _ _ _ _ _ (show am_exec f d' a.toNat 0 _ _ μ = some (u.1, u.2) from h3) (am_okL_entry hn hargs) (fun v hv => by cases hv) hM hN
        obtain ⟨g1, g2, g3, g4⟩ := g
        exact (ih _ _ _ _ _ _ _ _ h4 (am_okL_le hl g3) (am_okL_push he.2.2.1 g2 (am_okL_le (am_okL_sub hs fun v hv => List.mem_of_mem_drop hv) g3)) g1 (hN.neg g4)).of g3 g4
      · cases h
    | 4, h, he =>
      obtain ⟨rfl, g⟩ := am_ret_ok h hs
      exact ⟨hM, g, Nat.le_refl _, am_neg_rf⟩
    | 5, h, he => exact ih _ _ _ _ _ _ _ _ h (am_okL_kill hn x hl) hs hM hN
    | 6, h, he =>
      have h : am_F6 (am_exec f) d y i q la st μ = some (r, μ') := h
      unfold am_F6 at h
      split at h
      · split at h
        · exact ih _ _ _ _ _ _ _ _ h hl (am_okL_cons.mpr ⟨am_okV_i.mpr (hN (-4) (by decide) 0), (am_okL_cons.mp hs).2⟩) hM hN
        · cases h
      · split at h
        · exact ih _ _ _ _ _ _ _ _ h hl (am_okL_cons.mpr ⟨am_okV_i.mpr (hN (-1) (by decide) _), (am_okL_cons.mp (am_okL_cons.mp hs).2).2⟩) hM hN
        · cases h
      · cases h
    | 7, h, he =>
      obtain ⟨idx, -, -, -, -, ha⟩ := he
      exact ih _ _ _ _ _ _ _ _ h hl (am_okL_cons.mpr ⟨am_okV_a.mpr (by omega), hs⟩) hM hN
    | 8, h, he =>
      have h : am_F8 (am_exec f) d y i la st μ = some (r, μ') := h
      unfold am_F8 at h
      split at h
      · split at h
        · exact ih _ _ _ _ _ _ _ _ h hl (am_okL_cons.mp hs).2 hM hN
        · cases h
      · cases h
    | 9, h, he =>
      have h : am_F9 (am_exec f) d y i la st μ = some (r, μ') := h
      unfold am_F9 at h
      split at h
      · split at h
        · rename_i hc
          simp only [Bool.and_eq_true, decide_eq_true_eq] at hc
          obtain ⟨-, ⟨c1, c2⟩, c3, c4, c5, -⟩ := hc
          have s1 := (am_okL_cons.mp hs).2
          have s2 := (am_okL_cons.mp s1).2
          have s3 := (am_okL_cons.mp s2).2
          have s4 := (am_okL_cons.mp s3).2
          obtain ⟨s5, s6⟩ := am_okL_cons.mp s4
          have k1 := am_ob_iff.mp c1
          have k2 := am_ob_iff.mp c2
          have g := ih _ _ _ _ _ _ _ _ h hl s6 (am_okM_cpy hM k1 k2 c4 c5 (am_okV_a.mp s5).2) (hN.neg (am_neg_cpy k2))
          exact ⟨g.1, g.2.1, g.2.2.1, (am_neg_cpy k2).trans g.2.2.2⟩
        · cases h
      · cases h
    | 10, h, he =>
      have h : am_F10 (am_exec f) d y i a la st μ = some (r, μ') := h
      unfold am_F10 at h
      split at h
      · split at h
        · obtain ⟨g1, g2⟩ := am_okL_cons.mp hs
          obtain ⟨g3, g4⟩ := am_okL_cons.mp g2
          have g1 := am_okV_i.mp g1
          have g3 := am_okV_i.mp g3
          exact ih _ _ _ _ _ _ _ _ h hl (am_okL_cons.mpr ⟨am_okV_i.mpr (by split <;> omega), g4⟩) hM hN
        · cases h
      · cases h
    | 11, h, he =>
      obtain ⟨u, h1, h2⟩ := Option.bind_eq_some_iff.mp h
      exact ih _ _ _ _ _ _ _ _ h2 hl (am_ro_ok hn h1 hs) hM hN
    | n + 12, h, he => cases h
