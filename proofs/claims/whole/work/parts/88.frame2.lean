/-! the frame: cells, and a run -/
theorem fx_vB : ∀ c : Fin 484, ∀ i : Fin 64, ax_isr (am_kd (c.val : Int)) (i.val : Int) = true → (if c.val < 447 then decide (ax_rv (c.val : Int) (i.val : Int) < 447) else decide (447 ≤ ax_rv (c.val : Int) (i.val : Int)) && decide (ax_rv (c.val : Int) (i.val : Int) < 484)) = true := by decide +kernel
theorem fx_lB : ∀ c : Fin 484, (am_kd (c.val : Int) = 24 → am_ln (c.val : Int) ≤ 4) ∧ (am_kd (c.val : Int) = 25 → am_ln (c.val : Int) ≤ 30) ∧ (am_kd (c.val : Int) = 26 → am_ln (c.val : Int) ≤ 8) := by decide +kernel
theorem isr_b {k : Nat} {i : Int} (h : ax_isr k i = true) : 0 ≤ i ∧ i < 64 := by
  unfold ax_isr at h
  split at h
  all_goals first
    | (cases h; done)
    | (simp only [Bool.or_eq_true, Bool.and_eq_true, decide_eq_true_eq] at h; omega)
section
variable {s : Bool} {m b : am_M} {ls st : List am_V}
theorem reg_b {c : Int} (h : reg s c = true) : c < 484 := by
  unfold reg at h
  cases s with
  | true => have : c < 447 := of_decide_eq_true h
            omega
  | false => have := Bool.and_eq_true_iff.mp (show (decide (447 ≤ c) && decide (c < 484)) = true from h)
             exact of_decide_eq_true this.2
theorem kd_nn {c : Int} {k : Nat} (h : am_kd c = k) (hk : k ≠ 99) : 0 ≤ c := by
  unfold am_kd at h
  split at h
  · assumption
  · exact absurd h.symm hk
theorem fx_v {c i : Int} (hK : ax_K m) (hr : reg s c = true) (hi : ax_isr (am_kd c) i = true) : reg s (am_rd m c i) = true := by
  have c1 := reg_b hr
  have ib := isr_b hi
  have c0 : 0 ≤ c := by
    unfold am_kd at hi
    split at hi
    · assumption
    · cases hi
  rw [hK.2 c i hi]
  have h := fx_vB ⟨c.toNat, by omega⟩ ⟨i.toNat, by omega⟩
  simp only [Int.toNat_of_nonneg c0, Int.toNat_of_nonneg ib.1] at h
  have h2 := h hi
  unfold reg at hr ⊢
  cases s with
  | true =>
    have : c < 447 := of_decide_eq_true hr
    rw [if_pos (by omega)] at h2
    exact h2
  | false =>
    have := (Bool.and_eq_true_iff.mp (show (decide (447 ≤ c) && decide (c < 484)) = true from hr)).1
    have := of_decide_eq_true this
    rw [if_neg (by omega)] at h2
    exact h2
theorem fx_l {c i : Int} (hr : reg s c = true) (h : (am_ar c 24 i || (am_ar c 25 i || am_ar c 26 i)) = true) : ax_isr (am_kd c) i = true := by
  have c1 := reg_b hr
  have key : ∀ k, am_ar c k i = true → am_kd c = k ∧ 0 ≤ i ∧ i < am_ln c := fun k hk => by
    unfold am_ar at hk
    obtain ⟨h1, h2⟩ := Bool.and_eq_true_iff.mp hk
    obtain ⟨h3, h4⟩ := Bool.and_eq_true_iff.mp h2
    exact ⟨eq_of_beq h1, of_decide_eq_true h3, of_decide_eq_true h4⟩
  rcases Bool.or_eq_true_iff.mp h with h1 | h1
  · obtain ⟨k1, i0, i1⟩ := key 24 h1
    have c0 := kd_nn k1 (by decide)
    have hl := (fx_lB ⟨c.toNat, by omega⟩).1
    simp only [Int.toNat_of_nonneg c0] at hl
    have := hl k1
    rw [k1]
    show (decide (0 ≤ i) && decide (i < 4)) = true
    rw [decide_eq_true i0, decide_eq_true (by omega)]; rfl
  · rcases Bool.or_eq_true_iff.mp h1 with h1 | h1
    · obtain ⟨k1, i0, i1⟩ := key 25 h1
      have c0 := kd_nn k1 (by decide)
      have hl := (fx_lB ⟨c.toNat, by omega⟩).2.1
      simp only [Int.toNat_of_nonneg c0] at hl
      have := hl k1
      rw [k1]
      show (decide (0 ≤ i) && decide (i < 30)) = true
      rw [decide_eq_true i0, decide_eq_true (by omega)]; rfl
    · obtain ⟨k1, i0, i1⟩ := key 26 h1
      have c0 := kd_nn k1 (by decide)
      have hl := (fx_lB ⟨c.toNat, by omega⟩).2.2
      simp only [Int.toNat_of_nonneg c0] at hl
      have := hl k1
      rw [k1]
      show (decide (0 ≤ i) && decide (i < 8)) = true
      rw [decide_eq_true i0, decide_eq_true (by omega)]; rfl
theorem mix_rd {c i : Int} (h : reg s c = true) : am_rd (mix s m b) c i = am_rd m c i := if_pos h
theorem mix_wr {c i v : Int} (h : reg s c = true) : am_wr (mix s m b) c i v = mix s (am_wr m c i v) b := by
  refine Prod.ext rfl ?_
  funext c' i'
  show (if c' = c ∧ i' = i then v else if reg s c' = true then m.2 c' i' else b.2 c' i') = (if reg s c' = true then (if c' = c ∧ i' = i then v else m.2 c' i') else b.2 c' i')
  by_cases e : c' = c ∧ i' = i
  · rw [if_pos e, if_pos (e.1 ▸ h), if_pos e]
  · rw [if_neg e, if_neg e]
theorem mix_cpy {f fp t tp n : Int} (hf : reg s f = true) (ht : reg s t = true) : am_cpy (mix s m b) f fp t tp n = mix s (am_cpy m f fp t tp n) b := by
  refine Prod.ext rfl ?_
  funext c i
  show (if c = t ∧ tp ≤ i ∧ i < tp + n then (if reg s f = true then m.2 f (fp + (i - tp)) else b.2 f (fp + (i - tp))) else if reg s c = true then m.2 c i else b.2 c i) = (if reg s c = true then (if c = t ∧ tp ≤ i ∧ i < tp + n then m.2 f (fp + (i - tp)) else m.2 c i) else b.2 c i)
  by_cases e : c = t ∧ tp ≤ i ∧ i < tp + n
  · rw [if_pos e, if_pos hf, if_pos (e.1 ▸ ht), if_pos e]
  · rw [if_neg e, if_neg e]
def ofs (s : Bool) (m n : am_M) : Prop := ∀ c i, reg s c = false ∨ am_kd c = 2 → am_rd n c i = am_rd m c i
theorem ofs_wr {c i v : Int} (h : reg s c = true) (hk : am_kd c ≠ 2) : ofs s m (am_wr m c i v) := fun c' i' hc => if_neg fun e => by
  rw [e.1, h] at hc
  rcases hc with hc | hc
  · cases hc
  · exact hk hc
theorem ofs_cpy {f fp t tp n : Int} (h : reg s t = true) (hk : am_kd t ≠ 2) : ofs s m (am_cpy m f fp t tp n) := fun c' i' hc => if_neg fun e => by
  rw [e.1, h] at hc
  rcases hc with hc | hc
  · cases hc
  · exact hk hc
theorem fx_heap {q : Instr} {x y : Int} {r : List am_V × am_M} (hK : ax_K m) (hq : fx_rq s q x y = true) (hs : rg s st) (h : am_heap q x y st m = some r) : rg s r.1 ∧ (∀ b, am_heap q x y st (mix s m b) = some (r.1, mix s r.2 b)) ∧ ofs s m r.2 := by
  unfold am_heap at h
  split at h
  all_goals first | (cases hq; done) | (cases h; done) | skip
  · -- getfield
    rename_i o st'
    split at h
    · rename_i hc
      cases h
      have ho : reg s o = true := rg_h hs rfl
      refine ⟨rg_c (fun e => ?_) (rg_t hs), fun b => ?_, fun _ _ _ => rfl⟩
      · have hq : (am_tg (am_ft x.toNat y.toNat) != 2 || ax_isr x.toNat y) = true := hq
        rw [show am_tg (am_ft x.toNat y.toNat) = 2 from e] at hq
        have hk := ax_kdB hc
        exact fx_v hK ho (by rw [hk]; exact hq)
      · show (if am_ob o x.toNat = true then some ((am_tg (am_ft x.toNat y.toNat), am_rd (mix s m b) o y) :: st', mix s m b) else none) = _
        rw [if_pos hc, mix_rd ho]
    · cases h
  · -- putfield
    rename_i v o st'
    split at h
    · rename_i hc
      cases h
      have ho : reg s o = true := rg_h (rg_t hs) rfl
      have hq : (x.toNat != 2 && !(ax_isr x.toNat y)) = true := hq
      have hk : am_kd o ≠ 2 := fun e => bne_iff_ne.mp (Bool.and_eq_true_iff.mp hq).1 ((ax_kdB (Bool.and_eq_true_iff.mp hc).1).symm.trans e)
      refine ⟨rg_t (rg_t hs), fun b => ?_, ofs_wr ho hk⟩
      show (if (am_ob o x.toNat && am_fits (am_ft x.toNat y.toNat) v) = true then some (st', am_wr (mix s m b) o y v.2) else none) = _
      rw [if_pos hc, mix_wr ho]
    · cases h
  · -- arraylength
    split at h
    · rename_i hc
      cases h
      refine ⟨rg_i (rg_t hs), fun b => ?_, fun _ _ _ => rfl⟩
      exact if_pos hc
    · cases h
  · rename_i i o st'
    split at h
    · rename_i hc
      cases h
      have ho : reg s o = true := rg_h (rg_t hs) rfl
      refine ⟨rg_i (rg_t (rg_t hs)), fun b => ?_, fun _ _ _ => rfl⟩
      show (if am_ar o 20 i = true then some ((0, am_rd (mix s m b) o i) :: st', mix s m b) else none) = _
      rw [if_pos hc, mix_rd ho]
    · cases h
  · rename_i i o st'
    split at h
    · rename_i hc
      cases h
      have ho : reg s o = true := rg_h (rg_t hs) rfl
      refine ⟨rg_l (rg_t (rg_t hs)), fun b => ?_, fun _ _ _ => rfl⟩
      show (if am_ar o 21 i = true then some ((1, am_rd (mix s m b) o i) :: st', mix s m b) else none) = _
      rw [if_pos hc, mix_rd ho]
    · cases h
  · rename_i i o st'
    split at h
    · rename_i hc
      cases h
      have ho : reg s o = true := rg_h (rg_t hs) rfl
      refine ⟨rg_i (rg_t (rg_t hs)), fun b => ?_, fun _ _ _ => rfl⟩
      show (if am_ar o 22 i = true then some ((0, am_rd (mix s m b) o i) :: st', mix s m b) else none) = _
      rw [if_pos hc, mix_rd ho]
    · cases h
  · rename_i i o st'
    split at h
    · rename_i hc
      cases h
      have ho : reg s o = true := rg_h (rg_t hs) rfl
      refine ⟨rg_i (rg_t (rg_t hs)), fun b => ?_, fun _ _ _ => rfl⟩
      show (if am_ar o 23 i = true then some ((0, am_rd (mix s m b) o i) :: st', mix s m b) else none) = _
      rw [if_pos hc, mix_rd ho]
    · cases h
  · rename_i i o st'
    split at h
    · rename_i hc
      cases h
      have ho : reg s o = true := rg_h (rg_t hs) rfl
      refine ⟨rg_c (fun _ => fx_v hK ho (fx_l ho hc)) (rg_t (rg_t hs)), fun b => ?_, fun _ _ _ => rfl⟩
      show (if (am_ar o 24 i || (am_ar o 25 i || am_ar o 26 i)) = true then some ((2, am_rd (mix s m b) o i) :: st', mix s m b) else none) = _
      rw [if_pos hc, mix_rd ho]
    · cases h
  · rename_i v i o st'
    split at h
    · rename_i hc
      cases h
      have ho : reg s o = true := rg_h (rg_t (rg_t hs)) rfl
      refine ⟨rg_t (rg_t (rg_t hs)), fun b => ?_, ofs_wr ho (by rw [ax_kdA hc]; decide)⟩
      show (if am_ar o 20 i = true then some (st', am_wr (mix s m b) o i v) else none) = _
      rw [if_pos hc, mix_wr ho]
    · cases h
  · rename_i v i o st'
    split at h
    · rename_i hc
      cases h
      have ho : reg s o = true := rg_h (rg_t (rg_t hs)) rfl
      refine ⟨rg_t (rg_t (rg_t hs)), fun b => ?_, ofs_wr ho (by rw [ax_kdA hc]; decide)⟩
      show (if am_ar o 21 i = true then some (st', am_wr (mix s m b) o i v) else none) = _
      rw [if_pos hc, mix_wr ho]
    · cases h
  · rename_i v i o st'
    split at h
    · rename_i hc
      cases h
      have ho : reg s o = true := rg_h (rg_t (rg_t hs)) rfl
      refine ⟨rg_t (rg_t (rg_t hs)), fun b => ?_, ofs_wr ho (by rw [ax_kdA hc]; decide)⟩
      show (if am_ar o 22 i = true then some (st', am_wr (mix s m b) o i (am_u16 v)) else none) = _
      rw [if_pos hc, mix_wr ho]
    · cases h
  · rename_i v i o st'
    split at h
    · rename_i hc
      cases h
      have ho : reg s o = true := rg_h (rg_t (rg_t hs)) rfl
      refine ⟨rg_t (rg_t (rg_t hs)), fun b => ?_, ofs_wr ho (by rw [ax_kdA hc]; decide)⟩
      show (if am_ar o 23 i = true then some (st', am_wr (mix s m b) o i (am_i8 v)) else none) = _
      rw [if_pos hc, mix_wr ho]
    · cases h
theorem rg_lay : ∀ l : List am_V, rg s l → rg s (am_lay l) := by
  intro l
  induction l with
  | nil => intro h; exact h
  | cons v r ih =>
    intro h
    show rg s (if v.1 = 1 then v :: am_N :: am_lay r else v :: am_lay r)
    split
    · exact rg_c (rg_h h) (rg_c rgN (ih (rg_t h)))
    · exact rg_c (rg_h h) (ih (rg_t h))
theorem rg_entry {z : Nat} {as : List am_V} (h : rg s as) : rg s (am_entry z as) := fun w hw => by
  unfold am_entry at hw
  rcases List.mem_append.mp hw with e | e
  · exact rg_lay as h w e
  · rw [(List.mem_replicate.mp e).2]; exact rgN
theorem rg_push {z : Nat} {r : Int} (hz : am_rk z ≠ 6) (h : rg s st) : rg s (am_push z r st) := by
  unfold am_push
  split
  · exact h
  · split
    · exact rg_l h
    · first
        | exact rg_i h
        | (split
           · rename_i h6; exact absurd h6 hz
           · exact rg_i h)
theorem rg_take {n : Nat} (h : rg s st) : rg s (st.take n).reverse := fun w hw => h w (List.mem_of_mem_take (List.mem_reverse.mp hw))
theorem rg_drop {n : Nat} (h : rg s st) : rg s (st.drop n) := fun w hw => h w (List.mem_of_mem_drop hw)
def fx_P (s : Bool) (g : am_X) : Prop := ∀ d y i ls st m r, fx_ok s y = true → ax_K m → rg s ls → rg s st → g d y i ls st m = some r → (∀ b, g d y i ls st (mix s m b) = some (r.1, mix s r.2 b)) ∧ ofs s m r.2 ∧ ax_K r.2
theorem ofs_tr {n o : am_M} (a : ofs s m n) (c : ofs s n o) : ofs s m o := fun x i h => (c x i h).trans (a x i h)
theorem fx_F {g : am_X} (H : fx_P s g) : fx_P s (am_F g) := by
  intro d y i ls st m r hy hK hl hs hr
  have hrow := fx_rows hy i
  have hn := (fx_rows1 hy).1
  have hrow2 := ax_rows hn i
  unfold am_F at hr
  unfold am_F
  generalize am_at y i = e at hr hrow hrow2 ⊢
  obtain ⟨k, pc, n, q, a, b, w, x⟩ := e
  match k, hr, hrow, hrow2 with
  | 0, hr, hrow, _ =>
    obtain ⟨u, h1, h2⟩ := Option.bind_eq_some_iff.mp hr
    have g1 := rg_pure hrow hl hs h1
    obtain ⟨e1, e2, e3⟩ := H _ _ _ _ _ _ _ hy hK g1.1 g1.2 h2
    exact ⟨fun b => Option.bind_eq_some_iff.mpr ⟨u, h1, e1 b⟩, e2, e3⟩
  | 1, hr, _, _ =>
    obtain ⟨u, h1, h2⟩ := Option.bind_eq_some_iff.mp hr
    obtain ⟨e1, e2, e3⟩ := H _ _ _ _ _ _ _ hy hK hl (rg_jump hs h1) h2
    exact ⟨fun b => Option.bind_eq_some_iff.mpr ⟨u, h1, e1 b⟩, e2, e3⟩
  | 2, hr, hrow, hrow2 =>
    obtain ⟨u, h1, h2⟩ := Option.bind_eq_some_iff.mp hr
    obtain ⟨g1, g2, g3⟩ := fx_heap hK hrow hs h1
    obtain ⟨e1, e2, e3⟩ := H _ _ _ _ _ _ _ hy (ax_Kheap hK hrow2 h1) hl g1 h2
    exact ⟨fun b => Option.bind_eq_some_iff.mpr ⟨(u.1, mix s u.2 b), g2 b, e1 b⟩, ofs_tr g3 e2, e3⟩
  | 3, hr, hrow, _ =>
    replace hr : am_F3 g d y i q a.toNat b.toNat ls st m = some r := hr
    have hrow : (fx_ok s a.toNat && am_rk a.toNat != 6) = true := hrow
    obtain ⟨z1, z2⟩ := Bool.and_eq_true_iff.mp hrow
    unfold am_F3 at hr
    split at hr
    · rename_i hc
      obtain ⟨u, h1, h2⟩ := Option.bind_eq_some_iff.mp hr
      obtain ⟨v, h3, h4⟩ := Option.bind_eq_some_iff.mp h2
      obtain ⟨e1, e2, e3⟩ := H _ _ _ _ _ _ _ z1 hK (rg_entry (rg_take hs)) (fun _ hw => absurd hw List.not_mem_nil) h3
      obtain ⟨e4, e5, e6⟩ := H _ _ _ _ _ _ _ hy e3 hl (rg_push (bne_iff_ne.mp z2) (rg_drop hs)) h4
      refine ⟨fun c => ?_, ofs_tr e2 e5, e6⟩
      show am_F3 g d y i q a.toNat b.toNat ls st (mix s m c) = _
      unfold am_F3
      rw [if_pos hc]
      exact Option.bind_eq_some_iff.mpr ⟨u, h1, Option.bind_eq_some_iff.mpr ⟨(v.1, mix s v.2 c), e1 c, e4 c⟩⟩
    · cases hr
  | 4, hr, _, _ =>
    replace hr : am_ret q y st m = some r := hr
    show (∀ b, am_ret q y st (mix s m b) = _) ∧ _
    unfold am_ret at hr ⊢
    split at hr
    all_goals first
      | (split at hr
         · rename_i hc
           cases hr
           exact ⟨fun b => if_pos hc, fun _ _ _ => rfl, hK⟩
         · cases hr)
      | cases hr
  | 5, hr, _, _ => exact H _ _ _ _ _ _ _ hy hK (rg_kill x ls hl) hs hr
  | 6, hr, hrow, _ => cases hrow
  | 7, hr, hrow, _ => cases hrow
  | 8, hr, hrow, _ => cases hrow
  | 9, hr, _, hrow2 =>
    replace hr : am_F9 g d y i ls st m = some r := hr
    show (∀ b, am_F9 g d y i ls st (mix s m b) = _) ∧ _
    unfold am_F9 at hr ⊢
    split at hr
    · split at hr
      · rename_i n dp t sp f st' _x hc
        have hf : reg s f = true := rg_h (rg_t (rg_t (rg_t (rg_t hs)))) rfl
        have ht : reg s t = true := rg_h (rg_t (rg_t hs)) rfl
        have kt : am_kd t = 20 := ax_kdB (Bool.and_eq_true_iff.mp (Bool.and_eq_true_iff.mp (Bool.and_eq_true_iff.mp hc).2).1).2
        obtain ⟨e1, e2, e3⟩ := H _ _ _ _ _ _ _ hy (ax_Kc hK kt) hl (rg_t (rg_t (rg_t (rg_t (rg_t hs))))) hr
        refine ⟨fun b => ?_, ofs_tr (ofs_cpy ht (by rw [kt]; decide)) e2, e3⟩
        try dsimp only
        rw [if_pos hc, mix_cpy hf ht]
        exact e1 b
      · cases hr
    · cases hr
  | 10, hr, _, _ =>
    replace hr : am_F10 g d y i a ls st m = some r := hr
    show (∀ b, am_F10 g d y i a ls st (mix s m b) = _) ∧ _
    unfold am_F10 at hr ⊢
    split at hr
    · split at hr
      · rename_i hc
        obtain ⟨e1, e2, e3⟩ := H _ _ _ _ _ _ _ hy hK hl (rg_i (rg_t (rg_t hs))) hr
        refine ⟨fun b => ?_, e2, e3⟩
        try dsimp only
        rw [if_pos hc]
        exact e1 b
      · cases hr
    · cases hr
  | 11, hr, hrow, _ => cases hrow
  | n + 12, hr, _, _ => cases hr
theorem fx_ex (f : Nat) : fx_P s (am_exec f) := by
  induction f with
  | zero => intro d y i ls st m r _ _ _ _ h; cases h
  | succ f ih => exact fx_F ih
/-- a call, whatever lies in the other cells -/
theorem fx_call {d y : Nat} {as : List am_V} {r : Int} {n : am_M} (hy : fx_ok s y = true) (hK : ax_K m) (ha : rg s as) (h : am_Call d y as m = some (r, n)) : (∀ b, am_Call d y as (mix s m b) = some (r, mix s n b)) ∧ ofs s m n ∧ ax_K n := by
  obtain ⟨f, hf⟩ := am_Ex_to h
  obtain ⟨e1, e2, e3⟩ := fx_ex f d y 0 _ _ m (r, n) hy hK (rg_entry ha) (fun _ hw => absurd hw List.not_mem_nil) hf
  exact ⟨fun b => am_Ex_of (e1 b), e2, e3⟩
end
