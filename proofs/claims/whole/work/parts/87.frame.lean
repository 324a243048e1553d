/-! THE FRAME: the developers' deeds touch and see their own cells alone, the model's its own -/
def fx_set (s : Bool) : List Nat := if s then [7, 8, 9, 20, 22, 23, 24, 25, 26, 27, 30, 31, 32, 33, 51, 99, 107, 114, 115, 116, 117, 118, 119, 120, 121, 123, 134, 172, 173, 174, 184, 185, 186, 207, 208, 209, 212, 213, 235, 242, 256, 261, 277] else [64, 65, 66, 68, 84, 85, 86, 87, 88, 89, 90, 91, 143, 144, 155, 157, 158, 159, 195, 196, 197, 221, 222, 223, 224, 225, 226, 227, 228, 229, 251, 252, 253, 254, 265, 266, 282, 283, 284, 296, 301, 304]
def fx_ok (s : Bool) (y : Nat) : Bool := (fx_set s).contains y
def fx_rq (s : Bool) (q : Instr) (a b : Int) : Bool := match q with
  | .aconst_null => s
  | .getfield _ => am_tg (am_ft a.toNat b.toNat) != 2 || ax_isr a.toNat b
  | .putfield _ => a.toNat != 2 && !(ax_isr a.toNat b)
  | .new _ => false
  | .newarray _ => false
  | .anewarray _ => false
  | .multianewarray _ _ => false
  | .aastore => false
  | .areturn => false
  | _ => true
def fx_re (s : Bool) (e : am_E) : Bool := match e with
  | (0, _, _, q, a, b, _, _) => fx_rq s q a b
  | (1, _, _, _, _, _, _, _) => true
  | (2, _, _, q, a, b, _, _) => fx_rq s q a b
  | (3, _, _, _, z, _, _, _) => fx_ok s z.toNat && am_rk z.toNat != 6
  | (4, _, _, q, a, b, _, _) => fx_rq s q a b
  | (5, _, _, _, _, _, _, _) => true
  | (9, _, _, _, _, _, _, _) => true
  | (10, _, _, _, _, _, _, _) => true
  | (99, _, _, _, _, _, _, _) => true
  | _ => false
theorem fx_rowsB : ((fx_set true).all fun y => ax_nc y && (am_prog y).all fun l => l.all (fx_re true)) = true ∧ ((fx_set false).all fun y => ax_nc y && (am_prog y).all fun l => l.all (fx_re false)) = true := by
  constructor <;> decide +kernel
theorem fx_rows1 {s : Bool} {y : Nat} (hy : fx_ok s y = true) : ax_nc y = true ∧ ((am_prog y).all fun l => l.all (fx_re s)) = true := by
  have h1 : y ∈ fx_set s := List.contains_iff_mem.mp hy
  cases s with
  | true => exact Bool.and_eq_true_iff.mp (List.all_eq_true.mp fx_rowsB.1 y h1)
  | false => exact Bool.and_eq_true_iff.mp (List.all_eq_true.mp fx_rowsB.2 y h1)
theorem fx_rows {s : Bool} {y : Nat} (hy : fx_ok s y = true) (i : Nat) : fx_re s (am_at y i) = true := by
  have h3 := (fx_rows1 hy).2
  unfold am_at
  rcases am_getD_mem (am_prog y) (i / 16) [] with h | h
  · have h4 := List.all_eq_true.mp h3 _ h
    rcases am_getD_mem ((am_prog y).getD (i / 16) []) (i % 16) am_E0 with h5 | h5
    · exact List.all_eq_true.mp h4 _ h5
    · rw [h5]; rfl
  · rw [h]; rfl
def reg (s : Bool) (c : Int) : Bool := if s then decide (c < 447) else decide (447 ≤ c) && decide (c < 484)
def rgv (s : Bool) (v : am_V) : Prop := v.1 = 2 → reg s v.2 = true
def rg (s : Bool) (l : List am_V) : Prop := ∀ v ∈ l, rgv s v
def mix (s : Bool) (m b : am_M) : am_M := (m.1, fun c i => if reg s c = true then m.2 c i else b.2 c i)
section
variable {s : Bool} {m b : am_M} {ls st : List am_V}
theorem rg_c {v : am_V} (h : rgv s v) (hs : rg s st) : rg s (v :: st) := fun w hw => by
  rcases List.mem_cons.mp hw with e | e
  · rw [e]; exact h
  · exact hs w e
theorem rg_i {x : Int} (hs : rg s st) : rg s ((0, x) :: st) := rg_c (fun h => absurd h (by decide : ¬ (0 : Nat) = 2)) hs
theorem rg_l {x : Int} (hs : rg s st) : rg s ((1, x) :: st) := rg_c (fun h => absurd h (by decide : ¬ (1 : Nat) = 2)) hs
theorem rg_t {v : am_V} (hs : rg s (v :: st)) : rg s st := fun w hw => hs w (List.mem_cons_of_mem _ hw)
theorem rg_h {v : am_V} (hs : rg s (v :: st)) : rgv s v := hs v List.mem_cons_self
theorem rgN : rgv s am_N := fun h => absurd h (by decide : ¬ (9 : Nat) = 2)
theorem rg_set {k : Nat} {v : am_V} (hl : rg s ls) (h : rgv s v) : rg s (ls.set k v) := fun w hw => by
  rcases List.mem_or_eq_of_mem_set hw with e | e
  · exact hl w e
  · rw [e]; exact h
theorem rg_clr {k : Nat} (hl : rg s ls) : rg s (am_clr ls k) := by
  unfold am_clr
  split
  · exact hl
  · split
    · split
      · exact rg_set hl rgN
      · exact hl
    · exact hl
theorem rg_kill : ∀ (x : List Nat) (ls : List am_V), rg s ls → rg s (am_kill x ls) := by
  intro x
  induction x with
  | nil => intro ls h; exact h
  | cons k x ih => intro ls h; exact ih _ (rg_set h rgN)
theorem rg_ld {t k : Nat} {r : List am_V × List am_V} (hl : rg s ls) (hs : rg s st) (h : am_ld t k ls st = some r) : rg s r.1 ∧ rg s r.2 := by
  unfold am_ld at h
  split at h
  · rename_i v hv
    split at h
    · cases h
      exact ⟨hl, rg_c (hl v (List.mem_of_getElem? hv)) hs⟩
    · cases h
  · cases h
theorem rg_sto {t k : Nat} {r : List am_V × List am_V} (hl : rg s ls) (hs : rg s st) (h : am_sto t k ls st = some r) : rg s r.1 ∧ rg s r.2 := by
  unfold am_sto at h
  split at h
  · split at h
    · split at h
      · split at h
        · cases h
          exact ⟨rg_set (rg_set (rg_clr hl) (rg_h hs)) rgN, rg_t hs⟩
        · cases h
      · split at h
        · cases h
          exact ⟨rg_set (rg_clr hl) (rg_h hs), rg_t hs⟩
        · cases h
    · cases h
  · cases h
theorem rg_ii {f : Int → Int → Int} {r : List am_V × List am_V} (hl : rg s ls) (hs : rg s st) (h : am_ii f ls st = some r) : rg s r.1 ∧ rg s r.2 := by
  unfold am_ii at h
  split at h
  · cases h
    exact ⟨hl, rg_i (rg_t (rg_t hs))⟩
  · cases h
theorem rg_iz {f : Int → Int → Int} {r : List am_V × List am_V} (hl : rg s ls) (hs : rg s st) (h : am_iz f ls st = some r) : rg s r.1 ∧ rg s r.2 := by
  unfold am_iz at h
  split at h
  · split at h
    · cases h
    · cases h
      exact ⟨hl, rg_i (rg_t (rg_t hs))⟩
  · cases h
theorem rg_ll {f : Int → Int → Int} {r : List am_V × List am_V} (hl : rg s ls) (hs : rg s st) (h : am_ll f ls st = some r) : rg s r.1 ∧ rg s r.2 := by
  unfold am_ll at h
  split at h
  · cases h
    exact ⟨hl, rg_l (rg_t (rg_t hs))⟩
  · cases h
theorem rg_lz {f : Int → Int → Int} {r : List am_V × List am_V} (hl : rg s ls) (hs : rg s st) (h : am_lz f ls st = some r) : rg s r.1 ∧ rg s r.2 := by
  unfold am_lz at h
  split at h
  · split at h
    · cases h
    · cases h
      exact ⟨hl, rg_l (rg_t (rg_t hs))⟩
  · cases h
theorem rg_un {t u : Nat} {f : Int → Int} {r : List am_V × List am_V} (hu : u ≠ 2) (hl : rg s ls) (hs : rg s st) (h : am_un t u f ls st = some r) : rg s r.1 ∧ rg s r.2 := by
  unfold am_un at h
  split at h
  · split at h
    · cases h
      exact ⟨hl, rg_c (fun e => absurd e hu) (rg_t hs)⟩
    · cases h
  · cases h
theorem rg_pure {q : Instr} {a b : Int} {r : List am_V × List am_V} (hq : fx_rq s q a b = true) (hl : rg s ls) (hs : rg s st) (h : am_pure q a ls st = some r) : rg s r.1 ∧ rg s r.2 := by
  unfold am_pure at h
  split at h
  all_goals first
    | (cases h; exact ⟨hl, rg_i hs⟩)
    | (cases h; exact ⟨hl, rg_l hs⟩)
    | (cases h; refine ⟨hl, rg_c (fun _ => ?_) hs⟩; (have hq : s = true := hq); rw [hq]; rfl)
    | exact rg_ld hl hs h
    | exact rg_sto hl hs h
    | exact rg_ii hl hs h
    | exact rg_iz hl hs h
    | exact rg_ll hl hs h
    | exact rg_lz hl hs h
    | exact rg_un (by decide) hl hs h
    | (cases h; done)
    | skip
  · obtain ⟨u, h1, h2⟩ := Option.bind_eq_some_iff.mp h
    split at h2
    · cases h2
      exact ⟨rg_set (rg_clr hl) (fun e => absurd e (by decide : ¬ (0 : Nat) = 2)), hs⟩
    · cases h2
  · split at h
    · cases h
      exact ⟨hl, rg_i (rg_t (rg_t hs))⟩
    · cases h
  · split at h
    · split at h
      · cases h
      · cases h
        exact ⟨hl, rg_c (rg_h hs) hs⟩
    · cases h
  · split at h
    · split at h
      · cases h
      · cases h
        exact ⟨hl, rg_t hs⟩
    · cases h
  · split at h
    · split at h
      · cases h
        exact ⟨hl, rg_c (rg_h hs) hs⟩
      · split at h
        · split at h
          · cases h
          · cases h
            have h1 := rg_h hs
            have h2 := rg_h (rg_t hs)
            exact ⟨hl, rg_c h1 (rg_c h2 hs)⟩
        · cases h
    · cases h
theorem rg_jump {q : Instr} {h' : Nat} {x : List Nat} {i : Nat} {r : Nat × List am_V} (hs : rg s st) (h : am_jump q h' x i st = some r) : rg s r.2 := by
  unfold am_jump at h
  split at h
  all_goals first
    | (cases h; exact hs)
    | (cases h; exact rg_t hs)
    | (cases h; exact rg_t (rg_t hs))
    | (cases h; done)
end
