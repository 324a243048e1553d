/-! the script stays -/
def ng_re (e : am_E) : Bool := match e with
  | (2, _, _, q, a, b, _, _) => (match q with
    | .putfield _ => a.toNat != 99
    | _ => true) && ax_rq q a b
  | (3, _, _, _, z, _, _, _) => ax_nc z.toNat
  | _ => true
theorem ng_rowsB : ((List.range 306).all fun y => !(ax_nc y) || (am_prog y).all fun l => l.all ng_re) = true := by decide +kernel
theorem ng_rows {y : Nat} (hy : ax_nc y = true) (i : Nat) : ng_re (am_at y i) = true := by
  have h1 : y < 306 := by
    unfold ax_nc at hy
    exact Nat.le_of_ble_eq_true (Bool.and_eq_true_iff.mp hy).1
  have h2 := List.all_eq_true.mp ng_rowsB y (List.mem_range.mpr h1)
  rw [hy] at h2
  have h3 : ((am_prog y).all fun l => l.all ng_re) = true := h2
  unfold am_at
  rcases am_getD_mem (am_prog y) (i / 16) [] with h | h
  · have h4 := List.all_eq_true.mp h3 _ h
    rcases am_getD_mem ((am_prog y).getD (i / 16) []) (i % 16) am_E0 with h5 | h5
    · exact List.all_eq_true.mp h4 _ h5
    · rw [h5]; rfl
  · rw [h]; rfl
def NG (M M' : am_M) : Prop := ∀ c i, c < 0 → am_rd M' c i = am_rd M c i
theorem ng_tr {M M1 M2 : am_M} (a : NG M M1) (b : NG M1 M2) : NG M M2 := fun c i h => (b c i h).trans (a c i h)
theorem ng_wr {M : am_M} {c i v : Int} (h : 0 ≤ c) : NG M (am_wr M c i v) := fun c' i' hc => if_neg fun e => by omega
theorem ng_arr {o i : Int} {k : Nat} (h : am_ar o k i = true) (hk : k ≠ 99) : 0 ≤ o := kd_nn (ax_kdA h) hk
theorem ng_heap {q : Instr} {a b : Int} {st : List am_V} {m : am_M} {r : List am_V × am_M} (hq : ((match q with
    | .putfield _ => a.toNat != 99
    | _ => true) && ax_rq q a b) = true) (h : am_heap q a b st m = some r) : NG m r.2 := by
  unfold am_heap at h
  split at h
  all_goals first
    | (cases h; done)
    | (split at h
       · rename_i hc
         cases h
         first
           | exact fun _ _ _ => rfl
           | exact ng_wr (ng_arr hc (by decide))
           | exact ng_wr (kd_nn (ax_kdB (Bool.and_eq_true_iff.mp hc).1) (bne_iff_ne.mp (Bool.and_eq_true_iff.mp hq).1))
           | exact absurd hq (by decide)
           | cases hq
       · cases h)
def ng_P (g : am_X) : Prop := ∀ d y i ls st m r, ax_nc y = true → g d y i ls st m = some r → NG m r.2
theorem ng_F {g : am_X} (H : ng_P g) : ng_P (am_F g) := by
  intro d y i ls st m r hy hr
  have hrow := ng_rows hy i
  unfold am_F at hr
  generalize am_at y i = e at hr hrow
  obtain ⟨k, pc, n, q, a, b, w, x⟩ := e
  match k, hr, hrow with
  | 0, hr, _ => obtain ⟨u, h1, h2⟩ := Option.bind_eq_some_iff.mp hr; exact H _ _ _ _ _ _ _ hy h2
  | 1, hr, _ => obtain ⟨u, h1, h2⟩ := Option.bind_eq_some_iff.mp hr; exact H _ _ _ _ _ _ _ hy h2
  | 2, hr, hrow => obtain ⟨u, h1, h2⟩ := Option.bind_eq_some_iff.mp hr; exact ng_tr (ng_heap hrow h1) (H _ _ _ _ _ _ _ hy h2)
  | 3, hr, hrow =>
    replace hr : am_F3 g d y i q a.toNat b.toNat ls st m = some r := hr
    unfold am_F3 at hr
    split at hr
    · obtain ⟨u, h1, h2⟩ := Option.bind_eq_some_iff.mp hr
      obtain ⟨v, h3, h4⟩ := Option.bind_eq_some_iff.mp h2
      exact ng_tr (H _ _ _ _ _ _ _ hrow h3) (H _ _ _ _ _ _ _ hy h4)
    · cases hr
  | 4, hr, _ =>
    replace hr : am_ret q y st m = some r := hr
    unfold am_ret at hr
    split at hr
    all_goals first | (split at hr <;> (cases hr; try exact fun _ _ _ => rfl)) | cases hr
  | 5, hr, _ => exact H _ _ _ _ _ _ _ hy hr
  | 6, hr, _ =>
    replace hr : am_F6 g d y i q ls st m = some r := hr
    unfold am_F6 at hr
    split at hr
    all_goals first | (split at hr <;> first | exact H _ _ _ _ _ _ _ hy hr | cases hr) | cases hr
  | 7, hr, _ => exact H _ _ _ _ _ _ _ hy hr
  | 8, hr, _ =>
    replace hr : am_F8 g d y i ls st m = some r := hr
    unfold am_F8 at hr
    split at hr
    all_goals first | (split at hr <;> first | exact H _ _ _ _ _ _ _ hy hr | cases hr) | cases hr
  | 9, hr, _ =>
    replace hr : am_F9 g d y i ls st m = some r := hr
    unfold am_F9 at hr
    split at hr
    · split at hr
      · rename_i n dp t sp f st' _x hc
        have kt : am_kd t = 20 := ax_kdB (Bool.and_eq_true_iff.mp (Bool.and_eq_true_iff.mp (Bool.and_eq_true_iff.mp hc).2).1).2
        have t0 : 0 ≤ t := kd_nn kt (by decide)
        refine ng_tr ?_ (H _ _ _ _ _ _ _ hy hr)
        exact fun c i hc => if_neg fun e => by omega
      · cases hr
    · cases hr
  | 10, hr, _ =>
    replace hr : am_F10 g d y i a ls st m = some r := hr
    unfold am_F10 at hr
    split at hr
    all_goals first | (split at hr <;> first | exact H _ _ _ _ _ _ _ hy hr | cases hr) | cases hr
  | 11, hr, _ => obtain ⟨u, h1, h2⟩ := Option.bind_eq_some_iff.mp hr; exact H _ _ _ _ _ _ _ hy h2
  | n + 12, hr, _ => cases hr
theorem ng_ex (f : Nat) : ng_P (am_exec f) := by
  induction f with
  | zero => intro d y i ls st m r _ h; cases h
  | succ f ih => exact ng_F ih
theorem ng_call {d y : Nat} {as : List am_V} {m n : am_M} {r : Int} (hy : ax_nc y = true) (h : am_Call d y as m = some (r, n)) : NG m n := by
  obtain ⟨f, hf⟩ := am_Ex_to h
  exact ng_ex f d y 0 _ _ m (r, n) hy hf
