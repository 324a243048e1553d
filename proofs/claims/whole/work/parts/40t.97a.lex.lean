/-! texts: tokens out of bytes, purely -/
abbrev q_L (x : Int) : Prop := (97 ≤ x ∧ x ≤ 122) ∨ (65 ≤ x ∧ x ≤ 90)
abbrev q_D (x : Int) : Prop := 48 ≤ x ∧ x ≤ 57
abbrev q_S (x : Int) : Prop := x = 32 ∨ x = 10
/-- a byte, with its sign -/
def q_b (x : Int) : Int := if x < 128 then x else x - 256
/-- from p on, f holds up to e -/
def q_en (f : Int → Prop) (B : Int → Int) (L p e : Nat) : Prop := p ≤ e ∧ e ≤ L ∧ (∀ j : Nat, p ≤ j → j < e → f (B j)) ∧ (e < L → ¬ f (B e))
theorem q_en_ex {f : Int → Prop} {B : Int → Int} {L : Nat} : ∀ (m p : Nat), p + m = L → ∃ e, q_en f B L p e := by
  intro m
  induction m with
  | zero => intro p h; exact ⟨p, Nat.le_refl _, by omega, fun j a b => by omega, fun h' => by omega⟩
  | succ m ih =>
    intro p h
    rcases Classical.em (f (B p)) with q | q
    · obtain ⟨e, a, b, c, d⟩ := ih (p + 1) (by omega)
      refine ⟨e, by omega, b, fun j h1 h2 => ?_, d⟩
      by_cases z : j = p
      · rw [z]; exact q
      · exact c j (by omega) h2
    · exact ⟨p, Nat.le_refl _, by omega, fun j a b => by omega, fun _ => q⟩
abbrev q_two (B : Int → Int) (L q : Nat) : Prop := q + 1 < L ∧ B ((q : Int) + 1) = 61 ∧ (B q = 60 ∨ B q = 62)
/-- a token ends -/
def q_te (B : Int → Int) (L q e : Nat) : Prop := q < e ∧ e ≤ L ∧ (q_L (B q) → q_en q_L B L q e) ∧ (¬ q_L (B q) → q_D (B q) → q_en q_D B L q e) ∧ (¬ q_L (B q) → ¬ q_D (B q) → (q_two B L q → e = q + 2) ∧ (¬ q_two B L q → e = q + 1))
theorem q_en_lt {f : Int → Prop} {B : Int → Int} {L q e : Nat} (hq : q < L) (hf : f (B q)) (h : q_en f B L q e) : q < e := by
  obtain ⟨a, b, c, d⟩ := h
  rcases Nat.lt_or_ge q e with z | z
  · exact z
  · have : e = q := by omega
    rw [this] at d
    exact absurd hf (d hq)
theorem q_te_ex {B : Int → Int} {L q : Nat} (hq : q < L) : ∃ e, q_te B L q e := by
  by_cases h1 : q_L (B q)
  · obtain ⟨e, h⟩ := q_en_ex (f := q_L) (B := B) (L := L) (L - q) q (by omega)
    exact ⟨e, q_en_lt hq h1 h, h.2.1, fun _ => h, fun z => absurd h1 z, fun z => absurd h1 z⟩
  · by_cases h2 : q_D (B q)
    · obtain ⟨e, h⟩ := q_en_ex (f := q_D) (B := B) (L := L) (L - q) q (by omega)
      exact ⟨e, q_en_lt hq h2 h, h.2.1, fun z => absurd z h1, fun _ _ => h, fun _ z => absurd h2 z⟩
    · by_cases h3 : q_two B L q
      · exact ⟨q + 2, by omega, by have := h3.1; omega, fun z => absurd z h1, fun _ z => absurd z h2, fun _ _ => ⟨fun _ => rfl, fun z => absurd h3 z⟩⟩
      · exact ⟨q + 1, by omega, by omega, fun z => absurd z h1, fun _ z => absurd z h2, fun _ _ => ⟨fun z => absurd z h3, fun _ => rfl⟩⟩
/-- from p on, the tokens are l -/
def q_tl (B : Int → Int) (L : Nat) : Nat → List (Nat × Nat) → Prop
  | p, [] => p ≤ L ∧ ∀ j : Nat, p ≤ j → j < L → q_S (B j)
  | p, t :: l => (p ≤ t.1 ∧ t.1 < L ∧ (∀ j : Nat, p ≤ j → j < t.1 → q_S (B j)) ∧ ¬ q_S (B t.1)) ∧ q_te B L t.1 t.2 ∧ q_tl B L t.2 l
theorem q_tl_ex {B : Int → Int} {L : Nat} : ∀ (m p : Nat), p ≤ L → L - p ≤ m → ∃ l, q_tl B L p l := by
  intro m
  induction m with
  | zero => intro p h1 h2; exact ⟨[], by omega, fun j a b => by omega⟩
  | succ m ih =>
    intro p h1 h2
    obtain ⟨q, a, b, c, d⟩ := q_en_ex (f := q_S) (B := B) (L := L) (L - p) p (by omega)
    by_cases z : q < L
    · obtain ⟨e, he⟩ := q_te_ex (B := B) z
      obtain ⟨l, hl⟩ := ih e he.2.1 (by have := he.1; omega)
      exact ⟨(q, e) :: l, ⟨a, z, c, d z⟩, he, hl⟩
    · exact ⟨[], h1, fun j e f => c j e (by omega)⟩
theorem q_tl_len {B : Int → Int} {L : Nat} : ∀ (l : List (Nat × Nat)) (p : Nat), q_tl B L p l → l.length + p ≤ L := by
  intro l
  induction l with
  | nil => intro p h; have := h.1; show 0 + p ≤ L; omega
  | cons t l ih =>
    intro p h
    obtain ⟨⟨a, b, c, d⟩, e, f⟩ := h
    have := ih _ f
    have := e.1
    rw [List.length_cons]; omega
/-- where the token j is scanned from -/
def q_Q (L p : Nat) (l : List (Nat × Nat)) : Nat → Nat
  | 0 => p
  | j + 1 => (l.getD j (L, L)).2
theorem q_tl_drop {B : Int → Int} {L : Nat} : ∀ (l : List (Nat × Nat)) (p : Nat), q_tl B L p l → ∀ j, j ≤ l.length → q_tl B L (q_Q L p l j) (l.drop j) := by
  intro l
  induction l with
  | nil => intro p h j hj; have : j = 0 := by simpa using hj
           subst this; exact h
  | cons t l ih =>
    intro p h j hj
    cases j with
    | zero => exact h
    | succ j =>
      have := ih t.2 h.2.2 j (by rw [List.length_cons] at hj; omega)
      cases j with
      | zero => exact this
      | succ j => exact this
/-- the bytes of a stretch, the last ahead -/
def q_rl (B : Int → Int) (q : Nat) : Nat → List Int
  | 0 => []
  | m + 1 => B ((q + m : Nat) : Int) :: q_rl B q m
theorem q_rl_eq {B C : Int → Int} {p q : Nat} : ∀ (m : Nat), q_rl B p m = q_rl C q m ↔ ∀ i, i < m → B ((p + i : Nat) : Int) = C ((q + i : Nat) : Int) := by
  intro m
  induction m with
  | zero => exact ⟨fun _ i h => by omega, fun _ => rfl⟩
  | succ m ih =>
    unfold q_rl
    rw [List.cons.injEq, ih]
    constructor
    · rintro ⟨a, b⟩ i hi
      by_cases z : i = m
      · rw [z]; exact a
      · exact b i (by omega)
    · intro h
      exact ⟨h m (by omega), fun i hi => h i (by omega)⟩
theorem q_rl_len {B : Int → Int} {q : Nat} : ∀ m, (q_rl B q m).length = m := by
  intro m
  induction m with
  | zero => rfl
  | succ m ih => show (q_rl B q m).length + 1 = m + 1; rw [ih]
theorem q_rl_all {B : Int → Int} {q : Nat} {f : Int → Prop} : ∀ m, (∀ i, i < m → f (B ((q + i : Nat) : Int))) → ∀ x ∈ q_rl B q m, f x := by
  intro m
  induction m with
  | zero => intro h x hx; cases hx
  | succ m ih =>
    intro h x hx
    rcases List.mem_cons.mp hx with e | e
    · rw [e]; exact h m (by omega)
    · exact ih (fun i hi => h i (by omega)) x e
/-- the model's number of a word -/
def q_hr : List Int → Int
  | [] => 0
  | x :: l => 64 * q_hr l + (x - 64)
theorem q_hr_r : ∀ (l : List Int), (∀ x ∈ l, q_L x) → 0 ≤ q_hr l ∧ q_hr l < ((64 ^ l.length : Nat) : Int) := by
  intro l
  induction l with
  | nil => intro _; exact ⟨Int.le_refl _, by decide⟩
  | cons x l ih =>
    intro h
    have h1 := ih fun y hy => h y (List.mem_cons_of_mem _ hy)
    have h2 : q_L x := h x List.mem_cons_self
    have e : ((64 ^ (x :: l).length : Nat) : Int) = 64 * ((64 ^ l.length : Nat) : Int) := by
      rw [List.length_cons, Nat.pow_succ]; omega
    rw [e]
    show 0 ≤ 64 * q_hr l + (x - 64) ∧ 64 * q_hr l + (x - 64) < _
    omega
theorem q_hr_inj : ∀ (a b : List Int), (∀ x ∈ a, q_L x) → (∀ x ∈ b, q_L x) → q_hr a = q_hr b → a = b := by
  intro a
  induction a with
  | nil =>
    intro b _ hb e
    cases b with
    | nil => rfl
    | cons y b =>
      have h1 := (q_hr_r b fun z hz => hb z (List.mem_cons_of_mem _ hz)).1
      have h2 : q_L y := hb y List.mem_cons_self
      have e : 0 = 64 * q_hr b + (y - 64) := e
      exfalso; omega
  | cons x a ih =>
    intro b ha hb e
    have h2 : q_L x := ha x List.mem_cons_self
    have h0 := (q_hr_r a fun z hz => ha z (List.mem_cons_of_mem _ hz)).1
    cases b with
    | nil =>
      have e : 64 * q_hr a + (x - 64) = 0 := e
      exfalso; omega
    | cons y b =>
      have h1 := (q_hr_r b fun z hz => hb z (List.mem_cons_of_mem _ hz)).1
      have h3 : q_L y := hb y List.mem_cons_self
      have e : 64 * q_hr a + (x - 64) = 64 * q_hr b + (y - 64) := e
      have e1 : x = y := by omega
      have e2 : q_hr a = q_hr b := by omega
      rw [e1, ih b (fun z hz => ha z (List.mem_cons_of_mem _ hz)) (fun z hz => hb z (List.mem_cons_of_mem _ hz)) e2]
/-- the words -/
def q_W (i : Int) : Int := (am_str 1).getD i.toNat 0
def q_sts : List Nat := [0, 4, 10, 16, 23, 29, 37, 43, 48, 52, 58, 62, 68, 73, 79, 85, 91, 97, 101, 106, 111, 116, 119, 123, 127, 132, 135, 138, 141, 144]
def q_lns : List Nat := [3, 5, 5, 6, 5, 7, 5, 4, 3, 5, 3, 5, 4, 5, 5, 5, 5, 3, 4, 4, 4, 2, 3, 3, 4, 2, 2, 2, 2]
def q_st (k : Nat) : Nat := q_sts.getD k 0
def q_ln (k : Nat) : Nat := q_lns.getD k 0
def q_wr (k : Nat) : List Int := q_rl q_W (q_st k) (q_ln k)
theorem q_f1 : ∀ k : Fin 29, q_st (k.val + 1) = q_st k.val + q_ln k.val + 1 ∧ q_st k.val + q_ln k.val ≤ 143 ∧ (q_st k.val + q_ln k.val = 143 ∨ q_W ((q_st k.val + q_ln k.val : Nat) : Int) = 32) ∧ q_ln k.val ≤ 7 := by decide +kernel
theorem q_f2 : ∀ k : Fin 29, ∀ i : Fin 8, i.val < q_ln k.val → q_W ((q_st k.val + i.val : Nat) : Int) ≠ 32 := by decide +kernel
theorem q_f5 : ∀ k : Fin 29, ∀ x ∈ q_wr k.val, q_L x := by decide +kernel
def q_fw (r : List Int) : Nat → Nat → Int
  | 0, _ => 43
  | m + 1, k => if r = q_wr k then (k : Int) else q_fw r m (k + 1)
theorem q_fw_s {r : List Int} : ∀ (m k : Nat), k + m = 29 → (∃ j, k ≤ j ∧ j < 29 ∧ q_fw r m k = (j : Int) ∧ r = q_wr j) ∨ (q_fw r m k = 43 ∧ ∀ j, k ≤ j → j < 29 → r ≠ q_wr j) := by
  intro m
  induction m with
  | zero => intro k h; exact Or.inr ⟨rfl, fun j a b => by omega⟩
  | succ m ih =>
    intro k h
    unfold q_fw
    by_cases z : r = q_wr k
    · rw [if_pos z]; exact Or.inl ⟨k, Nat.le_refl _, by omega, rfl, z⟩
    · rw [if_neg z]
      rcases ih (k + 1) (by omega) with ⟨j, a, b, c, d⟩ | ⟨a, b⟩
      · exact Or.inl ⟨j, by omega, b, c, d⟩
      · refine Or.inr ⟨a, fun j h1 h2 => ?_⟩
        by_cases y : j = k
        · rw [y]; exact z
        · exact b j (by omega) h2
/-- the first place of x -/
def q_wi : List Int → Int → Int → Int
  | [], _, _ => -1
  | h :: t, v, x => if x = h then v else q_wi t (v + 1) x
theorem q_wi_no {x : Int} : ∀ (l : List Int) (v : Int), (∀ h ∈ l, x ≠ h) → q_wi l v x = -1 := by
  intro l
  induction l with
  | nil => intro v _; rfl
  | cons h t ih =>
    intro v q
    unfold q_wi
    rw [if_neg (q h List.mem_cons_self)]
    exact ih _ fun y hy => q y (List.mem_cons_of_mem _ hy)
def q_H : List Int := [166003, 646334835, 617282611, 52442335603, 882252008, 3137267193956, 617257899, 13540263, 215653, 867588908, 216249, 782662196, 2670, 2233, 3046, 2164, 3058, 138148, 191476, 13302772, 13851822, 818583845, 849771060, 936049575, 935275816, 149625, 13589415, 13801828, 12015848]
theorem q_f3 : ∀ k : Fin 29, q_wi q_H 0 (q_hr (q_wr k.val)) = wd (k.val : Int) := by decide +kernel
theorem q_f4 : ∀ h ∈ q_H, ∃ k : Fin 29, h = q_hr (q_wr k.val) := by decide +kernel
def q_mw (r : List Int) : Int := if r.length ≤ 7 then q_wi q_H 0 (q_hr r) else -1
theorem q_cw {r : List Int} {n : Int} (h : ∀ x ∈ r, q_L x) : cor (q_fw r 29 0) n (if q_mw r < 0 then 4 else 1) (q_mw r) := by
  rcases q_fw_s (r := r) 29 0 (by omega) with ⟨k, _, hk, e, e2⟩ | ⟨e, e2⟩
  · have f1 := (q_f1 ⟨k, hk⟩).2.2.2
    have f3 := q_f3 ⟨k, hk⟩
    have f1 : q_ln k ≤ 7 := f1
    have f3 : q_wi q_H 0 (q_hr (q_wr k)) = wd (k : Int) := f3
    have len : r.length ≤ 7 := by rw [e2]; unfold q_wr; rw [q_rl_len]; exact f1
    have m : q_mw r = wd (k : Int) := by unfold q_mw; rw [if_pos len, e2, f3]
    have := wd_v (k := (k : Int)) (by omega) (by omega)
    rw [e, m, if_neg (by omega)]
    exact Or.inl ⟨by omega, by omega, rfl, rfl⟩
  · have m : q_mw r = -1 := by
      unfold q_mw
      by_cases len : r.length ≤ 7
      · rw [if_pos len]
        refine q_wi_no _ _ fun x hx y => ?_
        obtain ⟨k, hk⟩ := q_f4 x hx
        exact e2 k.val (by omega) k.isLt (q_hr_inj _ _ h (q_f5 k) (y.trans hk))
      · rw [if_neg len]
    rw [e, m, if_pos (by decide)]
    exact Or.inr (Or.inr (Or.inl ⟨rfl, Or.inl rfl⟩))
/-- numbers -/
def q_cn (B : Int → Int) (q : Nat) : Nat → Int
  | 0 => 0
  | m + 1 => min (q_cn B q m * 10 + (B ((q + m : Nat) : Int) - 48)) 10000
def q_mn (B : Int → Int) (q : Nat) : Nat → Int
  | 0 => 0
  | m + 1 => if q_mn B q m ≤ 99999 then 10 * q_mn B q m + B ((q + m : Nat) : Int) - 48 else q_mn B q m
theorem q_n_rel {B : Int → Int} {q : Nat} : ∀ m, (∀ i, i < m → q_D (B ((q + i : Nat) : Int))) → (0 ≤ q_cn B q m ∧ q_cn B q m ≤ 10000) ∧ (0 ≤ q_mn B q m ∧ q_mn B q m ≤ 1000009) ∧ (q_mn B q m = q_cn B q m ∨ (10000 ≤ q_mn B q m ∧ q_cn B q m = 10000)) := by
  intro m
  induction m with
  | zero => intro _; exact ⟨⟨Int.le_refl _, show (0 : Int) ≤ 10000 by decide⟩, ⟨Int.le_refl _, show (0 : Int) ≤ 1000009 by decide⟩, Or.inl rfl⟩
  | succ m ih =>
    intro h
    have h1 := ih fun i hi => h i (by omega)
    have h2 := h m (by omega)
    unfold q_cn q_mn
    generalize q_cn B q m = a at *
    generalize q_mn B q m = b at *
    generalize B ((q + m : Nat) : Int) = c at *
    rw [Int.min_def]
    split <;> split <;> omega
/-- signs -/
def q_cs (B : Int → Int) (L q : Nat) : Int := if q_two B L q then (if B q = 60 then 40 else 41) else if q_wi (am_str 0) 0 (B q) < 0 then 43 else 29 + q_wi (am_str 0) 0 (B q)
def q_ss (x : Int) : Int := if (59 ≤ x ∧ x ≤ 62) ∨ (40 ≤ x ∧ x ≤ 45) ∨ x = 47 ∨ x = 35 then 3 else 4
def q_si (B : Int → Int) (L q : Nat) : Int := if q_two B L q then (if B q = 60 then 300 else 301) else q_b (B q)
theorem q_wi_sg {x : Int} : (q_wi (am_str 0) 0 x = -1 ∧ x ≠ 60 ∧ x ≠ 62 ∧ x ≠ 61 ∧ x ≠ 35 ∧ x ≠ 43 ∧ x ≠ 45 ∧ x ≠ 42 ∧ x ≠ 47 ∧ x ≠ 40 ∧ x ≠ 41 ∧ x ≠ 59) ∨ (0 ≤ q_wi (am_str 0) 0 x ∧ q_wi (am_str 0) 0 x ≤ 10 ∧ sg2 (29 + q_wi (am_str 0) 0 x) = x) := by
  by_cases h : x = 60 ∨ x = 62 ∨ x = 61 ∨ x = 35 ∨ x = 43 ∨ x = 45 ∨ x = 42 ∨ x = 47 ∨ x = 40 ∨ x = 41 ∨ x = 59
  · right
    rcases h with rfl | rfl | rfl | rfl | rfl | rfl | rfl | rfl | rfl | rfl | rfl <;> decide
  · left
    refine ⟨q_wi_no _ _ fun y hy e => h ?_, by omega⟩
    have hy : y ∈ [(60 : Int), 62, 61, 35, 43, 45, 42, 47, 40, 41, 59] := hy
    rw [← e] at hy
    simpa using hy
theorem q_csg {B : Int → Int} {L q : Nat} {n : Int} (hB : 0 ≤ B q ∧ B q < 256) : cor (q_cs B L q) n (q_ss (q_b (B q))) (q_si B L q) := by
  unfold q_cs q_si
  by_cases t : q_two B L q
  · rw [if_pos t, if_pos t]
    obtain ⟨_, _, t3⟩ := t
    rcases t3 with t3 | t3
    · rw [t3]; exact Or.inr (Or.inr (Or.inr (Or.inr ⟨by decide, by decide, by decide, by decide⟩)))
    · rw [t3]; exact Or.inr (Or.inr (Or.inr (Or.inr ⟨by decide, by decide, by decide, by decide⟩)))
  · rw [if_neg t, if_neg t]
    generalize B q = x at *
    have e : x < 128 → q_b x = x := fun z => if_pos z
    rcases q_wi_sg (x := x) with ⟨a, b⟩ | ⟨a, b, c⟩
    · rw [a, if_pos (by decide)]
      refine Or.inr (Or.inr (Or.inl ⟨rfl, ?_⟩))
      unfold q_ss q_b
      split
      · split <;> omega
      · split <;> omega
    · rw [if_neg (by omega)]
      generalize q_wi (am_str 0) 0 x = j at *
      have v := sg2_v (k := 29 + j) (by omega) (by omega)
      rw [e (by omega)]
      refine Or.inr (Or.inr (Or.inr (Or.inr ⟨by omega, by omega, ?_, c.symm⟩)))
      unfold q_ss
      rw [if_pos (by omega)]
/-- what a token is, to both -/
def q_K (B : Int → Int) (L : Nat) (t : Nat × Nat) : Int := if q_L (B t.1) then q_fw (q_rl B t.1 (t.2 - t.1)) 29 0 else if q_D (B t.1) then 42 else q_cs B L t.1
def q_N (B : Int → Int) (t : Nat × Nat) : Int := if q_L (B t.1) then 0 else if q_D (B t.1) then q_cn B t.1 (t.2 - t.1) else 0
def q_So (B : Int → Int) (t : Nat × Nat) : Int := if q_L (B t.1) then (if q_mw (q_rl B t.1 (t.2 - t.1)) < 0 then 4 else 1) else if q_D (B t.1) then 2 else q_ss (q_b (B t.1))
def q_Is (B : Int → Int) (L : Nat) (t : Nat × Nat) : Int := if q_L (B t.1) then q_mw (q_rl B t.1 (t.2 - t.1)) else if q_D (B t.1) then q_mn B t.1 (t.2 - t.1) else q_si B L t.1
theorem q_cor {B : Int → Int} {L : Nat} {t : Nat × Nat} (hB : ∀ j : Nat, j < L → 0 ≤ B j ∧ B j < 256) (ht : t.1 < L) (h : q_te B L t.1 t.2) : cor (q_K B L t) (q_N B t) (q_So B t) (q_Is B L t) := by
  obtain ⟨h1, h2, h3, h4, h5⟩ := h
  unfold q_K q_N q_So q_Is
  by_cases a : q_L (B t.1)
  · rw [if_pos a, if_pos a, if_pos a, if_pos a]
    obtain ⟨e1, e2, e3, e4⟩ := h3 a
    exact q_cw (q_rl_all (f := q_L) _ fun i hi => e3 (t.1 + i) (by omega) (by omega))
  · rw [if_neg a, if_neg a, if_neg a, if_neg a]
    by_cases b : q_D (B t.1)
    · rw [if_pos b, if_pos b, if_pos b, if_pos b]
      obtain ⟨e1, e2, e3, e4⟩ := h4 a b
      have := q_n_rel (B := B) (q := t.1) (t.2 - t.1) fun i hi => e3 (t.1 + i) (by omega) (by omega)
      exact Or.inr (Or.inl ⟨rfl, rfl, by omega, by omega⟩)
    · rw [if_neg b, if_neg b, if_neg b, if_neg b]
      exact q_csg (hB _ ht)
