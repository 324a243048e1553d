/-! rounds of leads: as many as there are turns do what eight do -/
theorem pc_B : ((List.range 256).all fun a => (List.range 256).all fun b => !(a ||| b == b) || (a == b || Nat.blt (ax_pc 8 a) (ax_pc 8 b))) = true := by decide +kernel
theorem pc_lt {a b : Nat} (ha : a < 256) (hb : b < 256) (h : a ||| b = b) (hne : a ≠ b) : ax_pc 8 a < ax_pc 8 b := by
  have h1 := List.all_eq_true.mp (List.all_eq_true.mp pc_B a (List.mem_range.mpr ha)) b (List.mem_range.mpr hb)
  rw [h] at h1
  simp only [beq_self_eq_true, Bool.not_true, Bool.false_or, Bool.or_eq_true, beq_iff_eq] at h1
  rcases h1 with h1 | h1
  · exact absurd h1 hne
  · exact Nat.le_of_ble_eq_true h1
theorem pc_T : ((List.range 9).all fun T => (List.range (2 ^ T)).all fun a => Nat.ble (ax_pc 8 a) T) = true := by decide +kernel
theorem pc_le {a T : Nat} (hT : T ≤ 8) (ha : a < 2 ^ T) : ax_pc 8 a ≤ T := Nat.le_of_ble_eq_true (List.all_eq_true.mp (List.all_eq_true.mp pc_T T (List.mem_range.mpr (by omega))) a (List.mem_range.mpr ha))
theorem pw8 {T : Int} (T0 : 0 ≤ T) (T1 : T ≤ 8) : (2 ^ T.toNat : Nat) ≤ 256 := by
  have h : (2 ^ T.toNat : Nat) ≤ 2 ^ 8 := Nat.pow_le_pow_right (by omega) (by omega)
  exact h
theorem rd1_in {L : Int → Int} {T s : Int} (T0 : 0 ≤ T) (T1 : T ≤ 8) (hL : ∀ t, 0 ≤ t → t < T → 0 ≤ L t ∧ L t < ((2 ^ T.toNat : Nat) : Int)) (s0 : 0 ≤ s) (s1 : s < ((2 ^ T.toNat : Nat) : Int)) : (0 ≤ rd1 L T s ∧ rd1 L T s < ((2 ^ T.toNat : Nat) : Int)) ∧ s.toNat ||| (rd1 L T s).toNat = (rd1 L T s).toNat := by
  have hp := pw8 T0 T1
  unfold rd1
  refine ax_fo_inv (P := fun _ a => (0 ≤ a ∧ a < ((2 ^ T.toNat : Nat) : Int)) ∧ s.toNat ||| a.toNat = a.toNat) _ _ _ (fun t a h1 h2 ha => ?_) ⟨⟨s0, s1⟩, Nat.or_self _⟩
  obtain ⟨⟨a0, a1⟩, a2⟩ := ha
  have hl := hL t h1 (by omega)
  have step : ∀ x : Int, 0 ≤ x → x < ((2 ^ T.toNat : Nat) : Int) → (0 ≤ am_or a x ∧ am_or a x < ((2 ^ T.toNat : Nat) : Int)) ∧ s.toNat ||| (am_or a x).toNat = (am_or a x).toNat := by
    intro x x0 x1
    have h3 := Nat.or_lt_two_pow (n := T.toNat) (show a.toNat < 2 ^ T.toNat by omega) (show x.toNat < 2 ^ T.toNat by omega)
    rw [ax_or_nn a0 (by omega) x0 (by omega), Int.toNat_natCast]
    refine ⟨⟨by omega, by omega⟩, ?_⟩
    rw [← Nat.or_assoc, a2]
  split
  · exact step _ hl.1 hl.2
  · exact step 0 (by omega) (by omega)
def bk (L : Int → Int) (T s : Int) : Int := ax_fo (fun _ s => rd1 L T s) (T - 0).toNat 0 s
theorem fo_idx {α : Type} {g : α → α} : ∀ (n : Nat) (k k' : Int) (a : α), ax_fo (fun _ s => g s) n k a = ax_fo (fun _ s => g s) n k' a := by
  intro n
  induction n with
  | zero => intro k k' a; rfl
  | succ n ih => intro k k' a; exact ih _ _ _
theorem bk_8 {L : Int → Int} {T s : Int} (T0 : 0 ≤ T) (T1 : T ≤ 8) (hL : ∀ t, 0 ≤ t → t < T → 0 ≤ L t ∧ L t < ((2 ^ T.toNat : Nat) : Int)) (s0 : 0 ≤ s) (s1 : s < ((2 ^ T.toNat : Nat) : Int)) : ax_fo (fun _ s => rd1 L T s) ((8 : Int) - 0).toNat 0 s = bk L T s := by
  have hp := pw8 T0 T1
  have fixed : ∀ (n : Nat) (s : Int), rd1 L T s = s → ax_fo (fun _ s => rd1 L T s) n 0 s = s := by
    intro n
    induction n with
    | zero => intro s _; rfl
    | succ n ih =>
      intro s h
      show ax_fo _ n (0 + 1) (rd1 L T s) = s
      rw [h, fo_idx n (0 + 1) 0]
      exact ih s h
  have key : ∀ (j : Nat) (s : Int), 0 ≤ s → s < ((2 ^ T.toNat : Nat) : Int) → T.toNat ≤ ax_pc 8 s.toNat + j → ∀ n, j ≤ n → ax_fo (fun _ s => rd1 L T s) n 0 s = ax_fo (fun _ s => rd1 L T s) j 0 s := by
    intro j
    induction j with
    | zero =>
      intro s s0 s1 hpc n _
      obtain ⟨⟨r0, r1⟩, r2⟩ := rd1_in T0 T1 hL s0 s1
      refine fixed n s ?_
      by_cases e : s.toNat = (rd1 L T s).toNat
      · omega
      · have := pc_lt (by omega) (by omega) r2 e
        have := pc_le (T := T.toNat) (a := (rd1 L T s).toNat) (by omega) (by omega)
        omega
    | succ j ih =>
      intro s s0 s1 hpc n hn
      obtain ⟨⟨r0, r1⟩, r2⟩ := rd1_in T0 T1 hL s0 s1
      by_cases e : s.toNat = (rd1 L T s).toNat
      · have hf : rd1 L T s = s := by omega
        rw [fixed n s hf, fixed (j + 1) s hf]
      · have := pc_lt (by omega) (by omega) r2 e
        obtain ⟨n', rfl⟩ : ∃ n', n = n' + 1 := ⟨n - 1, by omega⟩
        show ax_fo _ n' (0 + 1) (rd1 L T s) = ax_fo _ j (0 + 1) (rd1 L T s)
        rw [fo_idx n' (0 + 1) 0, fo_idx j (0 + 1) 0]
        exact ih _ r0 r1 (by omega) n' (by omega)
  unfold bk
  have h8 : ((8 : Int) - 0).toNat = 8 := rfl
  rw [h8]
  exact key (T - 0).toNat s s0 s1 (by omega) 8 (by omega)
theorem bk_r {L : Int → Int} {T s : Int} (T0 : 0 ≤ T) (T1 : T ≤ 8) (hL : ∀ t, 0 ≤ t → t < T → 0 ≤ L t ∧ L t < ((2 ^ T.toNat : Nat) : Int)) (s0 : 0 ≤ s) (s1 : s < ((2 ^ T.toNat : Nat) : Int)) : 0 ≤ bk L T s ∧ bk L T s < ((2 ^ T.toNat : Nat) : Int) :=
  ax_fo_inv (P := fun _ a => 0 ≤ a ∧ a < ((2 ^ T.toNat : Nat) : Int)) _ _ _ (fun _ _ _ _ ha => (rd1_in T0 T1 hL ha.1 ha.2).1) ⟨s0, s1⟩
theorem bk_congr {L L' : Int → Int} {T s : Int} (h : ∀ t, 0 ≤ t → t < T → L t = L' t) : bk L T s = bk L' T s := by
  have : ∀ s, rd1 L T s = rd1 L' T s := fun s => ax_fo_congr _ _ _ fun t a h1 h2 => by rw [h t h1 (by omega)]
  unfold bk
  exact ax_fo_congr _ _ _ fun _ a _ _ => this a
/-! THE RELATION: the developers' cells against the model's -/
def fl (M : am_M) (c o : Int) : Int → Int := fun j => am_rd M c (o + j)
def RG (M N : am_M) (g c : Int) : Prop :=
  (am_rd M g 5 = am_rd N c 0 ∧ am_rd M g 6 = am_rd N c 1 ∧ am_rd M g 7 = am_rd N c 2 ∧ am_rd M g 11 = am_rd N c 3 ∧ am_rd M g 12 = am_rd N c 4 ∧ am_rd M g 8 = am_rd N c 6 ∧ am_rd M g 10 = am_rd N c 7) ∧
  (∀ j, 0 ≤ j → j < 8 → am_rd M (g + 1) j = am_rd N c (10 + j)) ∧ (∀ j, 0 ≤ j → j < 8 → am_rd M (g + 2) j = am_rd N c (18 + j)) ∧ (∀ j, 0 ≤ j → j < 6 → am_rd M (g + 3) j = am_rd N c (26 + j)) ∧ (∀ j, 0 ≤ j → j < 6 → am_rd M (g + 4) j = am_rd N c (32 + j)) ∧ (∀ j, 0 ≤ j → j < 8 → am_rd M (g + 5) j = am_rd N c (38 + 2 * j)) ∧ (∀ j, 0 ≤ j → j < 8 → am_and (am_shr (am_rd M g 9) j) 1 = am_rd N c (39 + 2 * j)) ∧ (0 ≤ am_rd M g 9 ∧ am_rd M g 9 < 256)
def BG (M : am_M) (c : Int) : Prop :=
  ((0 ≤ am_rd M c 0 ∧ am_rd M c 0 ≤ 8) ∧ (0 ≤ am_rd M c 1 ∧ am_rd M c 1 ≤ 6) ∧ (0 ≤ am_rd M c 2 ∧ am_rd M c 2 ≤ 6) ∧ (0 ≤ am_rd M c 3 ∧ am_rd M c 3 ≤ 4) ∧ (-1 ≤ am_rd M c 4 ∧ am_rd M c 4 < am_rd M c 3) ∧ (0 ≤ am_rd M c 5 ∧ am_rd M c 5 ≤ 30) ∧ (0 ≤ am_rd M c 6 ∧ am_rd M c 6 ≤ 8) ∧ (0 ≤ am_rd M c 7 ∧ am_rd M c 7 ≤ 8)) ∧
  (∀ j, 0 ≤ j → j < 8 → 0 ≤ am_rd M c (10 + j) ∧ am_rd M c (10 + j) ≤ 99) ∧
  (∀ j, 0 ≤ j → j < 8 → 0 ≤ am_rd M c (18 + j) ∧ am_rd M c (18 + j) < ((2 ^ (am_rd M c 0).toNat : Nat) : Int)) ∧
  (∀ j, am_rd M c 0 ≤ j → 0 ≤ j → j < 8 → am_rd M c (18 + j) = 0) ∧
  (∀ j, 0 ≤ j → j < 6 → 0 ≤ am_rd M c (26 + j) ∧ am_rd M c (26 + j) ≤ 9) ∧
  (∀ j, 0 ≤ j → j < 6 → 0 ≤ am_rd M c (32 + j) ∧ am_rd M c (32 + j) < ((2 ^ (am_rd M c 0).toNat : Nat) : Int)) ∧
  (∀ j, 0 ≤ j → j < 8 → (0 ≤ am_rd M c (38 + 2 * j) ∧ am_rd M c (38 + 2 * j) ≤ 7) ∧ (j < am_rd M c 6 → am_rd M c (38 + 2 * j) < am_rd M c 0))
def RHn (M N : am_M) (h c : Int) : Prop := CH M h (am_rd N c 1) (fl N c 60) ∧ HB (am_rd N c 0) (fl N c 60) ∧ am_rd N c 222 ≤ 999
def RSn (M N : am_M) (s c : Int) : Prop := (0 ≤ am_rd M s 1 ∧ am_rd M s 1 < 30) ∧ am_rd M s 2 = am_rd N c 5 ∧ ∀ k, 0 ≤ k → k < am_rd N c 5 → CH M (s + 2 + 6 * ((am_rd M s 1 + 30 - am_rd N c 5 + k) % 30)) (am_rd N c 1) (fl N c (240 + 164 * k)) ∧ HB (am_rd N c 0) (fl N c (240 + 164 * k)) ∧ am_rd N c (402 + 164 * k) ≤ 999
def RP (M N : am_M) (g h s c : Int) : Prop := RG M N g c ∧ BG N c ∧ RHn M N h c ∧ RSn M N s c
def RT (M : am_M) : Prop := am_rd M 1 8 = am_rd M 447 3 ∧ (0 ≤ am_rd M 447 3 ∧ am_rd M 447 3 ≤ 300) ∧ (∀ j, 0 ≤ j → j < am_rd M 447 3 → am_rd M 419 j = am_rd M 450 j % 256 ∧ -128 ≤ am_rd M 450 j ∧ am_rd M 450 j < 128) ∧ ((am_rd M 420 7 = 0 ∧ am_rd M 447 4 = -1 ∧ am_rd M 447 5 = -1) ∨ (am_rd M 420 7 = 1 ∧ am_rd M 420 8 = am_rd M 447 4 ∧ am_rd M 420 9 = am_rd M 447 5))
/-! texts: a clause is (what, one, two, three, code) -/
def XC (M : am_M) (s : Int) (cl : List xcl) : Prop := am_rd M s 6 = (cl.length : Int) ∧ (∀ (j : Nat) (hj : j < cl.length), am_rd M (s + 4) j = cl[j].1 ∧ (4 ≤ cl[j].1 → am_rd M (s + 5) (3 * j) = cl[j].2.1) ∧ (cl[j].1 = 4 ∨ cl[j].1 = 5 ∨ cl[j].1 = 7 ∨ cl[j].1 = 8 ∨ cl[j].1 = 9 → am_rd M (s + 5) (3 * j + 1) = cl[j].2.2.1) ∧ (cl[j].1 = 4 ∨ cl[j].1 = 5 → am_rd M (s + 5) (3 * j + 2) = cl[j].2.2.2.1)) ∧ ∀ k, 0 ≤ k → k < 4 → CT M s k (XL cl k)
def XM (M : am_M) (t : Int) (cl : List xcl) : Prop := am_rd M 451 t = (cl.length : Int) ∧ ∀ (j : Nat) (hj : j < cl.length), am_rd M 452 (24 * t + j) = cl[j].1 ∧ (4 ≤ cl[j].1 → am_rd M 454 (24 * t + j) = cl[j].2.1) ∧ (cl[j].1 = 4 ∨ cl[j].1 = 5 ∨ cl[j].1 = 7 ∨ cl[j].1 = 8 ∨ cl[j].1 = 9 → am_rd M 455 (24 * t + j) = cl[j].2.2.1) ∧ (cl[j].1 = 4 ∨ cl[j].1 = 5 → am_rd M 456 (24 * t + j) = cl[j].2.2.2.1) ∧ (cl[j].1 < 4 → MC M (am_rd M 453 (24 * t + j)) cl[j].2.2.2.2 ∧ 400 * t ≤ am_rd M 453 (24 * t + j) ∧ am_rd M 453 (24 * t + j) + (cl[j].2.2.2.2.length : Int) < 400 * t + 400)
def RX (M : am_M) : Prop := am_rd M 449 3 ≤ am_rd M 448 3 ∧ ∃ X : Int → List xcl, ∀ t, 0 ≤ t → t < 4 → t < am_rd M 448 3 → XC M (15 + 6 * t) (X t) ∧ XM M t (X t) ∧ XO (X t)
def RR (M : am_M) : Prop := ax_K M ∧ RP M M 2 8 55 448 ∧ RP M M 43 49 237 449 ∧ RT M ∧ RX M
/-! what has stayed -/
theorem HB_congr {T : Int} {H H' : Int → Int} (a : HB T H) (e : ∀ j, 0 ≤ j → j < 164 → H' j = H j) : HB T H' := by
  obtain ⟨b1, b2, b3, b4, b5⟩ := a
  refine ⟨fun j h0 h1 => ?_, fun j h0 h1 => ?_, ?_, ?_, fun m t h1 h2 h3 h4 h5 => ?_⟩
  · rw [e j (by omega) (by omega), e (96 + j) (by omega) (by omega), e (48 + j) (by omega) (by omega)]; exact b1 j h0 h1
  · rw [e (144 + j) (by omega) (by omega), e (150 + j) (by omega) (by omega), e (156 + j) (by omega) (by omega)]; exact b2 j h0 h1
  · rw [e 162 (by omega) (by omega)]; exact b3
  · rw [e 163 (by omega) (by omega)]; exact b4
  · rw [e _ (by omega) (by omega)]; exact b5 m t h1 h2 h3 h4 h5
theorem HB_mono {T T' : Int} {H : Int → Int} (a : HB T H) (h : T ≤ T') : HB T' H := ⟨a.1, a.2.1, a.2.2.1, a.2.2.2.1, fun m t h1 h2 h3 h4 h5 => a.2.2.2.2 m t h1 h2 (by omega) h4 h5⟩
theorem RG_same {M M' N N' : am_M} {g c : Int} (a : RG M N g c) (e1 : ∀ x i, g ≤ x → x ≤ g + 5 → am_rd M' x i = am_rd M x i) (e2 : ∀ i, 0 ≤ i → i < 60 → i ≠ 5 → am_rd N' c i = am_rd N c i) : RG M' N' g c := by
  obtain ⟨⟨a1, a2, a3, a4, a5, a6, a7⟩, b1, b2, b3, b4, b5, b6, b7⟩ := a
  have g : ∀ i, am_rd M' g i = am_rd M g i := fun i => e1 g i (by omega) (by omega)
  refine ⟨⟨by rw [g, e2 _ (by omega) (by omega) (by omega)]; exact a1, by rw [g, e2 _ (by omega) (by omega) (by omega)]; exact a2, by rw [g, e2 _ (by omega) (by omega) (by omega)]; exact a3, by rw [g, e2 _ (by omega) (by omega) (by omega)]; exact a4, by rw [g, e2 _ (by omega) (by omega) (by omega)]; exact a5, by rw [g, e2 _ (by omega) (by omega) (by omega)]; exact a6, by rw [g, e2 _ (by omega) (by omega) (by omega)]; exact a7⟩, fun j h0 h1 => ?_, fun j h0 h1 => ?_, fun j h0 h1 => ?_, fun j h0 h1 => ?_, fun j h0 h1 => ?_, fun j h0 h1 => ?_, ?_⟩
  · rw [e1 _ _ (by omega) (by omega), e2 _ (by omega) (by omega) (by omega)]; exact b1 j h0 h1
  · rw [e1 _ _ (by omega) (by omega), e2 _ (by omega) (by omega) (by omega)]; exact b2 j h0 h1
  · rw [e1 _ _ (by omega) (by omega), e2 _ (by omega) (by omega) (by omega)]; exact b3 j h0 h1
  · rw [e1 _ _ (by omega) (by omega), e2 _ (by omega) (by omega) (by omega)]; exact b4 j h0 h1
  · rw [e1 _ _ (by omega) (by omega), e2 _ (by omega) (by omega) (by omega)]; exact b5 j h0 h1
  · rw [g, e2 _ (by omega) (by omega) (by omega)]; exact b6 j h0 h1
  · rw [g]; exact b7
theorem BG_same5 {M M' : am_M} {c : Int} (a : BG M c) (e2 : ∀ i, 0 ≤ i → i < 60 → i ≠ 5 → am_rd M' c i = am_rd M c i) (h5 : 0 ≤ am_rd M' c 5 ∧ am_rd M' c 5 ≤ 30) : BG M' c := by
  obtain ⟨⟨a1, a2, a3, a4, a5, a6, a7, a8⟩, b1, b2, b3, b4, b5, b6⟩ := a
  unfold BG
  rw [e2 0 (by omega) (by omega) (by omega), e2 1 (by omega) (by omega) (by omega), e2 2 (by omega) (by omega) (by omega), e2 3 (by omega) (by omega) (by omega), e2 4 (by omega) (by omega) (by omega), e2 6 (by omega) (by omega) (by omega), e2 7 (by omega) (by omega) (by omega)]
  refine ⟨⟨a1, a2, a3, a4, a5, h5, a7, a8⟩, fun j h0 h1 => ?_, fun j h0 h1 => ?_, fun j h0 h1 h2 => ?_, fun j h0 h1 => ?_, fun j h0 h1 => ?_, fun j h0 h1 => ?_⟩
  · rw [e2 _ (by omega) (by omega) (by omega)]; exact b1 j h0 h1
  · rw [e2 _ (by omega) (by omega) (by omega)]; exact b2 j h0 h1
  · rw [e2 _ (by omega) (by omega) (by omega)]; exact b3 j h0 h1 h2
  · rw [e2 _ (by omega) (by omega) (by omega)]; exact b4 j h0 h1
  · rw [e2 _ (by omega) (by omega) (by omega)]; exact b5 j h0 h1
  · rw [e2 _ (by omega) (by omega) (by omega)]; exact b6 j h0 h1
theorem BG_same {M M' : am_M} {c : Int} (a : BG M c) (e2 : ∀ i, 0 ≤ i → i < 60 → am_rd M' c i = am_rd M c i) : BG M' c := BG_same5 a (fun i h0 h1 _ => e2 i h0 h1) (by rw [e2 5 (by omega) (by omega)]; exact a.1.2.2.2.2.2.1)
theorem RHn_same {M M' N N' : am_M} {h c : Int} (a : RHn M N h c) (e1 : ∀ x i, h ≤ x → x ≤ h + 5 → am_rd M' x i = am_rd M x i) (e2 : ∀ i, 0 ≤ i → i < 5160 → am_rd N' c i = am_rd N c i) : RHn M' N' h c := by
  unfold RHn at a ⊢
  rw [e2 222 (by omega) (by omega), e2 1 (by omega) (by omega), e2 0 (by omega) (by omega)]
  exact ⟨CH_congr (CH_same a.1 e1) fun j j0 j1 => (e2 _ (by omega) (by omega)).symm, HB_congr a.2.1 fun j j0 j1 => e2 _ (by omega) (by omega), a.2.2⟩
theorem RSn_same {M M' N N' : am_M} {s c : Int} (a : RSn M N s c) (h30 : am_rd N c 5 ≤ 30) (e1 : ∀ x i, s ≤ x → x ≤ s + 181 → am_rd M' x i = am_rd M x i) (e2 : ∀ i, 0 ≤ i → i < 5160 → am_rd N' c i = am_rd N c i) : RSn M' N' s c := by
  obtain ⟨a1, a2, a3⟩ := a
  unfold RSn
  rw [e1 s 1 (by omega) (by omega), e1 s 2 (by omega) (by omega), e2 5 (by omega) (by omega), e2 1 (by omega) (by omega), e2 0 (by omega) (by omega)]
  refine ⟨a1, a2, fun k k0 k1 => ?_⟩
  obtain ⟨b1, b2, b3⟩ := a3 k k0 k1
  rw [e2 (402 + 164 * k) (by omega) (by omega)]
  exact ⟨CH_congr (CH_same b1 fun x i h1 h2 => e1 x i (by omega) (by omega)) fun j j0 j1 => (e2 _ (by omega) (by omega)).symm, HB_congr b2 fun j j0 j1 => e2 _ (by omega) (by omega), b3⟩
theorem RP_same {M M' N N' : am_M} {g h s c : Int} (a : RP M N g h s c) (e : ∀ x i, (g ≤ x ∧ x ≤ g + 5) ∨ (h ≤ x ∧ x ≤ h + 5) ∨ (s ≤ x ∧ x ≤ s + 181) → am_rd M' x i = am_rd M x i) (e2 : ∀ i, 0 ≤ i → i < 5160 → am_rd N' c i = am_rd N c i) : RP M' N' g h s c :=
  ⟨RG_same a.1 (fun x i h1 h2 => e x i (by omega)) (fun i _ _ _ => e2 i (by omega) (by omega)), BG_same a.2.1 (fun i _ _ => e2 i (by omega) (by omega)), RHn_same a.2.2.1 (fun x i h1 h2 => e x i (by omega)) e2, RSn_same a.2.2.2 a.2.1.1.2.2.2.2.2.1.2 (fun x i h1 h2 => e x i (by omega)) e2⟩
theorem RT_same {M M' : am_M} (a : RT M) (e : ∀ x i, (x = 1 ∧ i = 8) ∨ x = 419 ∨ (x = 420 ∧ 7 ≤ i) ∨ (x = 447 ∧ 3 ≤ i ∧ i ≤ 5) ∨ x = 450 → am_rd M' x i = am_rd M x i) : RT M' := by
  obtain ⟨a1, a2, a3, a4⟩ := a
  unfold RT
  rw [e 1 8 (by omega), e 447 3 (by omega), e 447 4 (by omega), e 447 5 (by omega), e 420 7 (by omega), e 420 8 (by omega), e 420 9 (by omega)]
  exact ⟨a1, a2, fun j h0 h1 => by rw [e 419 j (by omega), e 450 j (by omega)]; exact a3 j h0 h1, a4⟩
theorem XC_same {M M' : am_M} {s : Int} {cl : List xcl} (a : XC M s cl) (e : ∀ x i, s ≤ x → x ≤ s + 5 → am_rd M' x i = am_rd M x i) : XC M' s cl := by
  obtain ⟨a1, a2, a3⟩ := a
  refine ⟨by rw [e _ _ (by omega) (by omega)]; exact a1, fun j hj => ?_, fun k k0 k1 => CT_same (a3 k k0 k1) e⟩
  rw [e (s + 4) _ (by omega) (by omega), e (s + 5) _ (by omega) (by omega), e (s + 5) _ (by omega) (by omega), e (s + 5) _ (by omega) (by omega)]
  exact a2 j hj
theorem XM_same {M M' : am_M} {t : Int} {cl : List xcl} (a : XM M t cl) (e : ∀ x i, 451 ≤ x → x ≤ 458 → am_rd M' x i = am_rd M x i) : XM M' t cl := by
  obtain ⟨a1, a2⟩ := a
  refine ⟨by rw [e _ _ (by omega) (by omega)]; exact a1, fun j hj => ?_⟩
  obtain ⟨b1, b2, b3, b4, b5⟩ := a2 j hj
  rw [e 452 _ (by omega) (by omega), e 454 _ (by omega) (by omega), e 455 _ (by omega) (by omega), e 456 _ (by omega) (by omega), e 453 _ (by omega) (by omega)]
  exact ⟨b1, b2, b3, b4, fun h => ⟨MC_same (b5 h).1 fun c i hc => e c i (by omega) (by omega), (b5 h).2⟩⟩
theorem RX_same {M M' : am_M} (a : RX M) (e : ∀ x i, (14 ≤ x ∧ x ≤ 38) ∨ (451 ≤ x ∧ x ≤ 458) ∨ ((x = 448 ∨ x = 449) ∧ i = 3) → am_rd M' x i = am_rd M x i) : RX M' := by
  obtain ⟨a1, X, a2⟩ := a
  unfold RX
  rw [e 449 3 (by omega), e 448 3 (by omega)]
  refine ⟨a1, X, fun t t0 t4 t1 => ?_⟩
  obtain ⟨b1, b2, b3⟩ := a2 t t0 t4 t1
  exact ⟨XC_same b1 fun x i h1 h2 => e x i (by omega), XM_same b2 fun x i h1 h2 => e x i (by omega), b3⟩
/-- places that mean nothing between calls -/
def jk (c i : Int) : Prop := c = 40 ∨ c = 41 ∨ (421 ≤ c ∧ c ≤ 446) ∨ (c = 420 ∧ i < 7) ∨ 459 ≤ c ∨ (c = 447 ∧ ¬ (3 ≤ i ∧ i ≤ 5))
theorem RR_same {M M' : am_M} (a : RR M) (k : ax_K M') (e : ∀ c i, ¬ jk c i → am_rd M' c i = am_rd M c i) : RR M' := by
  unfold jk at e
  exact ⟨k, RP_same a.2.1 (fun x i h => e x i (by omega)) (fun i _ _ => e 448 i (by omega)), RP_same a.2.2.1 (fun x i h => e x i (by omega)) (fun i _ _ => e 449 i (by omega)), RT_same a.2.2.2.1 (fun x i h => e x i (by omega)), RX_same a.2.2.2.2 (fun x i h => e x i (by omega))⟩
