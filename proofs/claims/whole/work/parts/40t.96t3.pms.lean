/-! the model's parser: its small methods -/
def NX (N0 : am_M) (T : Nat) (S I P Q : Int → Int) (d : Nat) : Prop := ∀ (j : Nat) (M : am_M), j < T → ax_K M → (∀ x i, ¬ mcl x i → am_rd M x i = am_rd N0 x i) → am_rd M 447 15 = Q j → am_rd M 447 18 = I ((j : Int) - 1) → ∃ M', am_Call d 194 [(2, 447)] M = some (0, M') ∧ ax_K M' ∧ (∀ x i, ¬ (x = 447 ∧ 15 ≤ i ∧ i ≤ 18) → am_rd M' x i = am_rd M x i) ∧ am_rd M' 447 15 = Q ((j : Int) + 1) ∧ am_rd M' 447 16 = P j ∧ am_rd M' 447 17 = S j ∧ am_rd M' 447 18 = I j
def sJ (s : PS) : PS := .mk (s.j + 1) s.st s.op s.nk s.fs s.ws s.cs s.nc s.kd s.po s.na s.nb s.nd
section
variable {N0 : am_M} {T : Nat} {S I P Q : Int → Int} {d : Nat} {M : am_M} {s : PS} {e : Int × Int × Nat}
theorem u_194 (nx : NX N0 T S I P Q d) (h : PM N0 T S I P Q s M) (hl : s.j + 1 < T) : ∃ M', am_Call d 194 [(2, 447)] M = some (0, M') ∧ PM N0 T S I P Q (sJ s) M' := by
  obtain ⟨M1, e1, k1, w, q1, q2, q3, q4⟩ := nx (s.j + 1) M hl h.hK h.fr h.p (by rw [h.is, show ((s.j + 1 : Nat) : Int) - 1 = (s.j : Int) by omega])
  refine ⟨M1, e1, ⟨k1, fun x i hx => (w x i fun q => hx (Or.inl ⟨q.1, Or.inl (by omega)⟩)).trans (h.fr x i hx), hl, q1, q2, q3, q4, (w _ _ (by omega)).trans h.wr, (w _ _ (by omega)).trans h.wa, (w _ _ (by omega)).trans h.op, (w _ _ (by omega)).trans h.fn, FST_congr h.fs (fun i _ _ => w _ _ (by omega)) fun i _ _ => w _ _ (by omega), (w _ _ (by omega)).trans h.wn, WST_congr h.ws fun i _ _ => ⟨w _ _ (by omega), w _ _ (by omega)⟩, (w _ _ (by omega)).trans h.st, (w _ _ (by omega)).trans h.nk, (w _ _ (by omega)).trans h.on, OST_congr h.cs fun i _ _ => ⟨w _ _ (by omega), w _ _ (by omega)⟩, (w _ _ (by omega)).trans h.nc, h.n2, fun k k0 k1 => (w _ _ (by omega)).trans (h.kd k k0 k1), fun k k0 k1 => (w _ _ (by omega)).trans (h.po k k0 k1), fun k k0 k1 => (w _ _ (by omega)).trans (h.na k k0 k1), fun k k0 k1 => (w _ _ (by omega)).trans (h.nb k k0 k1), fun k k0 k1 => (w _ _ (by omega)).trans (h.nd k k0 k1)⟩⟩
theorem u_72 (h : PM N0 T S I P Q s M) {x : Int} : am_Call d 72 [(2, 447), (0, x)] M = some (ax_b (S s.j = 3 ∧ I s.j = x), M) := by
  rw [aq_72, ax_o_447, ax_gt, h.so, h.is]
  by_cases h1 : S s.j = 3
  · rw [if_pos h1]
    by_cases h2 : I s.j = x
    · rw [if_pos h2, ax_bt ⟨h1, h2⟩]
    · rw [if_neg h2, ax_bf fun q => h2 q.2]
  · rw [if_neg h1, ax_bf fun q => h1 q.1]
theorem u_73 (h : PM N0 T S I P Q s M) {x : Int} : am_Call d 73 [(2, 447), (0, x)] M = some (ax_b (S s.j = 1 ∧ I s.j = x), M) := by
  rw [aq_73, ax_o_447, ax_gt, h.so, h.is]
  by_cases h1 : S s.j = 1
  · rw [if_pos h1]
    by_cases h2 : I s.j = x
    · rw [if_pos h2, ax_bt ⟨h1, h2⟩]
    · rw [if_neg h2, ax_bf fun q => h2 q.2]
  · rw [if_neg h1, ax_bf fun q => h1 q.1]
theorem u_74 (h : PM N0 T S I P Q s M) {x : Int} (hx : 1 ≤ x) : ∃ M', am_Call d 74 [(2, 447), (0, x)] M = some (0, M') ∧ PN N0 (x, P s.j, s.nc) M' := by
  rw [aq_74, ax_o_447, ax_gt, if_pos h.wr]
  refine ⟨_, rfl, ?_⟩
  rw [show am_rd (am_wr M 447 19 x) 447 16 = P s.j from (ax_wi (by decide)).trans h.tk]
  exact ⟨m_wr (m_wr h.hK (Or.inl ⟨rfl, by decide⟩)) (Or.inl ⟨rfl, by decide⟩), rd_wr (rd_wr h.fr (Or.inl ⟨rfl, by decide⟩)) (Or.inl ⟨rfl, by decide⟩), (ax_wi (by decide)).trans ax_ws, hx, ax_ws, (ax_wi (by decide)).trans ((ax_wi (by decide)).trans h.nc)⟩
theorem u_74e (h : PN N0 e M) {x : Int} : am_Call d 74 [(2, 447), (0, x)] M = some (0, M) := by
  have := h.w0
  rw [aq_74, ax_o_447, ax_gt, if_neg (by rw [h.wr]; omega)]
theorem u_75 (h : PM N0 T S I P Q s M) {a b : Int} (hl : s.cs.length < 400) : ∃ M', am_Call d 75 [(2, 447), (0, a), (0, b)] M = some (0, M') ∧ PM N0 T S I P Q (sCs ((a, b) :: s.cs) s) M' := by
  rw [aq_75, ax_o_447, ax_gt, kr_447_37 h.hK, h.on, ax_a_468, ax_gi (by omega) (by omega), ax_let]
  have k1 : ax_K (am_wr M 468 (s.cs.length : Int) a) := m_wa h.hK (by omega) (by omega)
  have k2 : ax_K (am_wr (am_wr M 468 (s.cs.length : Int) a) 469 (s.cs.length : Int) b) := m_wa k1 (by omega) (by omega)
  rw [kr_447_38 k1, show am_rd (am_wr M 468 (s.cs.length : Int) a) 447 36 = (s.cs.length : Int) from (ax_wc (by decide)).trans h.on, ax_a_469, ax_gi (by omega) (by omega), ax_let, show am_rd (am_wr (am_wr M 468 (s.cs.length : Int) a) 469 (s.cs.length : Int) b) 447 36 = (s.cs.length : Int) from (ax_wc (by decide)).trans ((ax_wc (by decide)).trans h.on), ax_w32 (by omega) (by omega)]
  exact ⟨_, rfl, w_emit h⟩
theorem u_76 (h : PM N0 T S I P Q s M) {k z : Int} (hk : k ≠ 5) (hl : s.fs.length < 40) : ∃ M', am_Call d 76 [(2, 447), (0, k)] M = some (0, M') ∧ PM N0 T S I P Q (sFs ((k, z) :: s.fs) s) M' := by
  rw [aq_76, ax_o_447, ax_gt, kr_447_23 h.hK, h.fn, ax_a_459, ax_gi (by omega) (by omega), ax_let, show am_rd (am_wr M 459 (s.fs.length : Int) k) 447 22 = (s.fs.length : Int) from (ax_wc (by decide)).trans h.fn, ax_w32 (by omega) (by omega)]
  exact ⟨_, rfl, w_push h hk⟩
theorem u_77 (h : PM N0 T S I P Q s M) {z : Int × Int} {l : List (Int × Int)} (e : s.fs = z :: l) (hl : l.length < 39) : am_Call d 77 [(2, 447)] M = some (z.1, M) := by
  have q := (e ▸ h.fs : FST M (z :: l)).1
  have f : am_rd M 447 22 = (l.length : Int) + 1 := h.fn.trans (by rw [e]; rfl)
  rw [aq_77, ax_o_447, ax_gt, kr_447_23 h.hK, f, ax_w32 (by omega) (by omega), show (l.length : Int) + 1 - 1 = (l.length : Int) by omega, ax_a_459, ax_gi (by omega) (by omega), q]
def rk (g : Int) : Int := if g = 407 then 1 else if g = 406 then 2 else if g = 43 then 3 else if g = 45 then 3 else 4
theorem u_78 {g : Int} : am_Call d 78 [(0, g)] M = some (rk g, M) := by
  rw [aq_78]
  unfold rk
  rw [aq_78_17]
  repeat' split
  all_goals rfl
theorem u_80 (h : PM N0 T S I P Q s M) (hi : S s.j = 1 → 0 ≤ I s.j ∧ I s.j ≤ 28) : am_Call d 80 [(2, 447)] M = some (if S s.j = 1 ∧ 19 < I s.j then I s.j - 20 else -1, M) := by
  rw [aq_80, ax_o_447, ax_gt, h.so, h.is]
  by_cases h1 : S s.j = 1
  · have := hi h1
    rw [if_pos h1]
    by_cases h2 : I s.j ≤ 19
    · rw [if_pos h2, if_neg (by omega)]
    · rw [if_neg h2, if_pos ⟨h1, by omega⟩, ax_w32 (x := I s.j - 19) (by omega) (by omega), ax_w32 (by omega) (by omega), show I s.j - 19 - 1 = I s.j - 20 by omega]
  · rw [if_neg h1, if_neg fun q => h1 q.1]
def isQ (g : Int) : Int := if g = 60 then 1 else if g = 62 then 1 else if g = 61 then 1 else if g = 35 then 1 else if g = 300 then 1 else if g = 301 then 1 else 0
theorem u_81 {g : Int} : am_Call d 81 [(0, g)] M = some (isQ g, M) := by
  rw [aq_81]
  unfold isQ
  rw [aq_81_19]
  repeat' split
  all_goals rfl
def mayN (n k : Int) : Int := if n < 5 then 1 else if n = 5 then (if k = 1 then 1 else if k = 2 then 1 else 0) else if n = 8 then (if k = 3 then 1 else 0) else if k = 1 then 1 else 0
theorem u_79 {n k : Int} : am_Call d 79 [(0, n), (0, k)] M = some (mayN n k, M) := by
  rw [aq_79]
  unfold mayN
  rw [aq_79_24]
  repeat' split
  all_goals rfl
theorem u_82 (h : PM N0 T S I P Q s M) {k : Int} : ∀ (m : Nat) (i r : Int), 0 ≤ i → i + m = s.nc → (r = 0 ∨ r = 1) → ∃ r', am_Ex d 82 5 [(2, 447), (0, k), (0, r), (0, i)] [] M = some (r', M) ∧ (r' = 0 ∨ r' = 1) ∧ (r' = 0 ↔ r = 0 ∧ ∀ j, i ≤ j → j < (s.nc : Int) → s.kd j ≠ k) := by
  have n2 := h.n2
  intro m
  induction m with
  | zero =>
    intro i r i0 hi hr
    rw [aq_82_5, ax_o_447, ax_gt, h.nc, if_neg (by omega), ax_gb2 (by omega) (by omega)]
    exact ⟨r, rfl, hr, ⟨fun e => ⟨e, fun j j0 j1 => by omega⟩, fun e => e.1⟩⟩
  | succ m ih =>
    intro i r i0 hi hr
    rw [aq_82_5, ax_o_447, ax_gt, h.nc, if_pos (by omega)]
    by_cases r0 : r = 0
    · rw [if_pos r0, kr_447_31 h.hK, ax_a_463, ax_gi (by omega) (by omega), h.kd i i0 (by omega)]
      by_cases q : s.kd i = k
      · rw [if_pos q, aq_82_18, ax_let, ax_w32 (by omega) (by omega)]
        obtain ⟨r', e, h1, h2⟩ := ih (i + 1) 1 (by omega) (by omega) (Or.inr rfl)
        refine ⟨r', e, h1, ⟨fun z => absurd (h2.mp z).1 (by decide), fun z => absurd q (z.2 i (by omega) (by omega))⟩⟩
      · rw [if_neg q, ax_let, ax_w32 (by omega) (by omega)]
        obtain ⟨r', e, h1, h2⟩ := ih (i + 1) 0 (by omega) (by omega) (Or.inl rfl)
        refine ⟨r', e, h1, ⟨fun z => ⟨r0, fun j j0 j1 => ?_⟩, fun z => h2.mpr ⟨rfl, fun j j0 j1 => z.2 j (by omega) j1⟩⟩⟩
        by_cases hj : j = i
        · rw [hj]; exact q
        · exact (h2.mp z).2 j (by omega) j1
    · rw [if_neg r0, aq_82_18, ax_let, ax_w32 (by omega) (by omega)]
      obtain ⟨r', e, h1, h2⟩ := ih (i + 1) 1 (by omega) (by omega) (Or.inr rfl)
      exact ⟨r', e, h1, ⟨fun z => absurd (h2.mp z).1 (by decide), fun z => absurd z.1 r0⟩⟩
end
