/-! the model's parser: a clause -/
section
variable (S I P : Int → Int)
/-- a deed's numbers -/
def mDo (k : Int) (s : PS) : MX :=
  let y := if k = 11 then mNum S I P 1 60 s else mNum S I P 0 5 s
  if k = 4 ∨ k = 5 then (y.bind (mBeh S I P 12 0 7)).bind (mBeh S I P 13 1 99)
  else if k = 7 then y.bind (mBeh S I P 14 0 7) else if k = 8 then y.bind (mBeh S I P 15 0 7) else if k = 9 then y.bind (mBeh S I P 13 0 5) else y
/-- the three numbers are kept -/
def s3 (a b c : Int) (s : PS) : PS := s_nd s.nc c (s_nb s.nc b (s_na s.nc a s))
end
section
variable {N0 : am_M} {T : Nat} {S I P Q : Int → Int} {d : Nat} {M : am_M} {s s' s2 : PS} {e : Int × Int × Nat} {y : MX}
theorem u_264w {n : Nat} (h : PY N0 T S I P Q y M) (hn : YN n y) (n24 : n < 24) {a b c : Int} : ∃ M', am_Ex d 264 56 [(2, 447), (0, a), (0, b), (0, c)] [] M = some (0, M') ∧ PY N0 T S I P Q (y.map (s3 a b c)) M' := by
  have hK := PY_K h
  have h29 : am_rd M 447 29 = (n : Int) := by
    cases y with
    | ok s => rw [PM.nc h, ← show s.nc = n from hn]
    | error e => rw [PN.nc h, ← show e.2.2 = n from hn]
  have K1 : ax_K (am_wr M 465 (n : Int) a) := m_wa hK (by omega) (by omega)
  have K2 : ax_K (am_wr (am_wr M 465 (n : Int) a) 466 (n : Int) b) := m_wa K1 (by omega) (by omega)
  rw [aq_264_56, ax_o_447, ax_gt, kr_447_33 hK, h29, ax_a_465, ax_gi (by omega) (by omega), ax_let, kr_447_34 K1, show am_rd (am_wr M 465 (n : Int) a) 447 29 = (n : Int) from (ax_wc (by decide)).trans h29, ax_a_466, ax_gi (by omega) (by omega), ax_let, kr_447_35 K2, show am_rd (am_wr (am_wr M 465 (n : Int) a) 466 (n : Int) b) 447 29 = (n : Int) from (ax_wc (by decide)).trans ((ax_wc (by decide)).trans h29), ax_a_467, ax_gi (by omega) (by omega), ax_let]
  refine ⟨_, rfl, ?_⟩
  cases y with
  | ok s =>
    have e : s.nc = n := hn
    show PM N0 T S I P Q (s3 a b c s) _
    unfold s3
    rw [e]
    exact w_nd (w_nb (w_na h))
  | error e =>
    have h : PN N0 e M := h
    show PN N0 e _
    have w : ∀ i, am_rd (am_wr (am_wr (am_wr M 465 (n : Int) a) 466 (n : Int) b) 467 (n : Int) c) 447 i = am_rd M 447 i := fun i => (ax_wc (by decide)).trans ((ax_wc (by decide)).trans (ax_wc (by decide)))
    exact ⟨m_wa K2 (by omega) (by omega), rd_wr (rd_wr (rd_wr h.fr (Or.inr (by omega))) (Or.inr (by omega))) (Or.inr (by omega)), (w _).trans h.wr, h.w0, (w _).trans h.wa, (w _).trans h.nc⟩
/-- the numbers behind the first -/
theorem u_264 (nx : NX N0 T S I P Q d) (hT : ∀ j : Nat, j < T → S j ≠ 0 → j + 1 < T) (h : PM N0 T S I P Q s M) (n24 : s.nc < 24) (hk : 4 ≤ s.nk ∧ s.nk ≤ 11) : ∃ a b c M', am_Call d 264 [(2, 447)] M = some (0, M') ∧ PY N0 T S I P Q ((mDo S I P s.nk s).map (s3 a b c)) M' ∧ ∀ s', mDo S I P s.nk s = .ok s' → a = I s.j ∧ (s.nk = 4 ∨ s.nk = 5 ∨ s.nk = 7 ∨ s.nk = 8 ∨ s.nk = 9 → b = I (s.j + 2 : Int)) ∧ (s.nk = 4 ∨ s.nk = 5 → c = I (s.j + 4 : Int)) := by
  have hnk := h.nk
  generalize hkk : s.nk = k at hk hnk
  -- the numbers behind the first, for any first
  have rest : ∀ (y : MX) (r : Int) (M1 : am_M), PY N0 T S I P Q y M1 → YN s.nc y → am_rd M1 447 30 = k → (∀ s1, y = .ok s1 → s1.j = s.j + 1) → ∃ b c M', (if am_rd M1 447 30 = 4 then ((am_Call d 250 [(2, 447), (0, 12), (0, 0), (0, 7)] M1).bind fun r105 => (am_Call d 250 [(2, 447), (0, 13), (0, 1), (0, 99)] r105.2).bind fun r106 => am_Ex d 264 56 [(2, 447), (0, r), (0, r105.1), (0, r106.1)] [] r106.2) else if am_rd M1 447 30 = 5 then ((am_Call d 250 [(2, 447), (0, 12), (0, 0), (0, 7)] M1).bind fun r108 => (am_Call d 250 [(2, 447), (0, 13), (0, 1), (0, 99)] r108.2).bind fun r109 => am_Ex d 264 56 [(2, 447), (0, r), (0, r108.1), (0, r109.1)] [] r109.2) else if am_rd M1 447 30 = 6 then (am_Ex d 264 56 [(2, 447), (0, r), (0, (-1)), (0, (-1))] [] M1) else if am_rd M1 447 30 = 7 then ((am_Call d 250 [(2, 447), (0, 14), (0, 0), (0, 7)] M1).bind fun r112 => am_Ex d 264 56 [(2, 447), (0, r), (0, r112.1), (0, (-1))] [] r112.2) else if am_rd M1 447 30 = 8 then ((am_Call d 250 [(2, 447), (0, 15), (0, 0), (0, 7)] M1).bind fun r114 => am_Ex d 264 56 [(2, 447), (0, r), (0, r114.1), (0, (-1))] [] r114.2) else if am_rd M1 447 30 = 9 then ((am_Call d 250 [(2, 447), (0, 13), (0, 0), (0, 5)] M1).bind fun r116 => am_Ex d 264 56 [(2, 447), (0, r), (0, r116.1), (0, (-1))] [] r116.2) else (am_Ex d 264 56 [(2, 447), (0, r), (0, (-1)), (0, (-1))] [] M1)) = some (0, M') ∧ PY N0 T S I P Q ((if k = 4 ∨ k = 5 then (y.bind (mBeh S I P 12 0 7)).bind (mBeh S I P 13 1 99) else if k = 7 then y.bind (mBeh S I P 14 0 7) else if k = 8 then y.bind (mBeh S I P 15 0 7) else if k = 9 then y.bind (mBeh S I P 13 0 5) else y : MX).map (s3 r b c)) M' ∧ ∀ s', (if k = 4 ∨ k = 5 then (y.bind (mBeh S I P 12 0 7)).bind (mBeh S I P 13 1 99) else if k = 7 then y.bind (mBeh S I P 14 0 7) else if k = 8 then y.bind (mBeh S I P 15 0 7) else if k = 9 then y.bind (mBeh S I P 13 0 5) else y : MX) = .ok s' → (k = 4 ∨ k = 5 ∨ k = 7 ∨ k = 8 ∨ k = 9 → b = I (s.j + 2 : Int)) ∧ (k = 4 ∨ k = 5 → c = I (s.j + 4 : Int)) := by
    intro y r M1 h1 hn h30 hj
    have jj : ∀ {w lo hi : Int} {s1 s2 : PS}, mBeh S I P w lo hi s1 = .ok s2 → s2.j = s1.j + 2 := fun {w lo hi s1 s2} q => by
      unfold mBeh mNum mErr at q
      split at q
      · split at q
        · split at q
          · cases q
          · split at q
            · cases q; rfl
            · cases q
        · cases q
      · cases q
    have one : ∀ (w lo hi : Int), ∃ b M', ((am_Call d 250 [(2, 447), (0, w), (0, lo), (0, hi)] M1).bind fun r112 => am_Ex d 264 56 [(2, 447), (0, r), (0, r112.1), (0, (-1))] [] r112.2) = some (0, M') ∧ PY N0 T S I P Q ((y.bind (mBeh S I P w lo hi)).map (s3 r b (-1))) M' ∧ ∀ s', y.bind (mBeh S I P w lo hi) = .ok s' → b = I (s.j + 2 : Int) := fun w lo hi => by
      obtain ⟨b, M2, e2, h2, _, h4⟩ := u_250 nx hT h1 (w := w) (lo := lo) (hi := hi)
      rw [e2, Option.bind_some]
      obtain ⟨M3, e3, h3⟩ := u_264w (d := d) h2 (YN_beh hn) n24 (a := r) (b := b) (c := -1)
      refine ⟨b, M3, e3, h3, fun s' q => ?_⟩
      cases y with
      | error e => cases q
      | ok s1 =>
        have := h4 s1 s' rfl q
        rw [this, hj s1 rfl]
        congr 1
    have two : ∃ b c M', ((am_Call d 250 [(2, 447), (0, 12), (0, 0), (0, 7)] M1).bind fun r105 => (am_Call d 250 [(2, 447), (0, 13), (0, 1), (0, 99)] r105.2).bind fun r106 => am_Ex d 264 56 [(2, 447), (0, r), (0, r105.1), (0, r106.1)] [] r106.2) = some (0, M') ∧ PY N0 T S I P Q (((y.bind (mBeh S I P 12 0 7)).bind (mBeh S I P 13 1 99)).map (s3 r b c)) M' ∧ ∀ s', (y.bind (mBeh S I P 12 0 7)).bind (mBeh S I P 13 1 99) = .ok s' → b = I (s.j + 2 : Int) ∧ c = I (s.j + 4 : Int) := by
      obtain ⟨b, M2, e2, h2, _, h4⟩ := u_250 nx hT h1 (w := 12) (lo := 0) (hi := 7)
      rw [e2, Option.bind_some]
      dsimp only
      obtain ⟨c, M3, e3, h3, _, h5⟩ := u_250 nx hT h2 (w := 13) (lo := 1) (hi := 99)
      rw [e3, Option.bind_some]
      obtain ⟨M4, e4, h6⟩ := u_264w (d := d) h3 (YN_beh (YN_beh hn)) n24 (a := r) (b := b) (c := c)
      refine ⟨b, c, M4, e4, h6, fun s' q => ?_⟩
      cases y with
      | error e => cases q
      | ok s1 =>
        cases hq : mBeh S I P 12 0 7 s1 with
        | error e =>
          have : (Except.bind (Except.bind (Except.ok s1) (mBeh S I P 12 0 7)) (mBeh S I P 13 1 99)) = .error e := by
            show Except.bind (mBeh S I P 12 0 7 s1) _ = _
            rw [hq]; rfl
          rw [this] at q; cases q
        | ok s2 =>
          have j1 := hj s1 rfl
          have j2 := jj hq
          have q2 : mBeh S I P 13 1 99 s2 = .ok s' := by
            have : (Except.bind (Except.bind (Except.ok s1) (mBeh S I P 12 0 7)) (mBeh S I P 13 1 99)) = mBeh S I P 13 1 99 s2 := by
              show Except.bind (mBeh S I P 12 0 7 s1) _ = _
              rw [hq]; rfl
            rw [← this]; exact q
          have b1 := h4 s1 s2 rfl hq
          have c1 := h5 s2 s' hq q2
          refine ⟨?_, ?_⟩
          · rw [b1, j1]; congr 1
          · rw [c1, j2, j1]; congr 1
    rw [h30]
    have z : k = 4 ∨ k = 5 ∨ k = 6 ∨ k = 7 ∨ k = 8 ∨ k = 9 ∨ k = 10 ∨ k = 11 := by omega
    have no : ∃ M', am_Ex d 264 56 [(2, 447), (0, r), (0, (-1)), (0, (-1))] [] M1 = some (0, M') ∧ PY N0 T S I P Q (y.map (s3 r (-1) (-1))) M' := u_264w h1 hn n24
    rcases z with rfl | rfl | rfl | rfl | rfl | rfl | rfl | rfl
    · obtain ⟨b, c, M', e1, h2, h3⟩ := two; exact ⟨b, c, M', e1, h2, fun s' q => ⟨fun _ => (h3 s' q).1, fun _ => (h3 s' q).2⟩⟩
    · obtain ⟨b, c, M', e1, h2, h3⟩ := two; exact ⟨b, c, M', e1, h2, fun s' q => ⟨fun _ => (h3 s' q).1, fun _ => (h3 s' q).2⟩⟩
    · obtain ⟨M', e1, h2⟩ := no; exact ⟨-1, -1, M', e1, h2, fun s' q => ⟨fun q => by omega, fun q => by omega⟩⟩
    · obtain ⟨b, M', e1, h2, h3⟩ := one 14 0 7; exact ⟨b, -1, M', e1, h2, fun s' q => ⟨fun _ => h3 s' q, fun q => by omega⟩⟩
    · obtain ⟨b, M', e1, h2, h3⟩ := one 15 0 7; exact ⟨b, -1, M', e1, h2, fun s' q => ⟨fun _ => h3 s' q, fun q => by omega⟩⟩
    · obtain ⟨b, M', e1, h2, h3⟩ := one 13 0 5; exact ⟨b, -1, M', e1, h2, fun s' q => ⟨fun _ => h3 s' q, fun q => by omega⟩⟩
    · obtain ⟨M', e1, h2⟩ := no; exact ⟨-1, -1, M', e1, h2, fun s' q => ⟨fun q => by omega, fun q => by omega⟩⟩
    · obtain ⟨M', e1, h2⟩ := no; exact ⟨-1, -1, M', e1, h2, fun s' q => ⟨fun q => by omega, fun q => by omega⟩⟩
  have h30 : am_rd M 447 30 = k := hnk
  have jn : ∀ {lo hi : Int} {s1 : PS}, mNum S I P lo hi s = .ok s1 → s1.j = s.j + 1 := fun {lo hi s1} q => by
    unfold mNum mErr at q
    split at q
    · split at q
      · cases q
      · split at q
        · cases q; rfl
        · cases q
    · cases q
  have nn : ∀ (lo hi : Int), YN s.nc (mNum S I P lo hi s) := fun lo hi => YN_num (y := .ok s) rfl
  have okf : ∀ {y : MX} {s' : PS}, (if k = 4 ∨ k = 5 then (y.bind (mBeh S I P 12 0 7)).bind (mBeh S I P 13 1 99) else if k = 7 then y.bind (mBeh S I P 14 0 7) else if k = 8 then y.bind (mBeh S I P 15 0 7) else if k = 9 then y.bind (mBeh S I P 13 0 5) else y : MX) = .ok s' → ∃ s1, y = .ok s1 := fun {y s'} q => by
    cases y with
    | ok s1 => exact ⟨s1, rfl⟩
    | error e =>
      exfalso
      revert q
      (repeat' split) <;> (intro q; cases q)
  rw [aq_264, ax_o_447, ax_gt, h30]
  by_cases k11 : k = 11
  · rw [if_pos k11]
    obtain ⟨r, M1, e1, h1, h2, h3⟩ := u_220 (y := .ok s) nx hT h (lo := 1) (hi := 60)
    rw [e1, Option.bind_some]
    obtain ⟨b, c, M', e2, h4, h5⟩ := rest _ r M1 h1 (nn 1 60) (h2.trans h30) (fun s1 q => jn q)
    refine ⟨r, b, c, M', e2, ?_, fun s' q => ?_⟩
    · unfold mDo; dsimp only; rw [if_pos k11]; exact h4
    · unfold mDo at q; dsimp only at q; rw [if_pos k11] at q
      obtain ⟨s1, q1⟩ := okf q
      exact ⟨h3 s s1 rfl q1, h5 s' q⟩
  · rw [if_neg k11]
    obtain ⟨r, M1, e1, h1, h2, h3⟩ := u_220 (y := .ok s) nx hT h (lo := 0) (hi := 5)
    rw [e1, Option.bind_some]
    obtain ⟨b, c, M', e2, h4, h5⟩ := rest _ r M1 h1 (nn 0 5) (h2.trans h30) (fun s1 q => jn q)
    refine ⟨r, b, c, M', e2, ?_, fun s' q => ?_⟩
    · unfold mDo; dsimp only; rw [if_neg k11]; exact h4
    · unfold mDo at q; dsimp only at q; rw [if_neg k11] at q
      obtain ⟨s1, q1⟩ := okf q
      exact ⟨h3 s s1 rfl q1, h5 s' q⟩
end
