/-! one value: the recursion -/
section
variable {M0 : am_M} {s : Int} {T : Nat} {K N P : Int → Int} {d : Nat} {M : am_M} {c : CS} {x : CX} {e : Int × Int} {f : CS → CX} {o : Int}
theorem tx_fail (t : TK M0 s T K N P) (h : PX M0 s T x M) {v : Int} (hv : v ≠ 0) : Ctr M0 s T ((am_Call d 44 [(2, 420), (0, v)] M).bind fun r => some (0, r.2)) (x.bind (cErr P v)) := by
  obtain ⟨M1, e1, h1⟩ := c_44 (d := d) t hv h
  rw [e1]
  exact ⟨_, _, rfl, h1⟩
theorem tx_45 (h : PX M0 s T x M) : ∃ v, am_Call d 45 [(2, 420)] M = some (v, M) := by
  have hK := PX_K h
  rw [aq_45, ax_o_420, ax_gt]
  by_cases h1 : am_rd M 420 4 < 0
  · rw [if_pos h1]; exact ⟨_, rfl⟩
  · rw [if_neg h1, kr_420_1 hK, show am_ia 422 = true from rfl, ax_gt, show am_ln 422 = 301 from rfl]
    by_cases h2 : am_rd M 420 4 < 301
    · rw [if_pos h2, ax_a_422, ax_gi (by omega) h2]; exact ⟨_, rfl⟩
    · rw [if_neg h2]; exact ⟨_, rfl⟩
theorem tx_adv54 (t : TK M0 s T K N P) (h : PC M0 s T c M) (hk : K c.at_ ≠ 44) {z : cd} {v : Int} (hv : v = lx_enc z) : Ctr M0 s T ((am_Call d 54 [(2, s), (0, v)] M).bind fun r => am_let (am_wr r.2 420 4 (am_w32 (am_rd r.2 420 4 + 1))) fun M1 => some (0, M1)) (.ok (cAdv (cPush z c))) := by
  obtain ⟨M1, e1, h1⟩ := tx_54 (d := d) (x := .ok c) t h hv
  rw [e1]
  have h1 : PX M0 s T (.ok (cPush z c)) M1 := h1
  refine ⟨_, _, rfl, adv t h1 ?_⟩
  show K (cPush z c).at_ ≠ 44
  rw [show (cPush z c).at_ = c.at_ by unfold cPush; split <;> rfl]
  exact hk
theorem tx_128 (t : TK M0 s T K N P) : ∀ (n : Nat) (o : Int) (d : Nat) (x : CX) (M : am_M), 1 ≤ n → n + o = 9 → 0 ≤ o → n ≤ d → PX M0 s T x M → Ctr M0 s T (am_Call d 128 [(2, 420), (0, o)] M) (x.bind (cOne K N P T n o)) := by
  intro n
  induction n with
  | zero => intro o d x M n1; omega
  | succ n ih =>
    intro o d x M _ ho o0 hd h
    obtain ⟨d, rfl⟩ : ∃ d', d = d' + 1 := ⟨d - 1, by omega⟩
    rw [aq_128, ax_o_420, ax_gt, c_43 t h, Option.bind_some]
    dsimp only
    cases x with
    | error e =>
      rw [if_neg (show ¬ tk K (.error e) = 42 by show ¬ (44 : Int) = 42; decide), aq_128_15]
      show Ctr M0 s T (if (44 : Int) = 42 then _ else _) (.error e)
      rw [if_neg (by decide), if_neg (show ¬ tk K (.error e) < 12 by show ¬ (44 : Int) < 12; decide), if_neg (show ¬ tk K (.error e) ≤ 20 by show ¬ (44 : Int) ≤ 20; decide), aq_128_45, if_neg (show ¬ tk K (.error e) < 12 by show ¬ (44 : Int) < 12; decide), if_neg (show ¬ tk K (.error e) ≤ 20 by show ¬ (44 : Int) ≤ 20; decide), aq_128_64]
      show Ctr M0 s T (if (44 : Int) = 37 then _ else if (44 : Int) = 24 then _ else if (44 : Int) = 34 then _ else _) (.error e)
      rw [if_neg (by decide), if_neg (by decide), if_neg (by decide), ax_o_420, ax_gt]
      exact tx_fail t h (by decide)
    | ok c =>
      have hc : PC M0 s T c M := h
      show Ctr M0 s T (if K c.at_ = 42 then _ else _) (cOne K N P T (n + 1) o c)
      unfold cOne
      show Ctr M0 s T (if K c.at_ = 42 then ((am_Call (d + 1) 45 [(2, 420)] M).bind fun r104 => if r104.1 ≤ 9999 then (am_Ex (d + 1) 128 15 [(2, 420), (0, o), (0, K c.at_)] [] r104.2) else ((am_Call (d + 1) 44 [(2, 420), (0, 2)] r104.2).bind fun r106 => some (0, r106.2))) else (am_Ex (d + 1) 128 15 [(2, 420), (0, o), (0, K c.at_)] [] M)) _
      generalize hk : K c.at_ = k
      by_cases k42 : k = 42
      · rw [if_pos k42, if_pos k42, c_45 t hc, Option.bind_some]
        dsimp only
        by_cases q : N c.at_ ≤ 9999
        · rw [if_pos q, if_pos q, aq_128_15, if_pos k42, ax_o_420, ax_gt, c_45 t hc, Option.bind_some]
          dsimp only
          rw [px_s (x := .ok c) t hc, sx_o t.sx, ax_gt]
          exact tx_adv54 t hc (by omega) rfl
        · rw [if_neg q, if_neg q]
          exact tx_fail (x := .ok c) t h (by decide)
      · rw [if_neg k42, if_neg k42, aq_128_15, if_neg k42]
        by_cases kn : 12 ≤ k ∧ k ≤ 20
        · rw [if_pos kn, if_neg (by omega), if_pos kn.2, ax_o_420, ax_gt, tx_46, Option.bind_some, hc.law]
          dsimp only
          by_cases q : nmL c.law k = 0
          · rw [if_pos q, if_pos q]
            exact tx_fail (x := .ok c) t h (by decide)
          · rw [if_neg q, if_neg q, aq_128_45, if_neg (by omega), if_pos kn.2, ax_o_420, ax_gt, px_s (x := .ok c) t hc, sx_o t.sx, ax_gt, ax_w32 (by omega) (by omega)]
            exact tx_adv54 t hc (by omega) (by show -k = -(12 + (k - 12)); omega)
        · rw [if_neg kn]
          have e64 : (if k < 12 then am_Ex (d + 1) 128 64 [(2, 420), (0, o), (0, k)] [] M else if k ≤ 20 then (am_g (am_ob 420 6) <| am_g (am_ob (am_rd M 420 6) 8) <| (am_Call (d + 1) 54 [(2, am_rd M 420 6), (0, am_w32 (-k))] M).bind fun r105 => am_let (am_wr r105.2 420 4 (am_w32 ((am_rd r105.2 420 4) + 1))) fun M106 => some (0, M106)) else am_Ex (d + 1) 128 64 [(2, 420), (0, o), (0, k)] [] M) = am_Ex (d + 1) 128 64 [(2, 420), (0, o), (0, k)] [] M := by
            by_cases q : k < 12
            · rw [if_pos q]
            · rw [if_neg q, if_neg (by omega)]
          have e45 : am_Ex (d + 1) 128 45 [(2, 420), (0, o), (0, k)] [] M = am_Ex (d + 1) 128 64 [(2, 420), (0, o), (0, k)] [] M := by rw [aq_128_45]; exact e64
          have e15 : ∀ y, (if k < 12 then am_Ex (d + 1) 128 45 [(2, 420), (0, o), (0, k)] [] M else if k ≤ 20 then y else am_Ex (d + 1) 128 45 [(2, 420), (0, o), (0, k)] [] M) = am_Ex (d + 1) 128 64 [(2, 420), (0, o), (0, k)] [] M := fun y => by
            by_cases q : k < 12
            · rw [if_pos q, e45]
            · rw [if_neg q, if_neg (by omega), e45]
          rw [e15, aq_128_64]
          by_cases ks : k = 37 ∨ k = 24 ∨ k = 34
          · rw [if_pos ks]
            have e78 : ∀ y, (if k = 37 then am_Ex (d + 1) 128 78 [(2, 420), (0, o), (0, k)] [] M else if k = 24 then am_Ex (d + 1) 128 78 [(2, 420), (0, o), (0, k)] [] M else if k = 34 then am_Ex (d + 1) 128 78 [(2, 420), (0, o), (0, k)] [] M else y) = am_Ex (d + 1) 128 78 [(2, 420), (0, o), (0, k)] [] M := fun y => by
              rcases ks with rfl | rfl | rfl <;> rfl
            rw [e78, aq_128_78]
            by_cases o8 : o < 8
            · rw [if_pos o8, if_pos o8]
              have ha : PX M0 s T (.ok (cAdv c)) _ := adv (x := .ok c) t h (by show K c.at_ ≠ 44; omega)
              by_cases k37 : k = 37
              · rw [if_pos k37, if_pos k37, ax_o_420, ax_gt, ax_let, ax_w32 (x := o + 1) (by omega) (by omega)]
                obtain ⟨r, M2, e2, h2⟩ := tx_178 (d := d) t (fun x M h => ih (o + 1) d x M (by omega) (by omega) (by omega) (by omega) h) ha
                rw [e2, Option.bind_some]
                dsimp only
                have h2 : PX M0 s T (cSum K T (cOne K N P T n (o + 1)) (cAdv c)) M2 := h2
                have := tx_126 (d := d + 1) t h2 (k := 38) (by decide)
                rw [aq_126, ax_o_420, ax_gt] at this
                exact this
              · rw [if_neg k37, if_neg k37, ax_o_420, ax_gt, ax_let, ax_w32 (x := o + 1) (by omega) (by omega)]
                obtain ⟨r, M2, e2, h2⟩ := ih (o + 1) d _ _ (by omega) (by omega) (by omega) (by omega) ha
                rw [e2, Option.bind_some]
                dsimp only
                have h2 : PX M0 s T (cOne K N P T n (o + 1) (cAdv c)) M2 := h2
                rw [bind_ok]
                by_cases k24 : k = 24
                · rw [if_pos k24, if_pos k24, px_s t h2, sx_o t.sx, ax_gt]
                  obtain ⟨M3, e3, h3⟩ := tx_54 (d := d + 1) t h2 (z := (403, 0)) (v := -24) rfl
                  rw [e3]
                  exact ⟨_, _, rfl, h3⟩
                · rw [if_neg k24, if_neg k24, px_s t h2, sx_o t.sx, ax_gt]
                  obtain ⟨M3, e3, h3⟩ := tx_54 (d := d + 1) t h2 (z := (402, 0)) (v := -45) rfl
                  rw [e3]
                  exact ⟨_, _, rfl, h3⟩
            · rw [if_neg o8, if_neg o8, ax_o_420, ax_gt]
              exact tx_fail (x := .ok c) t h (by decide)
          · rw [if_neg ks, if_neg (by omega), if_neg (by omega), if_neg (by omega), ax_o_420, ax_gt]
            exact tx_fail (x := .ok c) t h (by decide)
theorem tx_178n (t : TK M0 s T K N P) {n : Nat} {o : Int} (n1 : 1 ≤ n) (ho : n + o = 9) (o0 : 0 ≤ o) (hd : n ≤ d) (h : PX M0 s T x M) : Ctr M0 s T (am_Call d 178 [(2, 420), (0, o)] M) (x.bind (cSum K T (cOne K N P T n o))) := tx_178 t (fun x M h => tx_128 t n o d x M n1 ho o0 hd h) h
end
