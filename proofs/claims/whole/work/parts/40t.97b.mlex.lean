/-! the model's lexer -/
def q_m (L : Nat) (B : Int → Int) (M : am_M) : Prop := ax_K M ∧ am_rd M 447 14 = (L : Int) ∧ L ≤ 300 ∧ ∀ j : Nat, j < L → am_rd M 450 j = q_b (B j) ∧ 0 ≤ B j ∧ B j < 256
theorem q_cmp {a b : Int} : (am_cmp a b = 0) = (a = b) := by
  unfold am_cmp
  apply propext
  constructor
  · intro h
    split at h
    · cases h
    · split at h
      · cases h
      · omega
  · intro h
    rw [if_neg (by omega), if_neg (by omega)]
theorem q_ch {c : Prop} [Decidable c] {v y : Int} {M : am_M} {Y : Option (Int × am_M)} (h : Y = some (y, M)) : (if c then some (v, M) else Y) = some (if c then v else y, M) := by
  rw [h]
  split <;> rfl
theorem q_71 {d : Nat} {x : Int} {M : am_M} : am_Call d 71 [(1, x)] M = some (q_wi q_H 0 x, M) := by
  rw [aq_71]
  simp only [q_cmp]
  exact q_ch (q_ch (q_ch (q_ch (q_ch (q_ch (q_ch (q_ch (q_ch (q_ch (q_ch (q_ch (q_ch (q_ch (q_ch (q_ch (q_ch (q_ch (q_ch (q_ch (q_ch (q_ch (q_ch (q_ch (q_ch (q_ch (q_ch (q_ch (q_ch rfl))))))))))))))))))))))))))))

section
variable {d L : Nat} {B : Int → Int} {M : am_M} {q e : Nat}
theorem q_m_w (h : q_m L B M) {i v : Int} (hi : 15 ≤ i ∧ i ≤ 18) : q_m L B (am_wr M 447 i v) := ⟨m_wr h.1 (Or.inl ⟨rfl, Or.inl ⟨hi.1, by omega⟩⟩), (ax_wi (by omega)).trans h.2.1, h.2.2.1, fun j hj => ⟨(ax_wc (by decide)).trans (h.2.2.2 j hj).1, (h.2.2.2 j hj).2⟩⟩
theorem q_64 {x lo hi : Int} : am_Call d 64 [(0, x), (0, lo), (0, hi)] M = some (ax_b (lo ≤ x ∧ x ≤ hi), M) := by
  rw [aq_64]
  by_cases h1 : x < lo
  · rw [if_pos h1, ax_bf (by omega)]
  · rw [if_neg h1]
    by_cases h2 : x ≤ hi
    · rw [if_pos h2, ax_bt (by omega)]
    · rw [if_neg h2, ax_bf (by omega)]
theorem q_151 {x : Int} : am_Call d 151 [(0, x)] M = some (ax_b (q_L x), M) := by
  rw [aq_151, q_64, Option.bind_some]
  dsimp only
  by_cases a : 97 ≤ x ∧ x ≤ 122
  · rw [ax_bt a, if_neg (by decide), aq_151_11, ax_bt (Or.inl a)]
  · rw [ax_bf a, if_pos rfl, q_64, Option.bind_some]
    dsimp only
    by_cases b : 65 ≤ x ∧ x ≤ 90
    · rw [ax_bt b, if_neg (by decide), aq_151_11, ax_bt (Or.inr b)]
    · rw [ax_bf b, if_pos rfl, ax_bf (by omega)]
theorem q_bs {x : Int} (h : x < 128) : q_b x = x := if_pos h
theorem q_1 (hq : q ≤ L) (ns : q < L → ¬ q_S (B q)) : ∀ (m p : Nat) (M : am_M), p + m = q → (∀ j : Nat, p ≤ j → j < q → q_S (B j)) → q_m L B M → am_rd M 447 15 = (p : Int) → ∃ M', am_Ex d 194 1 [(2, 447), am_N, am_N, am_N, am_N] [] M = am_Ex d 194 29 [(2, 447), am_N, am_N, am_N, am_N] [] M' ∧ q_m L B M' ∧ am_rd M' 447 15 = (q : Int) ∧ ∀ x i, ¬ (x = 447 ∧ i = 15) → am_rd M' x i = am_rd M x i := by
  intro m
  induction m with
  | zero =>
    intro p M hp hs hm h15
    refine ⟨M, ?_, hm, by rw [h15]; omega, fun _ _ _ => rfl⟩
    rw [aq_194_1, ax_o_447, ax_gt, h15, hm.2.1]
    by_cases z : p < L
    · have hb := hm.2.2.2 p z
      have n := ns (by omega)
      have ep : p = q := by omega
      rw [← ep] at n
      have L3 := hm.2.2.1
      have hb2 : q_b (B p) ≠ 32 ∧ q_b (B p) ≠ 10 := by unfold q_b; split <;> omega
      rw [if_pos (by omega), kr_447_2 hm.1, ax_a_450, ax_gi (by omega) (by omega), hb.1, if_neg hb2.1, if_neg hb2.2]
    · rw [if_neg (by omega)]
  | succ m ih =>
    intro p M hp hs hm h15
    have z : p < L := by omega
    have hb := hm.2.2.2 p z
    have s := hs p (Nat.le_refl _) (by omega)
    have L3 := hm.2.2.1
    have e21 : am_Ex d 194 1 [(2, 447), am_N, am_N, am_N, am_N] [] M = am_Ex d 194 21 [(2, 447), am_N, am_N, am_N, am_N] [] M := by
      rw [aq_194_1, ax_o_447, ax_gt, h15, hm.2.1, if_pos (by omega), kr_447_2 hm.1, ax_a_450, ax_gi (by omega) (by omega), hb.1, q_bs (by omega)]
      rcases s with s | s
      · rw [if_pos s]
      · rw [if_neg (by omega), if_pos s]
    rw [e21, aq_194_21, ax_o_447, ax_gt, ax_let, h15, ax_w32 (by omega) (by omega)]
    obtain ⟨M', a, b, c, f⟩ := ih (p + 1) (am_wr M 447 15 ((p : Int) + 1)) (by omega) (fun j h1 h2 => hs j (by omega) h2) (q_m_w hm (by decide)) ax_ws
    exact ⟨M', a, b, c, fun x i h => (f x i h).trans (if_neg h)⟩
theorem q_56 (he : e ≤ L) (hl : ∀ j : Nat, q ≤ j → j < e → q_L (B j)) (ne : e < L → ¬ q_L (B e)) : ∀ (m c : Nat) (x2 : Int) (M : am_M), q + c + m = e → q_m L B M → am_rd M 447 15 = ((q + c : Nat) : Int) → (c ≤ 8 → x2 = q_hr (q_rl B q c)) → ∃ M' x2', am_Ex d 194 56 [(2, 447), am_N, (1, x2), am_N, (0, (c : Int))] [] M = am_Ex d 194 95 [(2, 447), am_N, (1, x2'), am_N, (0, ((e - q : Nat) : Int))] [] M' ∧ q_m L B M' ∧ am_rd M' 447 15 = (e : Int) ∧ (e - q ≤ 8 → x2' = q_hr (q_rl B q (e - q))) ∧ ∀ x i, ¬ (x = 447 ∧ i = 15) → am_rd M' x i = am_rd M x i := by
  intro m
  induction m with
  | zero =>
    intro c x2 M hc hm h15 hx
    have ec : c = e - q := by omega
    refine ⟨M, x2, ?_, hm, by rw [h15]; omega, by rw [← ec]; exact hx, fun _ _ _ => rfl⟩
    rw [aq_194_56, ax_o_447, ax_gt, h15, hm.2.1, ← ec]
    by_cases z : q + c < L
    · have hb := hm.2.2.2 (q + c) z
      have L3 := hm.2.2.1
      have n := ne (by omega)
      have ee : e = q + c := by omega
      rw [ee] at n
      rw [if_pos (by omega), kr_447_2 hm.1, ax_a_450, ax_gi (by omega) (by omega), hb.1, q_151, Option.bind_some]
      dsimp only
      have n2 : ¬ q_L (q_b (B ((q + c : Nat) : Int))) := by unfold q_b; split <;> omega
      rw [ax_bf n2, if_pos rfl]
    · rw [if_neg (by omega)]
  | succ m ih =>
    intro c x2 M hc hm h15 hx
    have z : q + c < L := by omega
    have hb := hm.2.2.2 (q + c) z
    have L3 := hm.2.2.1
    have l := hl (q + c) (by omega) (by omega)
    rw [aq_194_56, ax_o_447, ax_gt, h15, hm.2.1, if_pos (by omega), kr_447_2 hm.1, ax_a_450, ax_gi (by omega) (by omega), hb.1, q_bs (by omega), q_151, Option.bind_some]
    dsimp only
    rw [ax_bt l, if_neg (by decide), kr_447_2 hm.1, h15, ax_a_450, ax_gi (by omega) (by omega), hb.1, q_bs (by omega)]
    have w : am_w32 (((q + c : Nat) : Int) + 1) = ((q + (c + 1) : Nat) : Int) := by rw [ax_w32 (by omega) (by omega)]; omega
    have w2 : am_w32 ((c : Int) + 1) = ((c + 1 : Nat) : Int) := by rw [ax_w32 (by omega) (by omega)]; omega
    by_cases c8 : c < 8
    · have hx2 := hx (by omega)
      have hr := q_hr_r (q_rl B q c) (q_rl_all (f := q_L) _ fun i hi => hl (q + i) (by omega) (by omega))
      rw [q_rl_len] at hr
      have pw : (64 ^ c : Nat) ≤ 64 ^ 8 := Nat.pow_le_pow_right (by decide) (by omega)
      have pw : (64 ^ c : Nat) ≤ 281474976710656 := pw
      rw [if_pos (by omega), ax_let, ax_let, ax_let, w, w2, am_w64_id (x := 64 * x2) (by omega) (by omega), am_w64_id (x := 64 * x2 + B ((q + c : Nat) : Int)) (by omega) (by omega), am_w64_id (by omega) (by omega)]
      obtain ⟨M', x2', a, b, c', f, g⟩ := ih (c + 1) (64 * x2 + B ((q + c : Nat) : Int) - 64) (am_wr M 447 15 ((q + (c + 1) : Nat) : Int)) (by omega) (q_m_w hm (by decide)) ax_ws (fun _ => by
        show _ = 64 * q_hr (q_rl B q c) + (B ((q + c : Nat) : Int) - 64)
        rw [hx2]; omega)
      exact ⟨M', x2', a, b, c', f, fun x i h => (g x i h).trans (if_neg h)⟩
    · rw [if_neg (by omega), ax_let, ax_let, w, w2]
      obtain ⟨M', x2', a, b, c', f, g⟩ := ih (c + 1) x2 (am_wr M 447 15 ((q + (c + 1) : Nat) : Int)) (by omega) (q_m_w hm (by decide)) ax_ws (fun h => by omega)
      exact ⟨M', x2', a, b, c', f, fun x i h => (g x i h).trans (if_neg h)⟩
theorem q_95 {c : Nat} {x2 : Int} (hm : q_m L B M) (hx : c ≤ 8 → x2 = q_hr (q_rl B q c)) : ∃ M', am_Ex d 194 95 [(2, 447), am_N, (1, x2), am_N, (0, (c : Int))] [] M = some (0, M') ∧ q_m L B M' ∧ am_rd M' 447 18 = q_mw (q_rl B q c) ∧ am_rd M' 447 17 = (if q_mw (q_rl B q c) < 0 then 4 else 1) ∧ ∀ x i, ¬ (x = 447 ∧ (i = 17 ∨ i = 18)) → am_rd M' x i = am_rd M x i := by
  have fin : ∀ v : Int, v = q_mw (q_rl B q c) → ∃ M', (if am_rd (am_wr M 447 18 v) 447 18 < 0 then (am_let (am_wr (am_wr M 447 18 v) 447 17 4) fun M106 => some ((0 : Int), M106)) else (am_let (am_wr (am_wr M 447 18 v) 447 17 1) fun M107 => some (0, M107))) = some (0, M') ∧ q_m L B M' ∧ am_rd M' 447 18 = q_mw (q_rl B q c) ∧ am_rd M' 447 17 = (if q_mw (q_rl B q c) < 0 then 4 else 1) ∧ ∀ x i, ¬ (x = 447 ∧ (i = 17 ∨ i = 18)) → am_rd M' x i = am_rd M x i := fun v hv => by
    rw [← hv, show am_rd (am_wr M 447 18 v) 447 18 = v from ax_ws]
    by_cases z : v < 0
    · rw [if_pos z, if_pos z, ax_let]
      refine ⟨_, rfl, q_m_w (q_m_w hm (by decide)) (by decide), (ax_wi (by decide)).trans ax_ws, ax_ws, fun x i h => ?_⟩
      rw [ax_rw, if_neg (by omega), ax_rw, if_neg (by omega)]
    · rw [if_neg z, if_neg z, ax_let]
      refine ⟨_, rfl, q_m_w (q_m_w hm (by decide)) (by decide), (ax_wi (by decide)).trans ax_ws, ax_ws, fun x i h => ?_⟩
      rw [ax_rw, if_neg (by omega), ax_rw, if_neg (by omega)]
  rw [aq_194_95]
  by_cases c7 : c ≤ 7
  · rw [if_pos (by omega), q_71, Option.bind_some, ax_o_447, ax_gt, ax_let]
    exact fin _ (by unfold q_mw; rw [q_rl_len, if_pos c7, hx (by omega)])
  · rw [if_neg (by omega), ax_o_447, ax_gt, ax_let]
    exact fin _ (by unfold q_mw; rw [q_rl_len, if_neg c7])
theorem q_125 (he : e ≤ L) (hl : ∀ j : Nat, q ≤ j → j < e → q_D (B j)) (ne : e < L → ¬ q_D (B e)) : ∀ (m c : Nat) (M : am_M), q + c + m = e → q_m L B M → am_rd M 447 15 = ((q + c : Nat) : Int) → am_rd M 447 18 = q_mn B q c → ∃ M', am_Ex d 194 125 [(2, 447), am_N, am_N, am_N, am_N] [] M = some (0, M') ∧ q_m L B M' ∧ am_rd M' 447 15 = (e : Int) ∧ am_rd M' 447 18 = q_mn B q (e - q) ∧ ∀ x i, ¬ (x = 447 ∧ (i = 15 ∨ i = 18)) → am_rd M' x i = am_rd M x i := by
  intro m
  induction m with
  | zero =>
    intro c M hc hm h15 h18
    have ec : c = e - q := by omega
    refine ⟨M, ?_, hm, by rw [h15]; omega, by rw [← ec]; exact h18, fun _ _ _ => rfl⟩
    rw [aq_194_125, ax_o_447, ax_gt, h15, hm.2.1]
    by_cases z : q + c < L
    · have hb := hm.2.2.2 (q + c) z
      have L3 := hm.2.2.1
      have n := ne (by omega)
      have ee : e = q + c := by omega
      rw [ee] at n
      rw [if_pos (by omega), kr_447_2 hm.1, ax_a_450, ax_gi (by omega) (by omega), hb.1, q_64, Option.bind_some]
      dsimp only
      have n2 : ¬ (48 ≤ q_b (B ((q + c : Nat) : Int)) ∧ q_b (B ((q + c : Nat) : Int)) ≤ 57) := by unfold q_b; split <;> omega
      rw [ax_bf n2, if_pos rfl]
    · rw [if_neg (by omega)]
  | succ m ih =>
    intro c M hc hm h15 h18
    have z : q + c < L := by omega
    have hb := hm.2.2.2 (q + c) z
    have L3 := hm.2.2.1
    have l := hl (q + c) (by omega) (by omega)
    have r := (q_n_rel (B := B) (q := q) c fun i hi => hl (q + i) (by omega) (by omega)).2.1
    have w : am_w32 (((q + c : Nat) : Int) + 1) = ((q + (c + 1) : Nat) : Int) := by rw [ax_w32 (by omega) (by omega)]; omega
    rw [aq_194_125, ax_o_447, ax_gt, h15, hm.2.1, if_pos (by omega), kr_447_2 hm.1, ax_a_450, ax_gi (by omega) (by omega), hb.1, q_bs (by omega), q_64, Option.bind_some]
    dsimp only
    rw [ax_bt l, if_neg (by decide), h18]
    by_cases t : q_mn B q c ≤ 99999
    · rw [if_pos t, kr_447_2 hm.1, h15, ax_a_450, ax_gi (by omega) (by omega), hb.1, q_bs (by omega), ax_let, ax_let, ax_w32 (x := 10 * q_mn B q c) (by omega) (by omega), ax_w32 (x := 10 * q_mn B q c + B ((q + c : Nat) : Int)) (by omega) (by omega), ax_w32 (x := 10 * q_mn B q c + B ((q + c : Nat) : Int) - 48) (by omega) (by omega), show am_rd (am_wr M 447 18 (10 * q_mn B q c + B ((q + c : Nat) : Int) - 48)) 447 15 = ((q + c : Nat) : Int) from (ax_wi (by decide)).trans h15, w]
      obtain ⟨M', a, b, c', f, g⟩ := ih (c + 1) (am_wr (am_wr M 447 18 (10 * q_mn B q c + B ((q + c : Nat) : Int) - 48)) 447 15 ((q + (c + 1) : Nat) : Int)) (by omega) (q_m_w (q_m_w hm (by decide)) (by decide)) ax_ws ((ax_wi (by decide)).trans (ax_ws.trans (by
        show _ = (if q_mn B q c ≤ 99999 then _ else q_mn B q c)
        rw [if_pos t])))
      refine ⟨M', a, b, c', f, fun x i h => (g x i h).trans ?_⟩
      rw [ax_rw, if_neg (by omega), ax_rw, if_neg (by omega)]
    · rw [if_neg t, ax_let, ax_let, show am_rd (am_wr M 447 18 (q_mn B q c)) 447 15 = ((q + c : Nat) : Int) from (ax_wi (by decide)).trans h15, w]
      obtain ⟨M', a, b, c', f, g⟩ := ih (c + 1) (am_wr (am_wr M 447 18 (q_mn B q c)) 447 15 ((q + (c + 1) : Nat) : Int)) (by omega) (q_m_w (q_m_w hm (by decide)) (by decide)) ax_ws ((ax_wi (by decide)).trans (ax_ws.trans (by
        show _ = (if q_mn B q c ≤ 99999 then _ else q_mn B q c)
        rw [if_neg t])))
      refine ⟨M', a, b, c', f, fun x i h => (g x i h).trans ?_⟩
      rw [ax_rw, if_neg (by omega), ax_rw, if_neg (by omega)]
/-- a sign's second byte -/
theorem q_tail (hm : q_m L B M) (hq : q < L) (h15 : am_rd M 447 15 = ((q + 1 : Nat) : Int)) (h18 : am_rd M 447 18 = q_b (B q)) (he : (q_two B L q → e = q + 2) ∧ (¬ q_two B L q → e = q + 1)) : ∃ M', (if q_b (B q) = 60 then (am_Ex d 194 204 [(2, 447), (0, q_b (B q)), am_N, am_N, am_N] [] M) else (if q_b (B q) = 62 then (am_Ex d 194 204 [(2, 447), (0, q_b (B q)), am_N, am_N, am_N] [] M) else (some (0, M)))) = some (0, M') ∧ q_m L B M' ∧ am_rd M' 447 15 = (e : Int) ∧ am_rd M' 447 18 = q_si B L q ∧ ∀ x i, ¬ (x = 447 ∧ (i = 15 ∨ i = 18)) → am_rd M' x i = am_rd M x i := by
  have hb := hm.2.2.2 q hq
  have L3 := hm.2.2.1
  have no : ¬ q_two B L q → ∃ M', some ((0 : Int), M) = some (0, M') ∧ q_m L B M' ∧ am_rd M' 447 15 = (e : Int) ∧ am_rd M' 447 18 = q_si B L q ∧ ∀ x i, ¬ (x = 447 ∧ (i = 15 ∨ i = 18)) → am_rd M' x i = am_rd M x i := fun t => ⟨M, rfl, hm, by rw [h15, he.2 t], by rw [h18]; unfold q_si; rw [if_neg t], fun _ _ _ => rfl⟩
  have go : (B q = 60 ∨ B q = 62) → ∃ M', am_Ex d 194 204 [(2, 447), (0, q_b (B q)), am_N, am_N, am_N] [] M = some (0, M') ∧ q_m L B M' ∧ am_rd M' 447 15 = (e : Int) ∧ am_rd M' 447 18 = q_si B L q ∧ ∀ x i, ¬ (x = 447 ∧ (i = 15 ∨ i = 18)) → am_rd M' x i = am_rd M x i := fun s => by
    rw [aq_194_204, ax_o_447, ax_gt, h15, hm.2.1]
    by_cases z : q + 1 < L
    · have hb1 := hm.2.2.2 (q + 1) z
      rw [if_pos (by omega), kr_447_2 hm.1, ax_a_450, ax_gi (by omega) (by omega), hb1.1]
      by_cases t : B ((q + 1 : Nat) : Int) = 61
      · have tw : q_two B L q := ⟨z, by rw [← t]; congr 1, s⟩
        have fin : ∀ v : Int, v = q_si B L q → ∃ M', (am_let (am_wr M 447 18 v) fun M106 => am_let (am_wr M106 447 15 (am_w32 ((am_rd M106 447 15) + 1))) fun M107 => some ((0 : Int), M107)) = some (0, M') ∧ q_m L B M' ∧ am_rd M' 447 15 = (e : Int) ∧ am_rd M' 447 18 = q_si B L q ∧ ∀ x i, ¬ (x = 447 ∧ (i = 15 ∨ i = 18)) → am_rd M' x i = am_rd M x i := fun v hv => by
          rw [ax_let, ax_let, show am_rd (am_wr M 447 18 v) 447 15 = ((q + 1 : Nat) : Int) from (ax_wi (by decide)).trans h15, ax_w32 (by omega) (by omega)]
          refine ⟨_, rfl, q_m_w (q_m_w hm (by decide)) (by decide), ?_, (ax_wi (by decide)).trans (ax_ws.trans hv), fun x i h => ?_⟩
          · rw [ax_ws, he.1 tw]; omega
          · rw [ax_rw, if_neg (by omega), ax_rw, if_neg (by omega)]
        rw [if_pos (by rw [t]; rfl)]
        by_cases s6 : B q = 60
        · rw [if_pos (show q_b (B q) = 60 by rw [s6]; rfl)]
          exact fin 300 (by unfold q_si; rw [if_pos tw, if_pos s6])
        · rw [if_neg (by rw [q_bs (by omega)]; exact s6)]
          exact fin 301 (by unfold q_si; rw [if_pos tw, if_neg s6])
      · rw [if_neg (by unfold q_b; split <;> omega)]
        exact no fun tw => t (by rw [← tw.2.1]; congr 1)
    · rw [if_neg (by omega)]
      exact no fun tw => z tw.1
  by_cases s1 : q_b (B q) = 60
  · rw [if_pos s1]
    exact go (Or.inl (by unfold q_b at s1; split at s1 <;> omega))
  · rw [if_neg s1]
    by_cases s2 : q_b (B q) = 62
    · rw [if_pos s2]
      exact go (Or.inr (by unfold q_b at s2; split at s2 <;> omega))
    · rw [if_neg s2]
      exact no fun tw => by
        rcases tw.2.2 with y | y
        · exact s1 (by rw [y]; rfl)
        · exact s2 (by rw [y]; rfl)
theorem q_29e (hm : q_m L B M) (h15 : am_rd M 447 15 = (L : Int)) : ∃ M', am_Ex d 194 29 [(2, 447), am_N, am_N, am_N, am_N] [] M = some (0, M') ∧ q_m L B M' ∧ am_rd M' 447 16 = (L : Int) ∧ am_rd M' 447 17 = 0 ∧ ∀ x i, ¬ (x = 447 ∧ (i = 16 ∨ i = 17)) → am_rd M' x i = am_rd M x i := by
  rw [aq_194_29, ax_o_447, ax_gt, ax_let, h15, show am_rd (am_wr M 447 16 (L : Int)) 447 15 = (L : Int) from (ax_wi (by decide)).trans h15, show am_rd (am_wr M 447 16 (L : Int)) 447 14 = (L : Int) from (ax_wi (by decide)).trans hm.2.1, if_pos rfl, ax_let]
  refine ⟨_, rfl, q_m_w (q_m_w hm (by decide)) (by decide), (ax_wi (by decide)).trans ax_ws, ax_ws, fun x i h => ?_⟩
  rw [ax_rw, if_neg (by omega), ax_rw, if_neg (by omega)]
theorem q_29 (hm : q_m L B M) (hq : q < L) (h15 : am_rd M 447 15 = (q : Int)) (ht : q_te B L q e) : ∃ M', am_Ex d 194 29 [(2, 447), am_N, am_N, am_N, am_N] [] M = some (0, M') ∧ q_m L B M' ∧ am_rd M' 447 15 = (e : Int) ∧ am_rd M' 447 16 = (q : Int) ∧ am_rd M' 447 17 = q_So B (q, e) ∧ am_rd M' 447 18 = q_Is B L (q, e) ∧ ∀ x i, ¬ (x = 447 ∧ 15 ≤ i ∧ i ≤ 18) → am_rd M' x i = am_rd M x i := by
  have hb := hm.2.2.2 q hq
  have L3 := hm.2.2.1
  obtain ⟨t1, t2, t3, t4, t5⟩ := ht
  have hm1 : q_m L B (am_wr M 447 16 (q : Int)) := q_m_w hm (by decide)
  have h15' : am_rd (am_wr M 447 16 (q : Int)) 447 15 = (q : Int) := (ax_wi (by decide)).trans h15
  have h16 : am_rd (am_wr M 447 16 (q : Int)) 447 16 = (q : Int) := ax_ws
  have fr1 : ∀ x i, ¬ (x = 447 ∧ 15 ≤ i ∧ i ≤ 18) → am_rd (am_wr M 447 16 (q : Int)) x i = am_rd M x i := fun x i h => by rw [ax_rw, if_neg (by omega)]
  rw [aq_194_29, ax_o_447, ax_gt, ax_let, h15]
  generalize am_wr M 447 16 (q : Int) = M1 at *
  have hb1 := hm1.2.2.2 q hq
  rw [h15', hm1.2.1, if_neg (by omega), kr_447_2 hm1.1, ax_a_450, ax_gi (by omega) (by omega), hb1.1, ax_let, q_151, Option.bind_some]
  dsimp only
  by_cases a : q_L (B q)
  · have bs : q_b (B q) = B q := q_bs (by omega)
    rw [bs, ax_bt a, if_neg (by decide)]
    obtain ⟨e1, e2, e3, e4⟩ := t3 a
    obtain ⟨M2, x2, f1, f2, f3, f4, f5⟩ := q_56 (d := d) t2 e3 e4 (e - q) 0 0 M1 (by omega) hm1 h15' (fun _ => rfl)
    obtain ⟨M3, g1, g2, g3, g4, g5⟩ := q_95 (d := d) (q := q) (c := e - q) f2 f4
    have f1 : am_Ex d 194 56 [(2, 447), am_N, (1, 0), am_N, (0, 0)] [] M1 = _ := f1
    refine ⟨M3, f1.trans g1, g2, (g5 _ _ (by omega)).trans f3, (g5 _ _ (by omega)).trans ((f5 _ _ (by omega)).trans h16), ?_, ?_, fun x i h => (g5 x i (by omega)).trans ((f5 x i (by omega)).trans (fr1 x i h))⟩
    · unfold q_So; rw [if_pos a]; exact g4
    · unfold q_Is; rw [if_pos a]; exact g3
  · have na : ¬ q_L (q_b (B q)) := by unfold q_b; split <;> omega
    rw [ax_bf na, if_pos rfl, q_64, Option.bind_some]
    dsimp only
    by_cases b : q_D (B q)
    · have bs : q_b (B q) = B q := q_bs (by omega)
      rw [bs, ax_bt b, if_neg (by decide), ax_let, ax_let]
      obtain ⟨e1, e2, e3, e4⟩ := t4 a b
      have h15'' : am_rd (am_wr (am_wr M1 447 17 2) 447 18 0) 447 15 = ((q + 0 : Nat) : Int) := (ax_wi (by decide)).trans ((ax_wi (by decide)).trans h15')
      obtain ⟨M2, f1, f2, f3, f4, f5⟩ := q_125 (d := d) t2 e3 e4 (e - q) 0 (am_wr (am_wr M1 447 17 2) 447 18 0) (by omega) (q_m_w (q_m_w hm1 (by decide)) (by decide)) h15'' ax_ws
      refine ⟨M2, f1, f2, f3, (f5 _ _ (by omega)).trans ((ax_wi (by decide)).trans ((ax_wi (by decide)).trans h16)), ?_, ?_, fun x i h => (f5 x i (by omega)).trans ?_⟩
      · unfold q_So; rw [if_neg a, if_pos b]
        exact (f5 _ _ (by omega)).trans ((ax_wi (by decide)).trans ax_ws)
      · unfold q_Is; rw [if_neg a, if_pos b]; exact f4
      · rw [ax_rw, if_neg (by omega), ax_rw, if_neg (by omega)]; exact fr1 x i h
    · have nb : ¬ (48 ≤ q_b (B q) ∧ q_b (B q) ≤ 57) := by unfold q_b; split <;> omega
      rw [ax_bf nb, if_pos rfl, h15', ax_let, ax_let, ax_w32 (by omega) (by omega)]
      have hm3 : q_m L B (am_wr (am_wr M1 447 15 ((q : Int) + 1)) 447 18 (q_b (B q))) := q_m_w (q_m_w hm1 (by decide)) (by decide)
      have k15 : am_rd (am_wr (am_wr M1 447 15 ((q : Int) + 1)) 447 18 (q_b (B q))) 447 15 = ((q + 1 : Nat) : Int) := (ax_wi (by decide)).trans (ax_ws.trans (by omega))
      have k16 : am_rd (am_wr (am_wr M1 447 15 ((q : Int) + 1)) 447 18 (q_b (B q))) 447 16 = (q : Int) := (ax_wi (by decide)).trans ((ax_wi (by decide)).trans h16)
      have k18 : am_rd (am_wr (am_wr M1 447 15 ((q : Int) + 1)) 447 18 (q_b (B q))) 447 18 = q_b (B q) := ax_ws
      have fr3 : ∀ x i, ¬ (x = 447 ∧ 15 ≤ i ∧ i ≤ 18) → am_rd (am_wr (am_wr M1 447 15 ((q : Int) + 1)) 447 18 (q_b (B q))) x i = am_rd M x i := fun x i h => by
        rw [ax_rw, if_neg (by omega), ax_rw, if_neg (by omega)]; exact fr1 x i h
      generalize am_wr (am_wr M1 447 15 ((q : Int) + 1)) 447 18 (q_b (B q)) = M3 at *
      have fin : ∀ v : Int, v = q_ss (q_b (B q)) → ∃ M', (am_let (am_wr M3 447 17 v) fun M118 => if q_b (B q) = 60 then (am_Ex d 194 204 [(2, 447), (0, q_b (B q)), am_N, am_N, am_N] [] M118) else (if q_b (B q) = 62 then (am_Ex d 194 204 [(2, 447), (0, q_b (B q)), am_N, am_N, am_N] [] M118) else (some (0, M118)))) = some (0, M') ∧ q_m L B M' ∧ am_rd M' 447 15 = (e : Int) ∧ am_rd M' 447 16 = (q : Int) ∧ am_rd M' 447 17 = q_So B (q, e) ∧ am_rd M' 447 18 = q_Is B L (q, e) ∧ ∀ x i, ¬ (x = 447 ∧ 15 ≤ i ∧ i ≤ 18) → am_rd M' x i = am_rd M x i := fun v hv => by
        rw [ax_let]
        obtain ⟨M', f1, f2, f3, f4, f5⟩ := q_tail (d := d) (M := am_wr M3 447 17 v) (e := e) (q_m_w hm3 (by decide)) hq ((ax_wi (by decide)).trans k15) ((ax_wi (by decide)).trans k18) (t5 a b)
        refine ⟨M', f1, f2, f3, (f5 _ _ (by omega)).trans ((ax_wi (by decide)).trans k16), ?_, ?_, fun x i h => (f5 x i (by omega)).trans ?_⟩
        · unfold q_So; rw [if_neg a, if_neg b]
          exact (f5 _ _ (by omega)).trans (ax_ws.trans hv)
        · unfold q_Is; rw [if_neg a, if_neg b]; exact f4
        · rw [ax_rw, if_neg (by omega)]; exact fr3 x i h
      rw [q_64, Option.bind_some]
      dsimp only
      by_cases s1 : 59 ≤ q_b (B q) ∧ q_b (B q) ≤ 62
      · rw [ax_bt s1, if_neg (by decide)]
        exact fin 3 (by unfold q_ss; rw [if_pos (by omega)])
      · rw [ax_bf s1, if_pos rfl, q_64, Option.bind_some]
        dsimp only
        by_cases s2 : 40 ≤ q_b (B q) ∧ q_b (B q) ≤ 45
        · rw [ax_bt s2, if_neg (by decide)]
          exact fin 3 (by unfold q_ss; rw [if_pos (by omega)])
        · rw [ax_bf s2, if_pos rfl]
          by_cases s3 : q_b (B q) = 47
          · rw [if_pos s3]
            exact fin 3 (by unfold q_ss; rw [if_pos (by omega)])
          · rw [if_neg s3]
            by_cases s4 : q_b (B q) = 35
            · rw [if_pos s4]
              exact fin 3 (by unfold q_ss; rw [if_pos (by omega)])
            · rw [if_neg s4]
              exact fin 4 (by unfold q_ss; rw [if_neg (by omega)])
end
