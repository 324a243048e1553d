/-! told: the searches -/
def tzF (i : Int) (tp : Int → Bool) (val : Int → Int) : Nat → Int → Int → Int
  | 0, _, c => if i = -1 then c else -1
  | j + 1, o, c => if tp o = true then (if i < 0 then tzF i tp val j (o + 1) (c + 1) else val o) else tzF i tp val j (o + 1) c
def mzF (tp : Int → Bool) (o : Int) (a : Int × Int) : Int × Int := if tp o = true then (a.1 + 1, if a.1 = 0 then o else a.2) else a
def mzR (i : Int) (val : Int → Int) (a : Int × Int) : Int := if i = -1 then a.1 else if a.1 = 0 then -1 else val a.2
theorem mz_keep {tp : Int → Bool} : ∀ (j : Nat) (o : Int) (a : Int × Int), 1 ≤ a.1 → 1 ≤ (ax_fo (mzF tp) j o a).1 ∧ (ax_fo (mzF tp) j o a).2 = a.2 := by
  intro j
  induction j with
  | zero => intro o a h; exact ⟨h, rfl⟩
  | succ j ih =>
    intro o a h
    have e : (mzF tp o a).2 = a.2 ∧ 1 ≤ (mzF tp o a).1 := by
      unfold mzF
      split
      · exact ⟨if_neg (by omega), by show 1 ≤ a.1 + 1; omega⟩
      · exact ⟨rfl, h⟩
    have := ih (o + 1) (mzF tp o a) e.2
    exact ⟨this.1, this.2.trans e.1⟩
theorem tz_mz {i : Int} {tp : Int → Bool} {val : Int → Int} (hi : -1 ≤ i) : ∀ (j : Nat) (o : Int) (a : Int × Int), (i = -1 ∨ a.1 = 0) → tzF i tp val j o a.1 = mzR i val (ax_fo (mzF tp) j o a) := by
  intro j
  induction j with
  | zero =>
    intro o a h
    show (if i = -1 then a.1 else -1) = (if i = -1 then a.1 else if a.1 = 0 then -1 else val a.2)
    by_cases e : i = -1
    · rw [if_pos e, if_pos e]
    · rw [if_neg e, if_neg e, if_pos (by omega)]
  | succ j ih =>
    intro o a h
    show (if tp o = true then (if i < 0 then tzF i tp val j (o + 1) (a.1 + 1) else val o) else tzF i tp val j (o + 1) a.1) = mzR i val (ax_fo (mzF tp) j (o + 1) (mzF tp o a))
    unfold mzF
    by_cases ht : tp o = true
    · rw [if_pos ht, if_pos ht]
      by_cases e : i < 0
      · rw [if_pos e]
        exact ih (o + 1) (a.1 + 1, if a.1 = 0 then o else a.2) (Or.inl (by omega))
      · have a0 : a.1 = 0 := by omega
        have k := mz_keep (tp := tp) j (o + 1) (a.1 + 1, if a.1 = 0 then o else a.2) (by show 1 ≤ a.1 + 1; omega)
        rw [if_neg e]
        show _ = mzR i val (ax_fo (mzF tp) j (o + 1) (a.1 + 1, if a.1 = 0 then o else a.2))
        unfold mzR
        rw [if_neg (by omega), if_neg (by omega), k.2]
        show val o = val (if a.1 = 0 then o else a.2)
        rw [if_pos a0]
    · rw [if_neg ht, if_neg ht]
      exact ih (o + 1) a h
section
variable {d : Nat} {T z n i : Int} {L : Int → Int}
def tpF (L : Int → Int) (T z n o : Int) : Bool := tl L T z (ov z n o) n.toNat 0 0
/-- the guild's cells stay -/
theorem og_B {M M0 : am_M} (b : cg_B M0) (f : ∀ x y, x ≠ 445 → ¬ (x = 444 ∧ y = 4) → am_rd M x y = am_rd M0 x y) : cg_B M := by
  unfold cg_B
  rw [f 2 5 (by omega) (by omega), f 2 6 (by omega) (by omega), f 2 7 (by omega) (by omega), f 2 8 (by omega) (by omega), f 2 11 (by omega) (by omega)]
  exact b
theorem c_176s {M0 : am_M} (b : cg_B M0) (hT : am_rd M0 2 5 = T) (hL : ∀ j, 0 ≤ j → j < T → am_rd M0 4 j = L j) (z0 : 0 ≤ z) (z1 : z < 256) (hn : ax_cn z = n) (n1 : 1 ≤ n) (n6 : n ≤ 6) (i0 : -1 ≤ i) (i1 : i < n) : ∀ (j : Nat) (o c : Int) (M : am_M), o + j = (fct n.toNat : Int) → 0 ≤ o → 0 ≤ c → c ≤ o → ax_K M → am_rd M 444 4 = n → (∀ x y, x ≠ 445 → ¬ (x = 444 ∧ y = 4) → am_rd M x y = am_rd M0 x y) → (1 ≤ j → ∃ v, OV M v n ∧ AU (asA z) (fnl (ixl n.toNat o.toNat)) v n.toNat) → ax_ok (am_Ex d 176 9 [(2, 444), (0, z), (0, i), (0, c), (0, if j = 0 then 0 else 1), (0, o)] [] M) (fun r M' => r = tzF i (tpF L T z n) (fun o => ov z n o i) j o c ∧ ∀ x y, x ≠ 445 → ¬ (x = 444 ∧ y = 4) → am_rd M' x y = am_rd M0 x y) := by
  have fr := fct_r (n := n.toNat) (by omega)
  intro j
  induction j with
  | zero =>
    intro o c M h o0 c0 c1 hK hs f _
    have e43 : am_Ex d 176 43 [am_N, am_N, (0, i), (0, c), am_N, am_N] [] M = some (if i = -1 then c else -1, M) := by
      rw [aq_176_43]
      by_cases e : i = -1
      · rw [if_pos e, if_pos e]
      · rw [if_neg e, if_neg e]
    rw [aq_176_9, if_pos rfl, if_pos rfl, e43, ite_self]
    exact ax_ok_some ⟨rfl, f⟩
  | succ j ih =>
    intro o c M h o0 c0 c1 hK hs f hv
    obtain ⟨v, ho, hau⟩ := hv (by omega)
    have e124 := c_124 (d := d) (z := z) hK (og_B b f) ((f 2 5 (by omega) (by omega)).trans hT) (fun j j0 j1 => (f 4 j (by omega) (by omega)).trans (hL j j0 j1)) hs (by omega) n6 ho
    have ec : tl L T z v n.toNat 0 0 = tpF L T z n o := tl_congr n.toNat 0 0 fun k k0 k1 => (hau k k0 (by omega)).1
    rw [ec] at e124
    have e37 : ∀ c', 0 ≤ c' → c' ≤ o + 1 → ax_ok (am_Ex d 176 37 [(2, 444), (0, z), (0, i), (0, c'), am_N, (0, o)] [] M) (fun r M' => r = tzF i (tpF L T z n) (fun o => ov z n o i) j (o + 1) c' ∧ ∀ x y, x ≠ 445 → ¬ (x = 444 ∧ y = 4) → am_rd M' x y = am_rd M0 x y) := fun c' h0 h1 => by
      obtain ⟨r1, M1, e1, q1, f1⟩ := c_125o (d := d) hK z0 z1 hn n1 n6 o0 (by omega) hs ho hau
      have K1 := ax_Kp e1 hK rfl
      rw [aq_176_37, show am_ob 444 5 = true from rfl, ax_gt, e1, Option.bind_some]
      dsimp only []
      rw [ax_w32 (by omega) (by omega), ax_let]
      have g1 : ∀ x y, x ≠ 445 → ¬ (x = 444 ∧ y = 4) → am_rd M1 x y = am_rd M0 x y := fun x y h1 h2 => (f1 x y h1).trans (f x y h1 h2)
      have s1 : am_rd M1 444 4 = n := (f1 444 4 (by omega)).trans hs
      by_cases hl : o + 1 = (fct n.toNat : Int)
      · rw [if_pos hl] at q1
        have hj : j = 0 := by omega
        have := ih (o + 1) c' M1 (by omega) (by omega) h0 h1 K1 s1 g1 (fun h => by omega)
        rw [if_pos hj] at this
        rw [q1]
        exact this
      · rw [if_neg hl] at q1
        have hj : ¬ j = 0 := by omega
        have := ih (o + 1) c' M1 (by omega) (by omega) h0 h1 K1 s1 g1 (fun _ => q1.2)
        rw [if_neg hj] at this
        rw [q1.1]
        exact this
    rw [aq_176_9, if_pos (by omega), if_neg (show ¬ (if j + 1 = 0 then (0 : Int) else 1) = 0 by rw [if_neg (by omega)]; decide), show am_ob 444 5 = true from rfl, ax_gt, e124, Option.bind_some]
    dsimp only []
    show ax_ok _ (fun r M' => r = (if tpF L T z n o = true then (if i < 0 then tzF i (tpF L T z n) (fun o => ov z n o i) j (o + 1) (c + 1) else ov z n o i) else tzF i (tpF L T z n) (fun o => ov z n o i) j (o + 1) c) ∧ ∀ x y, x ≠ 445 → ¬ (x = 444 ∧ y = 4) → am_rd M' x y = am_rd M0 x y)
    by_cases ht : tpF L T z n o = true
    · rw [if_pos ht, if_neg (by decide), if_pos ht]
      by_cases hi : i < 0
      · rw [if_pos hi, if_pos hi, ax_w32 (by omega) (by omega), ax_let]
        exact e37 (c + 1) (by omega) (by omega)
      · rw [if_neg hi, if_neg hi, hs, if_pos i1, if_pos (by omega), kr_444_2 hK, ax_a_445, ax_gi (by omega) (by omega)]
        refine ax_ok_some ⟨?_, f⟩
        rw [ho i (by omega) i1]
        exact (hau i (by omega) (by omega)).1
    · rw [if_neg ht, if_pos rfl, if_neg ht]
      exact e37 c c0 (by omega)
theorem m_203s {M0 : am_M} (hT : am_rd M0 448 0 = T) (T0 : 0 ≤ T) (T8 : T ≤ 8) (hL : ∀ j, 0 ≤ j → j < T → am_rd M0 448 (18 + j) = L j) (z0 : 0 ≤ z) (z1 : z < 256) (n1 : 1 ≤ n) (n6 : n ≤ 6) (i0 : -1 ≤ i) (i1 : i < n) : ∀ (j : Nat) (o : Int) (a : Int × Int) (M : am_M), o + j = (fct n.toNat : Int) → 0 ≤ o → 0 ≤ a.1 → a.1 ≤ o → ax_K M → (∀ x y, x < 480 → am_rd M x y = am_rd M0 x y) → (∀ j, 0 ≤ j → j < n → am_rd M 480 j = asA z j) → (1 ≤ a.1 → ∀ j, 0 ≤ j → j < n → am_rd M 482 j = ov z n a.2 j) → ax_ok (am_Ex d 203 30 [(2, 447), (0, z), (0, i), (0, n), (0, a.1), (0, o)] [] M) (fun r M' => r = mzR i (fun o => ov z n o i) (ax_fo (mzF (tpF L T z n)) j o a) ∧ ∀ x y, x < 480 → am_rd M' x y = am_rd M0 x y) := by
  have fr := fct_r (n := n.toNat) (by omega)
  intro j
  induction j with
  | zero =>
    intro o a M h o0 c0 c1 hK f hA hF
    obtain ⟨c, g⟩ := a
    show ax_ok (am_Ex d 203 30 [(2, 447), (0, z), (0, i), (0, n), (0, c), (0, o)] [] M) (fun r M' => r = (if i = -1 then c else if c = 0 then -1 else ov z n g i) ∧ _)
    rw [aq_203_30, m_95 (by omega) n6, Option.bind_some]
    dsimp only []
    rw [if_neg (by omega)]
    by_cases e : i = -1
    · rw [if_pos e, if_pos e]
      exact ax_ok_some ⟨rfl, f⟩
    · rw [if_neg e, if_neg e]
      by_cases e2 : c = 0
      · rw [if_pos e2, if_pos e2]
        exact ax_ok_some ⟨rfl, f⟩
      · rw [if_neg e2, if_neg e2, show am_ob 447 11 = true from rfl, ax_gt, kr_447_52 hK, ax_a_482, ax_gi (by omega) (by omega)]
        have c0 : 0 ≤ c := c0
        exact ax_ok_some ⟨hF (by show 1 ≤ c; omega) i (by omega) i1, f⟩
  | succ j ih =>
    intro o a M h o0 c0 c1 hK f hA hF
    obtain ⟨c, g⟩ := a
    have c0 : 0 ≤ c := c0
    have c1 : c ≤ o := c1
    obtain ⟨r1, M1, e1, q1, f1⟩ := m_163 (d := d) (p := o) hK (by omega) n6 o0 (by omega) hA
    have K1 := ax_Kp e1 hK rfl
    have e164 := m_164 (d := d) (z := z) (n := n) (v := ov z n o) K1 ((f1 448 0 (by omega)).trans ((f 448 0 (by omega)).trans hT)) T0 T8 z0 z1 (fun j j0 j1 => (f1 448 _ (by omega)).trans ((f 448 _ (by omega)).trans (hL j j0 j1))) (by omega) n6 q1
    have e51 : ∀ (b : Int × Int) (M2 : am_M), 0 ≤ b.1 → b.1 ≤ o + 1 → ax_K M2 → (∀ x y, x < 480 → am_rd M2 x y = am_rd M0 x y) → (∀ j, 0 ≤ j → j < n → am_rd M2 480 j = asA z j) → (1 ≤ b.1 → ∀ j, 0 ≤ j → j < n → am_rd M2 482 j = ov z n b.2 j) → ax_ok (am_Ex d 203 51 [(2, 447), (0, z), (0, i), (0, n), (0, b.1), (0, o)] [] M2) (fun r M' => r = mzR i (fun o => ov z n o i) (ax_fo (mzF (tpF L T z n)) j (o + 1) b) ∧ ∀ x y, x < 480 → am_rd M' x y = am_rd M0 x y) := fun b M2 h0 h1 K2 f2 hA2 hF2 => by
      rw [aq_203_51, ax_w32 (by omega) (by omega), ax_let]
      exact ih (o + 1) b M2 (by omega) (by omega) h0 h1 K2 f2 hA2 hF2
    show ax_ok (am_Ex d 203 30 [(2, 447), (0, z), (0, i), (0, n), (0, c), (0, o)] [] M) (fun r M' => r = mzR i (fun o => ov z n o i) (ax_fo (mzF (tpF L T z n)) j (o + 1) (mzF (tpF L T z n) o (c, g))) ∧ ∀ x y, x < 480 → am_rd M' x y = am_rd M0 x y)
    have g1 : ∀ x y, x < 480 → am_rd M1 x y = am_rd M0 x y := fun x y hx => (f1 x y (by omega)).trans (f x y hx)
    have hA1 : ∀ j, 0 ≤ j → j < n → am_rd M1 480 j = asA z j := fun j j0 j1 => (f1 480 j (by omega)).trans (hA j j0 j1)
    have hF1 : 1 ≤ c → ∀ j, 0 ≤ j → j < n → am_rd M1 482 j = ov z n g j := fun hc j j0 j1 => (f1 482 j (by omega)).trans (hF hc j j0 j1)
    rw [aq_203_30, m_95 (by omega) n6, Option.bind_some]
    dsimp only []
    rw [if_pos (by omega), show am_ob 447 11 = true from rfl, ax_gt, e1, Option.bind_some]
    dsimp only []
    rw [e164, Option.bind_some]
    dsimp only []
    unfold mzF
    by_cases ht : tpF L T z n o = true
    · have ht2 : tl L T z (ov z n o) n.toNat 0 0 = true := ht
      rw [if_pos ht2, if_neg (by decide), if_pos ht]
      have e49 : ∀ (g' : Int) (M2 : am_M), ax_K M2 → (∀ x y, x < 480 → am_rd M2 x y = am_rd M0 x y) → (∀ j, 0 ≤ j → j < n → am_rd M2 480 j = asA z j) → (∀ j, 0 ≤ j → j < n → am_rd M2 482 j = ov z n g' j) → ax_ok (am_Ex d 203 49 [(2, 447), (0, z), (0, i), (0, n), (0, c), (0, o)] [] M2) (fun r M' => r = mzR i (fun o => ov z n o i) (ax_fo (mzF (tpF L T z n)) j (o + 1) (c + 1, g')) ∧ ∀ x y, x < 480 → am_rd M' x y = am_rd M0 x y) := fun g' M2 K2 f2 hA2 hF2 => by
        rw [aq_203_49, ax_w32 (by omega) (by omega), ax_let]
        exact e51 (c + 1, g') M2 (by show 0 ≤ c + 1; omega) (by show c + 1 ≤ o + 1; omega) K2 f2 hA2 fun _ => hF2
      by_cases hc : c = 0
      · obtain ⟨r2, M2, e2, q2, f2⟩ := m_96 (d := d) K1 (by omega : 0 ≤ n) n6
        have key := e49 o M2 (ax_Kp e2 K1 rfl) (fun x y hx => (f2 x y (by omega)).trans (g1 x y hx)) (fun j j0 j1 => (f2 480 j (by omega)).trans (hA1 j j0 j1)) (fun j j0 j1 => (q2 j j0 j1).trans (q1 j j0 j1))
        rw [if_pos hc, e2, Option.bind_some]
        have hz : (if (c, g).1 = 0 then o else (c, g).2) = o := if_pos hc
        rw [hz]
        exact key
      · have hz : (if (c, g).1 = 0 then o else (c, g).2) = g := if_neg hc
        rw [if_neg hc, hz]
        exact e49 g M1 K1 g1 hA1 (hF1 (by omega))
    · have ht2 : ¬ tl L T z (ov z n o) n.toNat 0 0 = true := ht
      rw [if_neg ht2, if_pos rfl, if_neg ht]
      exact e51 (c, g) M1 c0 (by show c ≤ o + 1; omega) K1 g1 hA1 hF1
end
