/-! DEEDS on a row of hands, as numbers -/
theorem hu_at {H : Int → Int} {i v : Int} : hu H i v i = v := if_pos rfl
theorem hu_ne {H : Int → Int} {i v j : Int} (h : ¬ j = i) : hu H i v j = H j := if_neg h
theorem hcl_id {v : Int} (h0 : 0 ≤ v) (h1 : v ≤ 99) : hcl 0 99 v = v := by
  unfold hcl
  rw [if_neg (by omega), if_pos h1]
theorem hcl_99 {v : Int} : 0 ≤ hcl 0 99 v ∧ hcl 0 99 v ≤ 99 := hcl_r (by omega)
/-- a right that is set to what it is -/
theorem hR_same {H : Int → Int} {m t v : Int} (h : v = H (8 * m + t)) (h0 : 0 ≤ v) (h1 : v ≤ H (96 + (8 * m + t))) (h2 : v ≤ 99) : hR H m t v = H := by
  funext j
  unfold hR hu
  rw [hcl_id h0 h2]
  by_cases e : j = 96 + (8 * m + t)
  · rw [if_pos e, e]; omega
  · rw [if_neg e]
    by_cases e2 : j = 8 * m + t
    · rw [if_pos e2, e2]; exact h
    · rw [if_neg e2]
section
variable {T : Int} {H : Int → Int} {m t v : Int}
theorem HB_R (B : HB T H) (m0 : 0 ≤ m) (m1 : m < 6) (t0 : 0 ≤ t) (t1 : t < T) (hT : T ≤ 8) : HB T (hR H m t v) := by
  have hc := hcl_99 (v := v)
  obtain ⟨b1, b2, b3, b4, b5⟩ := B
  have bb := b1 (8 * m + t) (by omega) (by omega)
  refine ⟨?_, ?_, ?_, ?_, ?_⟩
  · intro j j0 j1
    have := b1 j j0 j1
    by_cases e : j = 8 * m + t
    · subst e
      simp (disch := omega) only [hR, hu, if_pos, if_neg, ite_true]
      omega
    · simp (disch := omega) only [hR, hu, if_neg]
      exact this
  · intro j j0 j1
    have := b2 j j0 j1
    simp (disch := omega) only [hR, hu, if_neg]
    exact this
  · simp (disch := omega) only [hR, hu, if_neg]
    exact b3
  · simp (disch := omega) only [hR, hu, if_neg]
    exact b4
  · intro m' t' h1 h2 h3 h4 h5
    simp (disch := omega) only [hR, hu, if_neg]
    exact b5 m' t' h1 h2 h3 h4 h5
theorem HB_W (B : HB T H) (m0 : 0 ≤ m) (m1 : m < 6) (t0 : 0 ≤ t) (t1 : t < 8) : HB T (hW H m t v) := by
  have hc := hcl_99 (v := v)
  obtain ⟨b1, b2, b3, b4, b5⟩ := B
  refine ⟨?_, ?_, ?_, ?_, ?_⟩
  · intro j j0 j1
    have := b1 j j0 j1
    by_cases e : j = 8 * m + t
    · subst e
      simp (disch := omega) only [hW, hu, if_pos, if_neg, ite_true]
      omega
    · simp (disch := omega) only [hW, hu, if_neg]
      exact this
  · intro j j0 j1
    have := b2 j j0 j1
    simp (disch := omega) only [hW, hu, if_neg]
    exact this
  · simp (disch := omega) only [hW, hu, if_neg]
    exact b3
  · simp (disch := omega) only [hW, hu, if_neg]
    exact b4
  · intro m' t' h1 h2 h3 h4 h5
    simp (disch := omega) only [hW, hu, if_neg]
    exact b5 m' t' h1 h2 h3 h4 h5
theorem HB_song (B : HB T H) (m0 : 0 ≤ m) (m1 : m < 6) (v0 : 0 ≤ v) (v1 : v < 256) : HB T (hu H (144 + m) v) := by
  obtain ⟨b1, b2, b3, b4, b5⟩ := B
  refine ⟨?_, ?_, ?_, ?_, ?_⟩
  · intro j j0 j1
    have := b1 j j0 j1
    simp (disch := omega) only [hu, if_neg]
    exact this
  · intro j j0 j1
    have := b2 j j0 j1
    by_cases e : j = m
    · subst e
      simp (disch := omega) only [hu, if_pos, if_neg, ite_true]
      omega
    · simp (disch := omega) only [hu, if_neg]
      exact this
  · simp (disch := omega) only [hu, if_neg]
    exact b3
  · simp (disch := omega) only [hu, if_neg]
    exact b4
  · intro m' t' h1 h2 h3 h4 h5
    simp (disch := omega) only [hu, if_neg]
    exact b5 m' t' h1 h2 h3 h4 h5
theorem HB_tie (B : HB T H) (m0 : 0 ≤ m) (m1 : m < 6) (v0 : -1 ≤ v) (v1 : v < 8) : HB T (hu H (150 + m) v) := by
  obtain ⟨b1, b2, b3, b4, b5⟩ := B
  refine ⟨?_, ?_, ?_, ?_, ?_⟩
  · intro j j0 j1
    have := b1 j j0 j1
    simp (disch := omega) only [hu, if_neg]
    exact this
  · intro j j0 j1
    have := b2 j j0 j1
    by_cases e : j = m
    · subst e
      simp (disch := omega) only [hu, if_pos, if_neg, ite_true]
      omega
    · simp (disch := omega) only [hu, if_neg]
      exact this
  · simp (disch := omega) only [hu, if_neg]
    exact b3
  · simp (disch := omega) only [hu, if_neg]
    exact b4
  · intro m' t' h1 h2 h3 h4 h5
    simp (disch := omega) only [hu, if_neg]
    exact b5 m' t' h1 h2 h3 h4 h5
theorem HB_free (B : HB T H) (m0 : 0 ≤ m) (m1 : m < 6) : HB T (hu H (156 + m) 1) := by
  obtain ⟨b1, b2, b3, b4, b5⟩ := B
  refine ⟨?_, ?_, ?_, ?_, ?_⟩
  · intro j j0 j1
    have := b1 j j0 j1
    simp (disch := omega) only [hu, if_neg]
    exact this
  · intro j j0 j1
    have := b2 j j0 j1
    by_cases e : j = m
    · subst e
      simp (disch := omega) only [hu, if_pos, if_neg, ite_true]
      omega
    · simp (disch := omega) only [hu, if_neg]
      exact this
  · simp (disch := omega) only [hu, if_neg]
    exact b3
  · simp (disch := omega) only [hu, if_neg]
    exact b4
  · intro m' t' h1 h2 h3 h4 h5
    simp (disch := omega) only [hu, if_neg]
    exact b5 m' t' h1 h2 h3 h4 h5
theorem HB_day (B : HB T H) (v0 : 0 ≤ v) (v1 : v ≤ 1300) : HB T (hu H 162 v) := by
  obtain ⟨b1, b2, b3, b4, b5⟩ := B
  refine ⟨?_, ?_, ?_, ?_, ?_⟩
  · intro j j0 j1
    have := b1 j j0 j1
    simp (disch := omega) only [hu, if_neg]
    exact this
  · intro j j0 j1
    have := b2 j j0 j1
    simp (disch := omega) only [hu, if_neg]
    exact this
  · rw [hu_at]; exact ⟨v0, v1⟩
  · simp (disch := omega) only [hu, if_neg]
    exact b4
  · intro m' t' h1 h2 h3 h4 h5
    simp (disch := omega) only [hu, if_neg]
    exact b5 m' t' h1 h2 h3 h4 h5
theorem HB_x (B : HB T H) (v0 : 0 ≤ v) (v1 : v < 30293) : HB T (hu H 163 v) := by
  obtain ⟨b1, b2, b3, b4, b5⟩ := B
  refine ⟨?_, ?_, ?_, ?_, ?_⟩
  · intro j j0 j1
    have := b1 j j0 j1
    simp (disch := omega) only [hu, if_neg]
    exact this
  · intro j j0 j1
    have := b2 j j0 j1
    simp (disch := omega) only [hu, if_neg]
    exact this
  · simp (disch := omega) only [hu, if_neg]
    exact b3
  · rw [hu_at]; exact ⟨v0, v1⟩
  · intro m' t' h1 h2 h3 h4 h5
    simp (disch := omega) only [hu, if_neg]
    exact b5 m' t' h1 h2 h3 h4 h5
end
/-! the deeds -/
section
variable (T n al : Int) (P W : Int → Int) (cd : Int → Option (List (Int × Int)))
def hF (m t : Int) (H : Int → Int) : Int → Int :=
  hW (if am_and (am_shr (H (144 + m)) t) 1 = 1 then H else hR H m t (H (8 * m + t) - lx_val 1 (cd 1) (lx_nm P W H m t 0))) m t (H (48 + (8 * m + t)) - lx_val 2 (cd 2) (lx_nm P W H m t 0))
def hM (m t k : Int) (H : Int → Int) : Int → Int :=
  if am_and (am_shr (H (144 + m)) t) 1 = 1 then hW H m t (H (48 + (8 * m + t)) + k) else hR (hW H m t (H (48 + (8 * m + t)) + k)) m t (H (8 * m + t) - lx_val 3 (cd 3) (lx_nm P W (hW H m t (H (48 + (8 * m + t)) + k)) m t k))
def hT (m : Int) (H : Int → Int) : Int → Int := if ax_cn (hHad T P W cd H m) ≤ al then hu H (156 + m) 1 else H
def hNm (m : Int) (H : Int → Int) : Int → Int := if H (156 + m) = 0 then ax_fo (fun t H => hF P W cd m t H) (T - 0).toNat 0 H else H
def hTf (m : Int) (H : Int → Int) : Int → Int := if H (156 + m) = 0 then hT T al P W cd m H else H
def hNi (a b : Int) (H : Int → Int) : Int → Int :=
  let H1 := ax_fo (fun m H => hNm T P W cd m H) (b - a).toNat a H
  let H2 := hu H1 162 (H1 162 + 1)
  if H2 162 % 30 = 0 then ax_fo (fun m H => hTf T al P W cd m H) (b - a).toNat a H2 else H2
def hDr (m : Int) (H : Int → Int) : Int → Int := ax_fo (fun t H => if am_and (am_shr (H (144 + m)) t) 1 = 1 then H else hR H m t (H (8 * m + t) - 3)) (T - 0).toNat 0 H
def hBk (m bits : Int) (H : Int → Int) : Int → Int := ax_fo (fun t H => if am_and (am_shr bits t) 1 = 1 then hR H m t (H (96 + (8 * m + t))) else H) (T - 0).toNat 0 H
def hX (H : Int → Int) : Int → Int := hu H 163 ((H 163 * 281 + 179) % 30293)
def hWin (H : Int → Int) : Int → Int :=
  let w := H 163 % 6
  let H1 := hX H
  if 3 < w then (if H1 162 < 999 then hNi T al P W cd 0 n H1 else H1) else
  let m := H1 163 % n
  let H2 := hX H1
  if w = 3 then (if H2 (156 + m) = 0 then hDr T m H2 else H2) else
  let t := H2 163 % T
  let H3 := hX H2
  let k := if w < 2 then 1 + H3 163 % 40 else 0
  let H4 := if w < 2 then hX H3 else H3
  if H4 (156 + m) = 0 then
    (if w = 2 then hu H4 (144 + m) (am_xor (H4 (144 + m)) (am_shl 1 t)) else if w = 1 then hM P W cd m t k H4 else if H4 (150 + m) = t then H4 else hR H4 m t (H4 (8 * m + t) + k))
  else H4
end
/-! bounds stay -/
section
variable {T n al : Int} {P W : Int → Int} {cd : Int → Option (List (Int × Int))} {H : Int → Int} {m t k : Int}
theorem HB_F (S : ES T n al P W cd) (B : HB T H) (m0 : 0 ≤ m) (m1 : m < 6) (t0 : 0 ≤ t) (t1 : t < T) : HB T (hF P W cd m t H) := by
  have := S.1
  unfold hF
  refine HB_W ?_ m0 m1 t0 (by omega)
  split
  · exact B
  · exact HB_R B m0 m1 t0 t1 (by omega)
theorem HB_M (S : ES T n al P W cd) (B : HB T H) (m0 : 0 ≤ m) (m1 : m < 6) (t0 : 0 ≤ t) (t1 : t < T) : HB T (hM P W cd m t k H) := by
  have := S.1
  unfold hM
  split
  · exact HB_W B m0 m1 t0 (by omega)
  · exact HB_R (HB_W B m0 m1 t0 (by omega)) m0 m1 t0 t1 (by omega)
theorem HB_T (B : HB T H) (m0 : 0 ≤ m) (m1 : m < 6) : HB T (hT T al P W cd m H) := by
  unfold hT
  split
  · exact HB_free B m0 m1
  · exact B
theorem HB_Nm (S : ES T n al P W cd) (B : HB T H) (m0 : 0 ≤ m) (m1 : m < 6) : HB T (hNm T P W cd m H) := by
  unfold hNm
  split
  · exact ax_fo_inv (P := fun _ (H : Int → Int) => HB T H) _ _ _ (fun t H h1 h2 hB => HB_F S hB m0 m1 h1 (by have := S.1; omega)) B
  · exact B
theorem HB_Tf (B : HB T H) (m0 : 0 ≤ m) (m1 : m < 6) : HB T (hTf T al P W cd m H) := by
  unfold hTf
  split
  · exact HB_T B m0 m1
  · exact B
theorem hF_o (m0 : 0 ≤ m) (m1 : m < 6) (t0 : 0 ≤ t) (t1 : t < 8) {j : Int} (h : 144 ≤ j) : hF P W cd m t H j = H j := by
  unfold hF hW hR
  split <;> simp (disch := omega) only [hu, if_neg]
theorem hNm_o (S : ES T n al P W cd) (m0 : 0 ≤ m) (m1 : m < 6) {j : Int} (h : 144 ≤ j) : hNm T P W cd m H j = H j := by
  unfold hNm
  split
  · exact ax_fo_inv (P := fun _ (H' : Int → Int) => H' j = H j) _ _ _ (fun t H h1 h2 hB => (hF_o m0 m1 h1 (by have := S.1; omega) h).trans hB) rfl
  · rfl
theorem hN1_o (S : ES T n al P W cd) {a b : Int} (a0 : 0 ≤ a) (b0 : b ≤ 6) {j : Int} (h : 144 ≤ j) : ax_fo (fun m H => hNm T P W cd m H) (b - a).toNat a H j = H j :=
  ax_fo_inv (P := fun _ (H' : Int → Int) => H' j = H j) _ _ _ (fun m H h1 h2 hB => (hNm_o S (by omega) (by omega) h).trans hB) rfl
theorem HB_N1 (S : ES T n al P W cd) (B : HB T H) {a b : Int} (a0 : 0 ≤ a) (b0 : b ≤ 6) : HB T (ax_fo (fun m H => hNm T P W cd m H) (b - a).toNat a H) :=
  ax_fo_inv (P := fun _ (H : Int → Int) => HB T H) _ _ _ (fun m H h1 h2 hB => HB_Nm S hB (by omega) (by omega)) B
theorem HB_Ni (S : ES T n al P W cd) (B : HB T H) {a b : Int} (a0 : 0 ≤ a) (b0 : b ≤ 6) (hd : H 162 < 1300) : HB T (hNi T al P W cd a b H) := by
  have B1 := HB_N1 S B a0 b0
  have h1 := hN1_o (H := H) S a0 b0 (j := 162) (by omega)
  have B2 := HB_day B1 (v := ax_fo (fun m H => hNm T P W cd m H) (b - a).toNat a H 162 + 1) (by rw [h1]; have := B.2.2.1; omega) (by omega)
  unfold hNi
  dsimp only
  split
  · exact ax_fo_inv (P := fun _ (H : Int → Int) => HB T H) _ _ _ (fun m H h1 h2 hB => HB_Tf hB (by omega) (by omega)) B2
  · exact B2
theorem hNi_day (S : ES T n al P W cd) {a b : Int} (a0 : 0 ≤ a) (b0 : b ≤ 6) : hNi T al P W cd a b H 162 = H 162 + 1 := by
  have h1 := hN1_o (H := H) S a0 b0 (j := 162) (by omega)
  unfold hNi
  try dsimp only
  split
  · refine ax_fo_inv (P := fun _ (H' : Int → Int) => H' 162 = H 162 + 1) _ _ _ (fun m H' h1 h2 hB => ?_) (by rw [hu_at, h1])
    unfold hTf hT
    split
    · split
      · rw [hu_ne (by omega)]; exact hB
      · exact hB
    · exact hB
  · rw [hu_at, h1]
theorem HB_Dr (B : HB T H) (hT : T ≤ 8) (m0 : 0 ≤ m) (m1 : m < 6) : HB T (hDr T m H) := by
  unfold hDr
  refine ax_fo_inv (P := fun _ (H : Int → Int) => HB T H) _ _ _ (fun t H h1 h2 hB => ?_) B
  split
  · exact hB
  · exact HB_R hB m0 m1 h1 (by omega) hT
theorem HB_Bk (B : HB T H) (hT : T ≤ 8) (m0 : 0 ≤ m) (m1 : m < 6) {bits : Int} : HB T (hBk T m bits H) := by
  unfold hBk
  refine ax_fo_inv (P := fun _ (H : Int → Int) => HB T H) _ _ _ (fun t H h1 h2 hB => ?_) B
  split
  · exact HB_R hB m0 m1 h1 (by omega) hT
  · exact hB
theorem HB_X (B : HB T H) : HB T (hX H) := HB_x B (by omega) (by omega)
theorem ax_xorr {x t : Int} (x0 : 0 ≤ x) (x1 : x < 256) (t0 : 0 ≤ t) (t1 : t < 8) : 0 ≤ am_xor x (am_shl 1 t) ∧ am_xor x (am_shl 1 t) < 256 := by
  rw [ax_shl1 t0 (by omega)]
  have h2 : (2 ^ t.toNat : Nat) < 2 ^ 8 := Nat.pow_lt_pow_right (by omega) (by omega)
  generalize (2 ^ t.toNat : Nat) = q at *
  rw [ax_xor_nn x0 (by omega) (by omega) (by omega), Int.toNat_natCast]
  have h3 := Nat.xor_lt_two_pow (n := 8) (show x.toNat < 2 ^ 8 by omega) h2
  omega
theorem ax_orr {x t : Int} (x0 : 0 ≤ x) (x1 : x < 256) (t0 : 0 ≤ t) (t1 : t < 8) : 0 ≤ am_or x (am_shl 1 t) ∧ am_or x (am_shl 1 t) < 256 := by
  rw [ax_shl1 t0 (by omega)]
  have h2 : (2 ^ t.toNat : Nat) < 2 ^ 8 := Nat.pow_lt_pow_right (by omega) (by omega)
  generalize (2 ^ t.toNat : Nat) = q at *
  rw [ax_or_nn x0 (by omega) (by omega) (by omega), Int.toNat_natCast]
  have h3 := Nat.or_lt_two_pow (n := 8) (show x.toNat < 2 ^ 8 by omega) h2
  omega
theorem ax_or0 {x : Int} (x0 : 0 ≤ x) (x1 : x < 2147483648) : am_or x 0 = x := by
  rw [ax_or_nn x0 x1 (by omega) (by omega)]
  simp only [Int.toNat_zero, Nat.or_zero]
  exact Int.toNat_of_nonneg x0
theorem hHad_r (hT : T ≤ 8) : 0 ≤ hHad T P W cd H m ∧ hHad T P W cd H m < 256 := by
  unfold hHad
  refine ax_fo_inv (P := fun _ s => 0 ≤ s ∧ s < 256) _ _ _ (fun t s h1 h2 hs => ?_) (by omega)
  split
  · rw [ax_or0 hs.1 (by omega)]; exact hs
  · exact ax_orr hs.1 hs.2 h1 (by omega)
theorem HB_Win (S : ES T n al P W cd) (B : HB T H) (n0 : 0 < n) (T0 : 0 < T) : HB T (hWin T n al P W cd H) := by
  have hT := S.1
  have hn := S.2.1
  have B1 := HB_X B
  have B2 := HB_X B1
  have B3 := HB_X B2
  have B4 := HB_X B3
  unfold hWin
  dsimp only
  generalize hX H = H1 at *
  generalize hX H1 = H2 at *
  generalize hX H2 = H3 at *
  generalize hX H3 = H4 at *
  have m0 : 0 ≤ H1 163 % n := Int.emod_nonneg _ (by omega)
  have m1 : H1 163 % n < n := Int.emod_lt_of_pos _ n0
  have t0 : 0 ≤ H2 163 % T := Int.emod_nonneg _ (by omega)
  have t1 : H2 163 % T < T := Int.emod_lt_of_pos _ T0
  generalize H1 163 % n = m at *
  generalize H2 163 % T = t at *
  have B5 : HB T (if H 163 % 6 < 2 then H4 else H3) := by split <;> assumption
  generalize (if H 163 % 6 < 2 then H4 else H3) = H5 at *
  split
  · split
    · exact HB_Ni S B1 (by omega) (by omega) (by omega)
    · exact B1
  split
  · split
    · exact HB_Dr B2 (by omega) m0 (by omega)
    · exact B2
  split
  · split
    · have := B5.2.1 m m0 (by omega)
      have := ax_xorr (x := H5 (144 + m)) (t := t) this.1.1 this.1.2 t0 (by omega)
      exact HB_song B5 m0 (by omega) this.1 this.2
    split
    · exact HB_M S B5 m0 (by omega) t0 t1
    split
    · exact B5
    · exact HB_R B5 m0 (by omega) t0 t1 (by omega)
  · exact B5
end
