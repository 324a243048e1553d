/-! wrongs: turns don't touch one another -/
def o2 (m t j : Int) : Prop := j = 8 * m + t ∨ j = 48 + (8 * m + t) ∨ j = 96 + (8 * m + t) ∨ j = 144 + m ∨ j = 150 + m ∨ j = 162
def ag2 (m t : Int) (H H' : Int → Int) : Prop := ∀ j, o2 m t j → H j = H' j
theorem fo_one {α : Type} {R : α → α → Prop} (rf : ∀ a, R a a) (tr : ∀ a b c, R a b → R b c → R a c) {g : Int → α → α} {t n : Int} {H H' : α} (t0 : 0 ≤ t) (t1 : t < n) (hon : ∀ A B, R A B → R (g t A) (g t B)) (hoff : ∀ i A, 0 ≤ i → i < n → i ≠ t → R (g i A) A) (a : R H H') : R (ax_fo g (n - 0).toNat 0 H) (g t H') := by
  have key := ax_fo_inv (f := g) (P := fun i A => if i ≤ t then R A H else R A (g t H)) (n - 0).toNat 0 H (fun i A i0 i1 hh => by
    by_cases e : i = t
    · rw [if_pos (by omega)] at hh
      rw [if_neg (by omega), e]
      exact hon _ _ hh
    · have o := hoff i A i0 (by omega) e
      by_cases h : i ≤ t
      · rw [if_pos h] at hh
        rw [if_pos (by omega)]
        exact tr _ _ _ o hh
      · rw [if_neg h] at hh
        rw [if_neg (by omega)]
        exact tr _ _ _ o hh) (by rw [if_pos t0]; exact rf _)
  rw [if_neg (by omega)] at key
  exact tr _ _ _ key (hon _ _ a)
section
variable {T n al : Int} {P W : Int → Int} {cd : Int → Option (List (Int × Int))} {H H' : Int → Int} {m t k i v : Int}
theorem ag2_refl : ag2 m t H H := fun _ _ => rfl
theorem ag2_trans {H2 : Int → Int} (a : ag2 m t H H') (b : ag2 m t H' H2) : ag2 m t H H2 := fun j h => (a j h).trans (b j h)
theorem ag2_nm (a : ag2 m t H H') : lx_nm P W H m t k = lx_nm P W H' m t k := by
  funext j
  unfold lx_nm
  rw [a (8 * m + t) (by unfold o2; omega), a (48 + (8 * m + t)) (by unfold o2; omega), a 162 (by unfold o2; omega), a (144 + m) (by unfold o2; omega), a (150 + m) (by unfold o2; omega)]
theorem ag2_hu (a : ag2 m t H H') : ag2 m t (hu H i v) (hu H' i v) := fun j h => by
  unfold hu
  split
  · rfl
  · exact a j h
theorem ag2_off (h : ¬ o2 m t i) : ag2 m t (hu H i v) H := fun j hj => by
  unfold hu
  exact if_neg fun (e : j = i) => h (e ▸ hj)
theorem ag2_R (a : ag2 m t H H') : ag2 m t (hR H m t v) (hR H' m t v) := by
  unfold hR
  rw [a (96 + (8 * m + t)) (by unfold o2; omega)]
  exact ag2_hu (ag2_hu a)
theorem ag2_F (a : ag2 m t H H') : ag2 m t (hF P W cd m t H) (hF P W cd m t H') := by
  unfold hF
  rw [ag2_nm a, a (8 * m + t) (by unfold o2; omega), a (48 + (8 * m + t)) (by unfold o2; omega), a (144 + m) (by unfold o2; omega)]
  unfold hW
  split
  · exact ag2_hu a
  · exact ag2_hu (ag2_R a)
theorem ag2_M (a : ag2 m t H H') : ag2 m t (hM P W cd m t k H) (hM P W cd m t k H') := by
  unfold hM hW
  rw [a (8 * m + t) (by unfold o2; omega), a (48 + (8 * m + t)) (by unfold o2; omega), a (144 + m) (by unfold o2; omega)]
  have a2 : ag2 m t (hu H (48 + (8 * m + t)) (hcl 0 99 (H' (48 + (8 * m + t)) + k))) (hu H' (48 + (8 * m + t)) (hcl 0 99 (H' (48 + (8 * m + t)) + k))) := ag2_hu a
  rw [ag2_nm a2]
  split
  · exact a2
  · exact ag2_R a2
theorem ag2_Fo {t' : Int} (h : t' ≠ t) (m0 : 0 ≤ m) (m1 : m < 6) (t0 : 0 ≤ t) (t1 : t < 8) (u0 : 0 ≤ t') (u1 : t' < 8) : ag2 m t (hF P W cd m t' H) H := by
  have q1 : ¬ o2 m t (8 * m + t') := by unfold o2; omega
  have q2 : ¬ o2 m t (48 + (8 * m + t')) := by unfold o2; omega
  have q3 : ¬ o2 m t (96 + (8 * m + t')) := by unfold o2; omega
  unfold hF hW
  refine ag2_trans (ag2_off q2) ?_
  split
  · exact ag2_refl
  · unfold hR
    exact ag2_trans (ag2_off q3) (ag2_off q1)
theorem ag2_Mo {t' : Int} (h : t' ≠ t) (m0 : 0 ≤ m) (m1 : m < 6) (t0 : 0 ≤ t) (t1 : t < 8) (u0 : 0 ≤ t') (u1 : t' < 8) : ag2 m t (hM P W cd m t' k H) H := by
  have q1 : ¬ o2 m t (8 * m + t') := by unfold o2; omega
  have q2 : ¬ o2 m t (48 + (8 * m + t')) := by unfold o2; omega
  have q3 : ¬ o2 m t (96 + (8 * m + t')) := by unfold o2; omega
  unfold hM hW
  split
  · exact ag2_off q2
  · unfold hR
    exact ag2_trans (ag2_off q3) (ag2_trans (ag2_off q1) (ag2_off q2))
def hDay (H : Int → Int) : Int → Int := hu H 162 (H 162 + 1)
theorem ag2_D (a : ag2 m t H H') : ag2 m t (hDay H) (hDay H') := by
  unfold hDay
  rw [a 162 (by unfold o2; omega)]
  exact ag2_hu a
/-- a night of lessons: for one turn, for all -/
def kwS (P W : Int → Int) (cd : Int → Option (List (Int × Int))) (m t k S i : Int) (H : Int → Int) : Int → Int := hDay (hF P W cd m t (if am_and (am_shr S i) 1 = 1 then hM P W cd m t k H else H))
def lwS (T : Int) (P W : Int → Int) (cd : Int → Option (List (Int × Int))) (m k : Int) (L : Int → Int) (i : Int) (H : Int → Int) : Int → Int := hDay (ax_fo (fun t H => hF P W cd m t H) (T - 0).toNat 0 (if L i ≤ 0 then H else hM P W cd m (L i - 1) k H))
theorem ag2_S {S : Int} {L : Int → Int} (m0 : 0 ≤ m) (m1 : m < 6) (t0 : 0 ≤ t) (t1 : t < T) (T8 : T ≤ 8) (h0 : L i ≤ T) (hb : am_and (am_shr S i) 1 = 1 ↔ L i = t + 1) (a : ag2 m t H H') : ag2 m t (lwS T P W cd m k L i H) (kwS P W cd m t k S i H') := by
  unfold lwS kwS
  refine ag2_D (fo_one (R := ag2 m t) (fun _ => ag2_refl) (fun _ _ _ => ag2_trans) (g := fun t H => hF P W cd m t H) t0 t1 (fun A B h => ag2_F h) (fun i A i0 i1 h => ag2_Fo h m0 m1 t0 (by omega) i0 (by omega)) ?_)
  by_cases h : L i = t + 1
  · rw [if_neg (by omega), if_pos (hb.mpr h), show L i - 1 = t by omega]
    exact ag2_M a
  · rw [if_neg (fun q => h (hb.mp q))]
    by_cases h2 : L i ≤ 0
    · rw [if_pos h2]; exact a
    · rw [if_neg h2]
      exact ag2_trans (ag2_Mo (by omega) m0 m1 t0 (by omega) (by omega) (by omega)) a
/-- whether a turn is had behind all -/
def kv (n : Int) (P W : Int → Int) (cd : Int → Option (List (Int × Int))) (m k : Int) (H : Int → Int) (t S : Int) : Int := lx_val 0 (cd 0) (lx_nm P W (ax_fo (kwS P W cd m t k S) n.toNat 0 H) m t 0)
def lv (n T : Int) (P W : Int → Int) (cd : Int → Option (List (Int × Int))) (m k : Int) (H : Int → Int) (L : Int → Int) : Int → Int := ax_fo (lwS T P W cd m k L) n.toNat 0 H
theorem kv_lv {S : Int} {L : Int → Int} (m0 : 0 ≤ m) (m1 : m < 6) (t0 : 0 ≤ t) (t1 : t < T) (T8 : T ≤ 8) (n0 : 0 ≤ n) (h0 : ∀ i, 0 ≤ i → i < n → L i ≤ T) (hb : ∀ i, 0 ≤ i → i < n → (am_and (am_shr S i) 1 = 1 ↔ L i = t + 1)) : lx_val 0 (cd 0) (lx_nm P W (lv n T P W cd m k H L) m t 0) = kv n P W cd m k H t S := by
  have a : ag2 m t (ax_fo (lwS T P W cd m k L) n.toNat 0 H) (ax_fo (kwS P W cd m t k S) n.toNat 0 H) := ax_fo_rel (f := lwS T P W cd m k L) (g := kwS P W cd m t k S) (P := fun _ A B => ag2 m t A B) n.toNat 0 H H (fun i A B i0 i1 h => ag2_S m0 m1 t0 t1 T8 (h0 i i0 (by omega)) (hb i i0 (by omega)) h) ag2_refl
  unfold kv lv
  rw [ag2_nm a]
end
/-! how many -/
theorem cn_sB : ∀ t : Fin 8, ∀ a : Fin 256, a.val < 2 ^ t.val → ax_pc 8 (a.val ||| 2 ^ t.val) = ax_pc 8 a.val + 1 ∧ (a.val ||| 2 ^ t.val) < 2 ^ (t.val + 1) := by decide +kernel
theorem cn_s {t a : Int} (t0 : 0 ≤ t) (t1 : t < 8) (a0 : 0 ≤ a) (a1 : a < ((2 ^ t.toNat : Nat) : Int)) : ax_cn (am_or a (am_shl 1 t)) = ax_cn a + 1 ∧ 0 ≤ am_or a (am_shl 1 t) ∧ am_or a (am_shl 1 t) < ((2 ^ (t + 1).toNat : Nat) : Int) := by
  have p := bi_p t0 t1
  have p0 := bi_p0 (f := t)
  have h := cn_sB ⟨t.toNat, by omega⟩ ⟨a.toNat, by omega⟩ (by show a.toNat < 2 ^ t.toNat; omega)
  have e : (t + 1).toNat = t.toNat + 1 := by omega
  rw [ax_shl1 t0 (by omega), ax_or_nn a0 (by omega) (by omega) (by omega), Int.toNat_natCast, e]
  unfold ax_cn
  rw [Int.toNat_natCast]
  dsimp only at h
  omega
theorem cn_sum {T : Int} {v : Int → Int} (T0 : 0 ≤ T) (T8 : T ≤ 8) (hv : ∀ t, 0 ≤ t → t < T → v t = 0 ∨ v t = 1) : ax_cn (ax_fo (fun t s => am_or s (if v t = 0 then 0 else am_shl 1 t)) (T - 0).toNat 0 0) = ax_fo (fun t s => s + v t) (T - 0).toNat 0 0 := by
  have key := ax_fo_rel (f := fun t s => am_or s (if v t = 0 then 0 else am_shl 1 t)) (g := fun t s => s + v t) (P := fun t a b => (0 ≤ a ∧ a < ((2 ^ t.toNat : Nat) : Int)) ∧ ax_cn a = b) (T - 0).toNat 0 0 0 (fun t a b t0 t1 h => by
    obtain ⟨⟨a0, a1⟩, h1⟩ := h
    have p := bi_p t0 (by omega)
    have p0 := bi_p0 (f := t)
    have p2 : (2 ^ t.toNat : Nat) ≤ 2 ^ (t + 1).toNat := Nat.pow_le_pow_right (by decide) (by omega)
    rcases hv t t0 (by omega) with e | e
    · rw [e, if_pos rfl, ax_or0 a0 (by omega)]
      exact ⟨⟨a0, by omega⟩, by omega⟩
    · rw [e, if_neg (by decide)]
      obtain ⟨g1, g2, g3⟩ := cn_s t0 (by omega) a0 a1
      exact ⟨⟨g2, g3⟩, by omega⟩) ⟨⟨by omega, by decide⟩, rfl⟩
  exact key.2
