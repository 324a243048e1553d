/-! what one man's nights depend on -/
def om (m j : Int) : Prop := (8 * m ≤ j ∧ j < 8 * m + 8) ∨ (48 + 8 * m ≤ j ∧ j < 56 + 8 * m) ∨ (96 + 8 * m ≤ j ∧ j < 104 + 8 * m) ∨ j = 144 + m ∨ j = 150 + m ∨ j = 156 + m ∨ j = 162
def ag (m : Int) (H H' : Int → Int) : Prop := ∀ j, om m j → H j = H' j
section
variable {T n al : Int} {P W : Int → Int} {cd : Int → Option (List (Int × Int))} {H H' : Int → Int} {m t k i v : Int}
theorem ag_refl : ag m H H := fun _ _ => rfl
theorem ag_trans {H2 : Int → Int} (a : ag m H H') (b : ag m H' H2) : ag m H H2 := fun j h => (a j h).trans (b j h)
theorem ag_nm (a : ag m H H') (t0 : 0 ≤ t) (t1 : t < 8) : lx_nm P W H m t k = lx_nm P W H' m t k := by
  funext j
  unfold lx_nm
  rw [a (8 * m + t) (by unfold om; omega), a (48 + (8 * m + t)) (by unfold om; omega), a 162 (by unfold om; omega), a (144 + m) (by unfold om; omega), a (150 + m) (by unfold om; omega)]
theorem ag_hu (a : ag m H H') : ag m (hu H i v) (hu H' i v) := fun j h => by
  unfold hu
  split
  · rfl
  · exact a j h
theorem ag_off (h : ¬ om m i) : ag m (hu H i v) H := fun j hj => by
  unfold hu
  exact if_neg fun (e : j = i) => h (e ▸ hj)
theorem ag_R (a : ag m H H') (t0 : 0 ≤ t) (t1 : t < 8) : ag m (hR H m t v) (hR H' m t v) := by
  unfold hR
  rw [a (96 + (8 * m + t)) (by unfold om; omega)]
  exact ag_hu (ag_hu a)
theorem ag_F (a : ag m H H') (t0 : 0 ≤ t) (t1 : t < 8) : ag m (hF P W cd m t H) (hF P W cd m t H') := by
  unfold hF
  rw [ag_nm a t0 t1, a (8 * m + t) (by unfold om; omega), a (48 + (8 * m + t)) (by unfold om; omega), a (144 + m) (by unfold om; omega)]
  unfold hW
  split
  · exact ag_hu a
  · exact ag_hu (ag_R a t0 t1)
theorem ag_Fo {m' : Int} (h : m' ≠ m) (m0 : 0 ≤ m) (m1 : m < 6) (n0 : 0 ≤ m') (n1 : m' < 6) (t0 : 0 ≤ t) (t1 : t < 8) : ag m (hF P W cd m' t H) H := by
  have o1 : ¬ om m (8 * m' + t) := by unfold om; omega
  have o2 : ¬ om m (48 + (8 * m' + t)) := by unfold om; omega
  have o3 : ¬ om m (96 + (8 * m' + t)) := by unfold om; omega
  unfold hF hW
  refine ag_trans (ag_off o2) ?_
  split
  · exact ag_refl
  · unfold hR
    exact ag_trans (ag_off o3) (ag_off o1)
theorem ag_Had (a : ag m H H') (hT : T ≤ 8) : hHad T P W cd H m = hHad T P W cd H' m := by
  unfold hHad
  exact ax_fo_congr _ _ _ fun t s t0 t1 => by rw [ag_nm a t0 (by omega)]
theorem ag_T (a : ag m H H') (hT8 : T ≤ 8) : ag m (hT T al P W cd m H) (hT T al P W cd m H') := by
  unfold hT
  rw [ag_Had a hT8]
  split
  · exact ag_hu a
  · exact a
theorem ag_To {m' : Int} (h : m' ≠ m) (m0 : 0 ≤ m) (m1 : m < 6) (n0 : 0 ≤ m') (n1 : m' < 6) : ag m (hT T al P W cd m' H) H := by
  unfold hT
  split
  · exact ag_off (by unfold om; omega)
  · exact ag_refl
theorem ag_Nm (a : ag m H H') (hT8 : T ≤ 8) : ag m (hNm T P W cd m H) (hNm T P W cd m H') := by
  unfold hNm
  rw [a (156 + m) (by unfold om; omega)]
  split
  · exact ax_fo_rel (P := fun _ A B => ag m A B) _ _ _ _ (fun t A B t0 t1 hh => ag_F hh t0 (by omega)) a
  · exact a
theorem ag_Nmo {m' : Int} (h : m' ≠ m) (m0 : 0 ≤ m) (m1 : m < 6) (n0 : 0 ≤ m') (n1 : m' < 6) (hT8 : T ≤ 8) : ag m (hNm T P W cd m' H) H := by
  unfold hNm
  split
  · exact ax_fo_inv (P := fun _ A => ag m A H) _ _ _ (fun t A t0 t1 hh => ag_trans (ag_Fo h m0 m1 n0 n1 t0 (by omega)) hh) ag_refl
  · exact ag_refl
theorem ag_Tf (a : ag m H H') (hT8 : T ≤ 8) : ag m (hTf T al P W cd m H) (hTf T al P W cd m H') := by
  unfold hTf
  rw [a (156 + m) (by unfold om; omega)]
  split
  · exact ag_T a hT8
  · exact a
theorem ag_Tfo {m' : Int} (h : m' ≠ m) (m0 : 0 ≤ m) (m1 : m < 6) (n0 : 0 ≤ m') (n1 : m' < 6) : ag m (hTf T al P W cd m' H) H := by
  unfold hTf
  split
  · exact ag_To h m0 m1 n0 n1
  · exact ag_refl
theorem ag_fo {g : Int → (Int → Int) → (Int → Int)} (m0 : 0 ≤ m) (m1 : m < n) (hon : ∀ A B, ag m A B → ag m (g m A) (g m B)) (hoff : ∀ i A, 0 ≤ i → i < n → i ≠ m → ag m (g i A) A) (a : ag m H H') : ag m (ax_fo g (n - 0).toNat 0 H) (ax_fo g (m + 1 - m).toNat m H') := by
  have key := ax_fo_inv (f := g) (P := fun i A => if i ≤ m then ag m A H else ag m A (g m H)) (n - 0).toNat 0 H (fun i A i0 i1 hh => by
    by_cases e : i = m
    · rw [if_pos (by omega)] at hh
      rw [if_neg (by omega), e]
      exact hon _ _ hh
    · have o := hoff i A i0 (by omega) e
      by_cases h : i ≤ m
      · rw [if_pos h] at hh
        rw [if_pos (by omega)]
        exact ag_trans o hh
      · rw [if_neg h] at hh
        rw [if_neg (by omega)]
        exact ag_trans o hh) (by rw [if_pos m0]; exact ag_refl)
  rw [if_neg (by omega)] at key
  rw [show (m + 1 - m).toNat = 1 by omega]
  exact ag_trans key (hon _ _ a)
theorem ag_Ni (m0 : 0 ≤ m) (m1 : m < n) (n6 : n ≤ 6) (hT8 : T ≤ 8) (a : ag m H H') : ag m (hNi T al P W cd 0 n H) (hNi T al P W cd m (m + 1) H') := by
  unfold hNi
  dsimp only
  have A1 := ag_fo (g := fun m H => hNm T P W cd m H) m0 m1 (fun A B h => ag_Nm h hT8) (fun i A i0 i1 h => ag_Nmo h m0 (by omega) i0 (by omega) hT8) a
  generalize ax_fo (fun m H => hNm T P W cd m H) (n - 0).toNat 0 H = H1 at *
  generalize ax_fo (fun m H => hNm T P W cd m H) (m + 1 - m).toNat m H' = H1' at *
  have e1 := A1 162 (by unfold om; omega)
  rw [e1]
  have A2 : ag m (hu H1 162 (H1' 162 + 1)) (hu H1' 162 (H1' 162 + 1)) := ag_hu A1
  generalize hu H1 162 (H1' 162 + 1) = H2 at *
  generalize hu H1' 162 (H1' 162 + 1) = H2' at *
  rw [A2 162 (by unfold om; omega)]
  split
  · exact ag_fo (g := fun m H => hTf T al P W cd m H) m0 m1 (fun A B h => ag_Tf h hT8) (fun i A i0 i1 h => ag_Tfo h m0 (by omega) i0 (by omega)) A2
  · exact A2
end
