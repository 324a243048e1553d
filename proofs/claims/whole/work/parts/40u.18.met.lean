/-! every method of the machine's tables keeps its contract -/
theorem am_nbool {v : Int} (h : am_rok 2 v = true) : narrow .boolean (.int (Int32.ofInt v)) = .int (Int32.ofInt v) := by
  unfold am_rok at h
  rw [if_pos rfl] at h
  simp only [Bool.or_eq_true, beq_iff_eq] at h
  rcases h with rfl | rfl <;> rfl
theorem am_nbyte {v : Int} (h : am_rok 4 v = true) : narrow .byte (.int (Int32.ofInt v)) = .int (Int32.ofInt v) := by
  unfold am_rok at h
  rw [if_neg (by decide), if_neg (by decide), if_pos rfl] at h
  simp only [Bool.and_eq_true, decide_eq_true_eq] at h
  show Value.int ((Int32.ofInt v).toInt8.toInt32) = _
  congr 1
  apply Int32.toInt_inj.mp
  rw [Int8.toInt_toInt32, Int32.toInt_toInt8, Int32.toInt_ofInt, show Int32.size = 4294967296 from rfl, Int.bmod_eq_of_le (n := v) (by omega) (by omega), Int.bmod_eq_of_le (by omega) (by omega)]
theorem am_nchar {v : Int} (h : am_rok 3 v = true) : narrow .char (.int (Int32.ofInt v)) = .int (Int32.ofInt v) := by
  unfold am_rok at h
  rw [if_neg (by decide), if_pos rfl] at h
  simp only [Bool.and_eq_true, decide_eq_true_eq] at h
  have h2 := am_nar_c v
  show Value.int (vp_nar .char (Int32.ofInt v)) = _
  rw [h2]
  congr 1
  unfold am_u16
  rw [Int32.ofInt_toInt]
  obtain ⟨n, rfl⟩ : ∃ n : Nat, v = n := ⟨v.toNat, by omega⟩
  apply Int32.toBitVec_inj.mp
  apply BitVec.eq_of_toNat_eq
  have hv : (Int32.ofInt (n : Int)).toBitVec.toNat = n := by
    show (BitVec.ofInt 32 (n : Int)).toNat = n
    rw [BitVec.toNat_ofInt]
    omega
  show ((Int32.ofInt (n : Int)).toUInt32 % 65536).toBitVec.toNat = _
  rw [hv]
  show ((Int32.ofInt (n : Int)).toUInt32 % 65536).toNat = n
  rw [UInt32.toNat_mod]
  show (Int32.ofInt (n : Int)).toBitVec.toNat % (65536 : UInt32).toNat = n
  rw [hv, show (65536 : UInt32).toNat = 65536 from rfl]
  omega
section AMS
variable {l : Launch} {D : va_G} {cA : Nat → ClassId}
set_option maxHeartbeats 2000000 in
theorem am_met_step (hE : ∀ y i, am_eOk y i) {d z : Nat} (IH : ∀ d' z', am_fr d' z' < am_fr d z → am_zOk z' → am_Met l D cA d' z') (hz : am_zOk z) : am_Met l D cA d z := by
  intro f as μ μ' r hex hlay hok hM hN ad sz
  obtain ⟨z1, z2, z3, z4, z5, ⟨z6, z8, z9⟩, z7⟩ := hz
  refine Met.ofW (cc := am_bc z) (maxL := am_ml z) (ret := am_rt z) z1 rfl ?_
  intro p e s m args below meth c s₁ B hml hv
  obtain ⟨rfl, hsz, hP, hK, hD0, hRO, hNW⟩ := hv
  have hx := B.exec
  have hb := B.bytes
  have hr := B.returns
  have hts := atoms_spec (ws := am_wsz z) B.pre
  have hown : s.vm.findClass (am_nm z).cls = some m.cls := findClass_of_methodNamed B.named
  have hname : meth.name = (am_nm z).name := (name_of_methodNamed B.named B.method).1
  have hlocks := B.notSynchronized
  subst hsz
  have hD := hD0.self (sz := s.heap.size)
  generalize hAe : va_A (am_ws ad cA μ) s.heap.size = A at hD hRO ⊢
  have hA : ∀ q : Nat, s.heap.size ≤ q → A q := fun q h => by rw [← hAe]; exact Or.inr h
  have C : am_Cx z p s m (as.map (am_val ad)).toArray meth c D cA := ⟨hx, hb, hml, hown, am_hts (fun w hw => hts w (List.mem_cons_of_mem _ hw)) hNW, hK, hlocks, fun _ => hname⟩
  rw [lg_entry_eq]
  have key := am_run (R := am_rm d z (μ'.1 - μ.1) (am_sz μ'.1 - am_sz μ.1)) (l := l) (e := e) (below := below) (Q := MQ below (am_Qz D cA ad μ s.heap.size z r μ') (as.map (am_val ad)).toArray s (μ'.1 - μ.1) (am_sz μ'.1 - am_sz μ.1) A) (n0 := μ.1) (μ0 := μ) (r := r) (μ' := μ') hE IH C hA hRO hNW (fun q => absurd q (by omega)) ⟨Nat.le_refl _, Nat.le_refl _⟩ hM.1 ⟨Nat.le_refl _, Nat.le_refl _⟩ ?_ f 0 (am_entry z as) [] μ ad s.heap [] _ hex (am_okL_entry hM.1 hok) (fun v hv => by cases hv) hM hN (Nat.le_refl _) am_neg_rf (fun _ _ => rfl) (am_entry_Fr hlay) ⟨hP, hD, va_S.rf⟩
  · rw [z9, Nat.sub_self, Nat.sub_self] at key
    rw [← hAe] at key ⊢
    exact key
  · intro i q st ad' H locs ls hd hret hag hW
    obtain ⟨wP, wD, wS⟩ := hW
    have hB : ∀ t : State, t.heap = H → s.WarmedH t.vm → am_Bz D cA A ad μ.1 μ' ad' t := fun t ht hw => ⟨hag, by rw [ht]; exact wP, va_K.moved hw.alike hK, wD⟩
    unfold am_ret at hret
    split at hret
    · split at hret
      · rename_i hk
        have hrt : am_rt z = none := by rcases z7 with ⟨h, h2⟩ | ⟨h, -⟩ | ⟨h, -⟩ | ⟨h, -⟩ | ⟨h, -⟩ | ⟨h, -⟩ <;> first | exact h2 | omega
        refine W.vret hx hb (hr.trans hrt) (fun t ht hw => ?_) wS.2.2 hd
        unfold am_Qz
        rw [if_pos hk, hAe]
        exact ⟨⟨ad', rfl, trivial, hB t ht hw⟩, wS.F ht⟩
      · cases hret
    · rename_i v
      split at hret
      · rename_i hk
        cases hret
        have h5 : ¬ am_rk z = 5 := by intro h5; rw [h5] at hk; simp [am_rok] at hk
        have h0 : ¬ am_rk z = 0 := by intro h5; rw [h5] at hk; simp [am_rok] at hk
        have hq : ∀ t : State, t.heap = H → s.WarmedH t.vm → am_Qz D cA ad μ s.heap.size z r μ' (as.map (am_val ad)).toArray s (.returned (some (.int (Int32.ofInt r)))) t := fun t ht hw => by
          unfold am_Qz
          rw [if_neg h0, if_neg h5, hAe]
          exact ⟨⟨Int32.ofInt r, ad', rfl, rfl, hB t ht hw⟩, wS.F ht⟩
        rcases z7 with ⟨h, h2⟩ | ⟨h, h2⟩ | ⟨h, h2⟩ | ⟨h, h2⟩ | ⟨h, h2⟩ | ⟨h, h2⟩
        · exact absurd h h0
        · exact W.iret hx hb (hr.trans h2) hq wS.2.2 hd
        · rw [h] at hk; exact W.zret hx hb (hr.trans h2) (am_nbool hk) hq wS.2.2 hd
        · rw [h] at hk; exact W.zret hx hb (hr.trans h2) (am_nchar hk) hq wS.2.2 hd
        · rw [h] at hk; exact W.zret hx hb (hr.trans h2) (am_nbyte hk) hq wS.2.2 hd
        · exact absurd h h5
      · cases hret
    · rename_i v
      split at hret
      · rename_i hk
        cases hret
        have hrt : am_rt z = some .long := by rcases z7 with ⟨h, h2⟩ | ⟨h, h2⟩ | ⟨h, h2⟩ | ⟨h, h2⟩ | ⟨h, h2⟩ | ⟨h, h2⟩ <;> first | exact h2 | omega
        refine W.lret hx hb (hr.trans hrt) (fun t ht hw => ?_) wS.2.2 hd
        unfold am_Qz
        rw [if_neg (by omega), if_pos hk, hAe]
        exact ⟨⟨Int64.ofInt r, ad', rfl, rfl, hB t ht hw⟩, wS.F ht⟩
      · cases hret
    · split at hret
      · rename_i hk
        rcases z7 with ⟨h, -⟩ | ⟨h, -⟩ | ⟨h, -⟩ | ⟨h, -⟩ | ⟨h, -⟩ | ⟨h, -⟩ <;> omega
      · cases hret
    · cases hret
theorem am_met (hE : ∀ y i, am_eOk y i) : ∀ (N d z : Nat), am_fr d z < N → am_zOk z → am_Met l D cA d z := by
  intro N
  induction N with
  | zero => intro d z h; omega
  | succ N ih => intro d z h hz; exact am_met_step hE (fun d' z' h' hz' => ih d' z' (by omega) hz') hz
end AMS
