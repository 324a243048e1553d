/-! THE CLAIM OUT OF ONE WALK OF THE LAW'S BODY. Your part is whole_start (and what it stands on); all else here is the same for every law, but numbers. -/
def R_law : String := "UnlearnedHandLaw"
def lw_P (b : Addr) (xs : List Int32) (args : Array Value) (s : State) : Prop := args = #[.ref b] ∧ s.IntsAt b xs ∧ xs.length ≤ 3072 ∧ (Jvm.Cond.and given_1 narrow_1).before args s = true
def lw_Q (_ : Array Value) (s : State) (o : Outcome) (t : State) : Prop := o = .returned (some (.int 1)) ∧ Framed s o t [] 600000 7302250
def lw_Z (below : List Frame) (a : Array Value) (s : State) : State → Prop := fun t => ∃ o, t.status = .running ∧ Ended t below o ∧ lw_Q a s o t
/-- the law's own end, with 1 on the stack, nothing written that was there before, its room as the claim has it -/
theorem lw_ret {p : Program} {l : Launch} {e : Env} {s : State} {m : MethodId} {below : List Frame} {meth : Method} {c : Code} {b : Nat} (hx : p.tables.exec = Jvm.exec) (hb : c.code = code) (hr : meth.sig.returnType = ret) (hlocks : meth.locks = false) {pc : Nat} {H : Heap} {ls : Array Slot} (hdg : decode code pc = .ok (.ireturn, 1)) : W p l e room_1 s m #[Value.ref b] below meth c H [] 600000 7302250 (lw_Z below #[Value.ref b] s) (F0 m pc ls [.int 1]) := by
  intro T hT X
  obtain ⟨fs, hret, hrun, hended, hW, hframe⟩ := X.leave (v := some (.int 1)) (hlocks := hlocks) (fun h => by rw [hr] at h; cases h)
  have hmeth' : T.vm.method? m = some meth := X.method'
  refine ⟨T.setFrames fs, ?_, .returned (some (.int 1)), hrun, hended, rfl, ⟨_, rfl⟩, hW, hframe⟩
  jvm_step X.here [X.here.top, hx, hb, hdg, hmeth', hr, ret, narrow_b1]
  (try refine ⟨rfl, ?_⟩); (try refine ⟨rfl, ?_⟩)
  first | (intro acts; rw [hret _ acts rfl rfl rfl]) | rw [hret _ _ rfl rfl rfl]
  exact Steps.refl _
/-- what holds at the law's entry: the machine, the code, the tables' words (any of lw_tbl by 'hts w (by decide +kernel)'), the script of L ints xs at the cell b, what the Statement gives of the start (any of its parts by flat_of_before) -/
def lw_At (p : Program) (s : State) (m : MethodId) (meth : Method) (c : Code) (b L : Nat) (xs : Nat → Int32) : Prop :=
  p.tables.exec = Jvm.exec ∧ c.code = code ∧ meth.sig.returnType = ret ∧ c.maxLocals = 4 ∧ s.vm.findClass R_law = some m.cls ∧ (∀ w ∈ lw_tbl, w.before #[Value.ref b] s = true) ∧ va_X b L xs s s.heap ∧ b < s.heap.size ∧ meth.locks = false ∧ (Jvm.Cond.and given_1 narrow_1).before #[Value.ref b] s = true
/-! the law's own entry on the abstract machine, and from it the claim's start -/
def am_mL (L : Nat) (xs : Nat → Int32) : am_M := (1, fun c i => if c = -1 then (xs i.toNat).toInt else if c = -4 then (L : Int) else 0)
theorem am_known {args : Array Value} {s : State} (hts : ∀ w ∈ lw_tbl, w.before args s = true) : ∃ (D : va_G) (cA : Nat → ClassId), va_K D am_cl (am_tys cA) s := by
  have hG : ∀ w ∈ am_G, w.before args s = true := fun w hw => hts w (List.mem_filter.mp hw).1
  have h1 : ∀ k : Nat, ∃ q : ClassId × (Nat → Nat), ∀ C T N, am_cl[k]? = some (C, T, N) → u_Kn s C T N q.1 q.2 := by
    intro k
    cases hk : am_cl[k]? with
    | none => exact ⟨(0, fun _ => 0), fun C T N h => by cases h⟩
    | some q =>
      obtain ⟨C, T, N⟩ := q
      obtain ⟨hc, g1, -⟩ := am_cls hk
      obtain ⟨T', N', k1, -, -, k4, -⟩ := am_clf hc
      rw [hk] at k1
      cases k1
      obtain ⟨cC, iS, hKn⟩ := u_known (n := N) hG g1 (hG _ k4)
      exact ⟨(cC, iS), fun C T N h => by cases h; exact hKn⟩
  obtain ⟨g1, g2, g3, g4, g5, g6, g7⟩ := am_garr
  have ar : ∀ {ty : FieldType}, Cond.arrayClass ty ∈ am_G → ∃ c : ClassId, ArrOfT s c ty ∧ s.vm.findClass ("[" ++ ty.toString) = some c := fun h => by
    obtain ⟨c, k, comp, e1, e2, e3⟩ := Cond.arrayClass_spec (hG _ h)
    exact ⟨c, fun n z => ⟨(fun k h => by cases h), k, e2, comp, e3⟩, e1⟩
  have ao : ∀ {C : String}, Cond.arrayOver (.object C) ∈ am_G → ∃ c : ClassId, ArrOfT s c (.object C) ∧ va_RA s c (.object C) := fun h => by
    obtain ⟨comp, c, k, e1, -, e2, e3, e4⟩ := Cond.arrayOver_spec (hG _ h)
    exact ⟨c, fun n z => ⟨(fun k h => by cases h), k, e2, comp, e3⟩, k, comp, e2, e3, e1, e4⟩
  obtain ⟨c0, a0, b0⟩ := ar g1
  obtain ⟨c1, a1, b1⟩ := ar g2
  obtain ⟨c2, a2, b2⟩ := ar g3
  obtain ⟨c3, a3, b3⟩ := ar g4
  obtain ⟨c4, a4, b4⟩ := ao g5
  obtain ⟨c5, a5, b5⟩ := ao g6
  obtain ⟨comp, c6, k6, e1, -, e2, e3, e4⟩ := arrayOverA_spec (hG _ g7)
  refine ⟨(fun k => (Classical.choose (h1 k)).1, fun k => (Classical.choose (h1 k)).2), fun k => if k = 20 then c0 else if k = 21 then c1 else if k = 22 then c2 else if k = 23 then c3 else if k = 24 then c4 else if k = 25 then c5 else c6, fun k q hq => Classical.choose_spec (h1 k) _ _ _ hq, fun k q hk => ?_⟩
  match k, hk with
  | 0, hk => cases hk; exact ⟨a0, b0⟩
  | 1, hk => cases hk; exact ⟨a1, b1⟩
  | 2, hk => cases hk; exact ⟨a2, b2⟩
  | 3, hk => cases hk; exact ⟨a3, b3⟩
  | 4, hk => cases hk; exact ⟨a4, b4⟩
  | 5, hk => cases hk; exact ⟨a5, b5⟩
  | 6, hk => cases hk; exact ⟨fun n z => ⟨(fun k h => by cases h), k6, e2, comp, e3⟩, e4⟩
  | n + 7, hk => simp [am_tys] at hk
set_option maxHeartbeats 1000000 in
theorem am_start {p : Program} {e : Env} {s : State} {m : MethodId} {below : List Frame} {meth : Method} {c : Code} (l : Launch) {b L : Nat} {xs : Nat → Int32} (hL : L ≤ 3072) (C0 : lw_At p s m meth c b L xs) {f : Nat} {μ' : am_M} (hex : am_exec f 300 am_law 0 (am_entry am_law [(2, -1)]) [] (am_mL L xs) = some (1, μ')) (hb1 : μ'.1 ≤ 600001) (hb2 : am_sz μ'.1 ≤ 7302250) : W p l e room_1 s m #[Value.ref b] below meth c s.heap [] 0 0 (lw_Z below #[Value.ref b] s) (entryFrame m ([Value.ref b] : List Value).toArray 4) := by
  obtain ⟨hx, hb, hr, hml, hown, hts, hX, hbl, hlocks, hgv⟩ := C0
  obtain ⟨D, cA, hK⟩ := am_known hts
  have hs : ∀ w ∈ am_fl, w.before #[Value.ref b] s = true := by
    have := flat_of_before _ hgv
    rw [am_fl_eq] at this
    exact this
  have hA0 : ∀ a : Nat, a < s.heap.size → ¬ (fun q : Nat => s.heap.size ≤ q) a := fun a ha => Nat.not_le.mpr ha
  obtain ⟨ad, had, hRO⟩ := am_ro0 b hs hts hA0
  subst had
  have hG : ∀ w ∈ am_G, w.before #[Value.ref (ad (-1))] s = true := fun w hw => hts w (List.mem_filter.mp hw).1
  have C : am_Cx am_law p s m #[Value.ref (ad (-1))] meth c D cA := ⟨hx, hb, hml, hown, hG, hK, hlocks, fun h => absurd h (Nat.lt_irrefl _)⟩
  have hws : am_ws ad cA (am_mL L xs) = [] := rfl
  have hM : am_okM (am_mL L xs) := ⟨Nat.le_refl 1, fun c i h1 h2 _ => by have h2 : c < ((1 : Nat) : Int) := h2; omega⟩
  have hN : am_okN (am_mL L xs) := fun c _ j => by
    show -2147483648 ≤ (if c = -1 then (xs j.toNat).toInt else if c = -4 then (L : Int) else 0) ∧ (if c = -1 then (xs j.toNat).toInt else if c = -4 then (L : Int) else 0) < 2147483648
    have := am_i32r (xs j.toNat)
    split
    · exact this
    · split <;> omega
  have hok : am_okL (am_mL L xs).1 [(2, -1)] := am_okL_cons.mpr ⟨am_okV_a.mpr (by show (-16 : Int) ≤ -1 ∧ (-1 : Int) < ((1 : Nat) : Int); omega), fun v hv => by cases hv⟩
  have key := am_run (R := room_1) (l := l) (e := e) (below := below) (args := #[Value.ref (ad (-1))]) (Q := lw_Z below #[Value.ref (ad (-1))] s) (n0 := 1) (μ0 := am_mL L xs) (r := 1) (μ' := μ') (y := am_law) (d := 300) (D := D) (cA := cA) (ad0 := ad) (A := fun q : Nat => s.heap.size ≤ q) am_all (fun d' z h hz => am_met am_all _ d' z (Nat.lt_succ_self _) hz) C (fun q h => h) hRO (am_NW.of hts) (fun _ => ⟨L, xs, hX, hbl, Nat.not_le.mpr hbl, by omega, rfl, fun k hk => by show (xs ((k : Nat) : Int).toNat).toInt = _; rw [Int.toNat_natCast]⟩) ⟨by show am_fr 300 am_law ≤ 2048; decide +kernel, by show 40 * am_fr 300 am_law ≤ 84000; decide +kernel⟩ (Nat.le_refl 1) ⟨by show μ'.1 - 1 ≤ 600000; omega, by show am_sz μ'.1 - am_sz 1 ≤ 7302250; omega⟩ ?_ f 0 (am_entry am_law [(2, -1)]) [] (am_mL L xs) ad s.heap [] _ hex (am_okL_entry (Nat.le_refl 1) hok) (fun v hv => by cases hv) hM hN (Nat.le_refl 1) am_neg_rf (fun _ _ => rfl) (am_entry_Fr (by decide +kernel)) ⟨by rw [hws]; exact fun k q h => by simp at h, by rw [hws]; exact ⟨fun i j p q h => by simp at h, fun k q h => by simp at h⟩, va_S.rf⟩
  · rw [lg_entry_eq]
    exact key
  · intro i q st ad' H locs ls hd hret hag hW
    obtain ⟨wP, wD, wS⟩ := hW
    have hk : am_rk am_law = 2 := by decide +kernel
    unfold am_ret at hret
    split at hret
    · rw [hk, if_neg (by decide)] at hret; cases hret
    · split at hret
      · cases hret
        refine va_forget (fun q hq => wS.2.2 q hq) ?_
        refine W.widen (k := 600000) (n := 7302250) (by omega) (by omega) ?_
        exact lw_ret hx hb hr hlocks hd
      · cases hret
    · rw [hk, if_neg (by decide)] at hret; cases hret
    · rw [hk, if_neg (by decide)] at hret; cases hret
    · cases hret
