/-! rows of the tables: what numbers say, what words say -/
set_option maxRecDepth 100000 in
theorem am_gobj : Cond.instanceMethod objectInit ∈ am_G ∧ Cond.code objectInit ⟨#[0xb1]⟩ 1 none ∈ am_G := ⟨am_m1 27 rfl rfl, am_m1 28 rfl rfl⟩
set_option maxRecDepth 100000 in
theorem am_gcpy : Cond.native arraycopyName ∈ am_G ∧ Cond.static arraycopyName ∈ am_G ∧ Cond.initialized "java/lang/System" ∈ am_G := ⟨am_m2 228 rfl rfl, am_m2 227 rfl rfl, am_m1 13 rfl rfl⟩
set_option maxRecDepth 100000 in
theorem am_gmax : Cond.static Lib.Math.max.name ∈ am_G ∧ Cond.initialized "java/lang/Math" ∈ am_G ∧ Cond.code Lib.Math.max.name Lib.Math.max.code 2 (some .int) ∈ am_G := ⟨am_m3 4 rfl rfl, am_m1 14 rfl rfl, am_m3 5 rfl rfl⟩
set_option maxRecDepth 100000 in
theorem am_gmin : Cond.static Lib.Math.min.name ∈ am_G ∧ Cond.initialized "java/lang/Math" ∈ am_G ∧ Cond.code Lib.Math.min.name Lib.Math.min.code 2 (some .int) ∈ am_G := ⟨am_m2 230 rfl rfl, am_m1 14 rfl rfl, am_m2 231 rfl rfl⟩
set_option maxRecDepth 100000 in
theorem am_garr : Cond.arrayClass .int ∈ am_G ∧ Cond.arrayClass .long ∈ am_G ∧ Cond.arrayClass .char ∈ am_G ∧ Cond.arrayClass .byte ∈ am_G ∧ Cond.arrayOver (.object RX8) ∈ am_G ∧ Cond.arrayOver (.object RX3) ∈ am_G ∧ Cond.arrayOver (.array .int) ∈ am_G := ⟨am_m1 95 rfl rfl, am_m6 160 rfl rfl, am_m2 23 rfl rfl, am_m4 156 rfl rfl, am_m1 138 rfl rfl, am_m1 210 rfl rfl, am_m2 33 rfl rfl⟩
theorem am_tc0 (k : Nat) : (TX0 k).1 = RX0 := by unfold TX0; split <;> rfl
set_option maxRecDepth 100000 in
theorem am_gc0 : Cond.instantiable RX0 2 ∈ am_G ∧ Cond.initialized RX0 ∈ am_G := ⟨am_m1 191 rfl rfl, am_m1 6 rfl rfl⟩
theorem am_tc1 (k : Nat) : (TX1 k).1 = RX1 := by unfold TX1; split <;> rfl
set_option maxRecDepth 100000 in
theorem am_gc1 : Cond.instantiable RX1 8 ∈ am_G ∧ Cond.initialized RX1 ∈ am_G := ⟨am_m2 25 rfl rfl, am_m1 9 rfl rfl⟩
theorem am_tc2 (k : Nat) : (TX2 k).1 = RX2 := by unfold TX2; split <;> rfl
set_option maxRecDepth 100000 in
theorem am_gc2 : Cond.instantiable RX2 13 ∈ am_G ∧ Cond.initialized RX2 ∈ am_G := ⟨am_m1 30 rfl rfl, am_m1 2 rfl rfl⟩
theorem am_tc3 (k : Nat) : (TX3 k).1 = RX3 := by unfold TX3; split <;> rfl
set_option maxRecDepth 100000 in
theorem am_gc3 : Cond.instantiable RX3 8 ∈ am_G ∧ Cond.initialized RX3 ∈ am_G := ⟨am_m1 97 rfl rfl, am_m1 3 rfl rfl⟩
theorem am_tc4 (k : Nat) : (TX4 k).1 = RX4 := by unfold TX4; split <;> rfl
set_option maxRecDepth 100000 in
theorem am_gc4 : Cond.instantiable RX4 4 ∈ am_G ∧ Cond.initialized RX4 ∈ am_G := ⟨am_m1 172 rfl rfl, am_m1 5 rfl rfl⟩
theorem am_tc5 (k : Nat) : (TX5 k).1 = RX5 := by unfold TX5; split <;> rfl
set_option maxRecDepth 100000 in
theorem am_gc5 : Cond.instantiable RX5 5 ∈ am_G ∧ Cond.initialized RX5 ∈ am_G := ⟨am_m2 79 rfl rfl, am_m1 11 rfl rfl⟩
theorem am_tc6 (k : Nat) : (TX6 k).1 = RX6 := by unfold TX6; split <;> rfl
set_option maxRecDepth 100000 in
theorem am_gc6 : Cond.instantiable RX6 10 ∈ am_G ∧ Cond.initialized RX6 ∈ am_G := ⟨am_m1 224 rfl rfl, am_m1 8 rfl rfl⟩
theorem am_tc7 (k : Nat) : (TX7 k).1 = RX7 := by unfold TX7; split <;> rfl
set_option maxRecDepth 100000 in
theorem am_gc7 : Cond.instantiable RX7 4 ∈ am_G ∧ Cond.initialized RX7 ∈ am_G := ⟨am_m2 60 rfl rfl, am_m1 10 rfl rfl⟩
theorem am_tc8 (k : Nat) : (TX8 k).1 = RX8 := by unfold TX8; split <;> rfl
set_option maxRecDepth 100000 in
theorem am_gc8 : Cond.instantiable RX8 7 ∈ am_G ∧ Cond.initialized RX8 ∈ am_G := ⟨am_m1 139 rfl rfl, am_m1 4 rfl rfl⟩
theorem am_tc9 (k : Nat) : (TX9 k).1 = RX9 := by unfold TX9; split <;> rfl
set_option maxRecDepth 100000 in
theorem am_gc9 : Cond.instantiable RX9 3 ∈ am_G ∧ Cond.initialized RX9 ∈ am_G := ⟨am_m1 204 rfl rfl, am_m1 7 rfl rfl⟩
theorem am_tc10 (k : Nat) : (TX10 k).1 = RX10 := by unfold TX10; split <;> rfl
set_option maxRecDepth 100000 in
theorem am_gc10 : Cond.instantiable RX10 15 ∈ am_G ∧ Cond.initialized RX10 ∈ am_G := ⟨am_m1 22 rfl rfl, am_m1 1 rfl rfl⟩
theorem am_tc11 (k : Nat) : (TX11 k).1 = RX11 := by unfold TX11; split <;> rfl
set_option maxRecDepth 100000 in
theorem am_gc11 : Cond.instantiable RX11 54 ∈ am_G ∧ Cond.initialized RX11 ∈ am_G := ⟨am_m5 228 rfl rfl, am_m1 12 rfl rfl⟩
theorem am_clf {c : Nat} (h : c < 12) : ∃ (T : u_T) (N : Nat), am_cl[c]? = some (am_cn c, T, N) ∧ N = am_nf c ∧ (∀ k, (T k).1 = am_cn c) ∧ Cond.instantiable (am_cn c) N ∈ am_G ∧ Cond.initialized (am_cn c) ∈ am_G := by
  match c, h with
  | 0, _ => exact ⟨_, _, rfl, rfl, am_tc0, am_gc0.1, am_gc0.2⟩
  | 1, _ => exact ⟨_, _, rfl, rfl, am_tc1, am_gc1.1, am_gc1.2⟩
  | 2, _ => exact ⟨_, _, rfl, rfl, am_tc2, am_gc2.1, am_gc2.2⟩
  | 3, _ => exact ⟨_, _, rfl, rfl, am_tc3, am_gc3.1, am_gc3.2⟩
  | 4, _ => exact ⟨_, _, rfl, rfl, am_tc4, am_gc4.1, am_gc4.2⟩
  | 5, _ => exact ⟨_, _, rfl, rfl, am_tc5, am_gc5.1, am_gc5.2⟩
  | 6, _ => exact ⟨_, _, rfl, rfl, am_tc6, am_gc6.1, am_gc6.2⟩
  | 7, _ => exact ⟨_, _, rfl, rfl, am_tc7, am_gc7.1, am_gc7.2⟩
  | 8, _ => exact ⟨_, _, rfl, rfl, am_tc8, am_gc8.1, am_gc8.2⟩
  | 9, _ => exact ⟨_, _, rfl, rfl, am_tc9, am_gc9.1, am_gc9.2⟩
  | 10, _ => exact ⟨_, _, rfl, rfl, am_tc10, am_gc10.1, am_gc10.2⟩
  | 11, _ => exact ⟨_, _, rfl, rfl, am_tc11, am_gc11.1, am_gc11.2⟩
  | n + 12, h => omega
/-- the words that a row links -/
def am_fw (own : String) (idx : Nat) (a b : Int) (x : List Nat) : List Cond := match am_cl[a.toNat]? with
  | some (_, T, _) => (match x with
    | [] => [Cond.fieldLink own idx (T b.toNat).1 (T b.toNat).2.1 (T b.toNat).2.2.1]
    | _ => [Cond.fieldLinkNest own idx (T b.toNat).1 (T b.toNat).2.1 (T b.toNat).2.2.1 "UnlearnedHand"])
  | none => []
def am_ew0 (own : String) (q : Instr) (a : Int) : List Cond := match q with
  | .ldc k => [Cond.constant own k (Int32.ofInt a)]
  | .ldc_w k => [Cond.constant own k (Int32.ofInt a)]
  | .ldc2_w k => [Cond.constantLong own k (Int64.ofInt a)]
  | _ => []
def am_ew2 (own : String) (q : Instr) (a b : Int) (x : List Nat) : List Cond := match q with
  | .getfield idx => am_fw own idx a b x
  | .putfield idx => am_fw own idx a b x
  | .new idx => [Cond.classLink own idx (am_cn a.toNat)]
  | .anewarray idx => if a = 24 then [Cond.classLink own idx RX8] else [Cond.classLink own idx RX3]
  | .multianewarray idx _ => [Cond.classLink own idx "[[I"]
  | _ => []
def am_ew3 (own : String) (q : Instr) (z : Nat) (x : List Nat) : List Cond := match q with
  | .invokevirtual idx => [Cond.methodLink own idx (am_nm z)]
  | .invokestatic idx => [Cond.methodLink own idx (am_nm z)]
  | .invokespecial idx => (match x with
    | [] => [Cond.methodLink own idx (am_nm z)]
    | _ => [Cond.methodLinkNest own idx (am_nm z) "UnlearnedHand"])
  | _ => []
def am_ewx (own : String) (q : Instr) (y : MethodName) : List Cond := match q with
  | .invokespecial idx => [Cond.methodLink own idx y]
  | .invokestatic idx => [Cond.methodLink own idx y]
  | _ => []
def am_ew11 (own : String) (q : Instr) (a : Int) : List Cond := match q with
  | .getfield idx => if a = 0 then [Cond.fieldLink own idx "java/lang/String" "value" "[B"] else [Cond.fieldLink own idx "java/lang/String" "coder" "B"]
  | .getstatic idx => if a = 0 then [Cond.fieldLink own idx "java/lang/String" "COMPACT_STRINGS" "Z"] else [Cond.fieldLink own idx "jdk/internal/util/Preconditions" "SIOOBE_FORMATTER" "Ljava/util/function/BiFunction;"]
  | _ => []
def am_ewE (own : String) (e : am_E) : List Cond := match e with
  | (0, _, _, q, a, _, _, _) => am_ew0 own q a
  | (2, _, _, q, a, b, _, x) => am_ew2 own q a b x
  | (3, _, _, q, z, _, _, x) => am_ew3 own q z.toNat x
  | (8, _, _, q, _, _, _, _) => am_ewx own q objectInit
  | (9, _, _, q, _, _, _, _) => am_ewx own q arraycopyName
  | (10, _, _, q, a, _, _, _) => am_ewx own q (if a = 0 then Lib.Math.max.name else Lib.Math.min.name)
  | (11, _, _, q, a, _, _, _) => am_ew11 own q a
  | _ => []
def am_ewA (own : String) (p : List (List am_E)) : List Cond := p.flatMap fun c => c.flatMap (am_ewE own)
theorem am_getD_mem {α : Type} (l : List α) (k : Nat) (d : α) : l.getD k d ∈ l ∨ l.getD k d = d := by
  rw [List.getD_eq_getElem?_getD]
  cases h : l[k]? with
  | none => exact Or.inr rfl
  | some v => exact Or.inl (List.mem_of_getElem? h)
theorem am_ewA_in {own : String} {y i : Nat} {w : Cond} (h : w ∈ am_ewE own (am_at y i)) : w ∈ am_ewA own (am_prog y) := by
  unfold am_at at h
  unfold am_ewA
  have hE0 : am_ewE own am_E0 = [] := rfl
  rcases am_getD_mem (am_prog y) (i / 16) [] with h1 | h1
  · rcases am_getD_mem ((am_prog y).getD (i / 16) []) (i % 16) am_E0 with h2 | h2
    · exact List.mem_flatMap.mpr ⟨_, h1, List.mem_flatMap.mpr ⟨_, h2, h⟩⟩
    · rw [h2, hE0] at h; cases h
  · rw [h1] at h
    have h : w ∈ am_ewE own am_E0 := h
    rw [hE0] at h; cases h
/-! what numbers say -/
def am_bb (y pc : Nat) (q : Instr) (n : Nat) : Bool := decide (decode (am_bc y) pc = .ok (q, n))
def am_kb (q : Instr) (a : Int) : Bool := match q with
  | .iconst n => decide (-128 ≤ n) && decide (n < 128)
  | .bipush n => decide (-128 ≤ n) && decide (n < 128)
  | .sipush n => decide (-32768 ≤ n) && decide (n < 32768)
  | .ldc _ => decide (-2147483648 ≤ a) && decide (a < 2147483648)
  | .ldc_w _ => decide (-2147483648 ≤ a) && decide (a < 2147483648)
  | .ldc2_w _ => decide (-9223372036854775808 ≤ a) && decide (a < 9223372036854775808)
  | _ => true
theorem am_kb_ok {own : String} {q : Instr} {a : Int} (hw : ∀ w ∈ am_ew0 own q a, w ∈ am_G) (hb : am_kb q a = true) : am_kOk own q a := by
  cases q
  case iconst n =>
    have hb : (decide (-128 ≤ n) && decide (n < 128)) = true := hb
    simp only [Bool.and_eq_true, decide_eq_true_eq] at hb
    exact hb
  case bipush n =>
    have hb : (decide (-128 ≤ n) && decide (n < 128)) = true := hb
    simp only [Bool.and_eq_true, decide_eq_true_eq] at hb
    exact hb
  case sipush n =>
    have hb : (decide (-32768 ≤ n) && decide (n < 32768)) = true := hb
    simp only [Bool.and_eq_true, decide_eq_true_eq] at hb
    exact hb
  case ldc k =>
    have hb : (decide (-2147483648 ≤ a) && decide (a < 2147483648)) = true := hb
    simp only [Bool.and_eq_true, decide_eq_true_eq] at hb
    exact ⟨hw _ List.mem_cons_self, hb⟩
  case ldc_w k =>
    have hb : (decide (-2147483648 ≤ a) && decide (a < 2147483648)) = true := hb
    simp only [Bool.and_eq_true, decide_eq_true_eq] at hb
    exact ⟨hw _ List.mem_cons_self, hb⟩
  case ldc2_w k =>
    have hb : (decide (-9223372036854775808 ≤ a) && decide (a < 9223372036854775808)) = true := hb
    simp only [Bool.and_eq_true, decide_eq_true_eq] at hb
    exact ⟨hw _ List.mem_cons_self, hb⟩
  all_goals trivial
def am_jb (y pc len : Nat) (q : Instr) (h : Nat) (x : List Nat) (i : Nat) : Bool := match q with
  | .goto off => decide (len = 3) && decide ((pc : Int) + off = am_pc y h)
  | .ifCond _ off => decide (len = 3) && (decide ((pc : Int) + off = am_pc y h) && decide (am_pc y i = pc + 3))
  | .if_icmp _ off => decide (len = 3) && (decide ((pc : Int) + off = am_pc y h) && decide (am_pc y i = pc + 3))
  | .ifnull off => decide (len = 3) && (decide ((pc : Int) + off = am_pc y h) && decide (am_pc y i = pc + 3))
  | .ifnonnull off => decide (len = 3) && (decide ((pc : Int) + off = am_pc y h) && decide (am_pc y i = pc + 3))
  | .tableswitch d lo hi offs => decide ((pc : Int) + d = am_pc y h) && (decide (hi = lo + x.length - 1) && decide (offs.toList.map (fun o => (pc : Int) + o) = x.map (fun t => (am_pc y t : Int))))
  | .lookupswitch d ps => decide ((pc : Int) + d = am_pc y h) && ((ps.toList.zip (ps.toList.drop 1)).all (fun (a, next) => a.1 < next.1) && decide (ps.toList.map (fun q => (pc : Int) + q.2) = x.map (fun t => (am_pc y t : Int))))
  | _ => true
theorem am_jb_ok {y pc len : Nat} {q : Instr} {h : Nat} {x : List Nat} {i : Nat} (hb : am_jb y pc len q h x i = true) : am_jOk y pc len q h x i := by
  cases q
  case goto off =>
    have hb : (decide (len = 3) && decide ((pc : Int) + off = am_pc y h)) = true := hb
    simp only [Bool.and_eq_true, decide_eq_true_eq] at hb
    exact hb
  case ifCond cd off =>
    have hb : (decide (len = 3) && (decide ((pc : Int) + off = am_pc y h) && decide (am_pc y i = pc + 3))) = true := hb
    simp only [Bool.and_eq_true, decide_eq_true_eq] at hb
    exact hb
  case if_icmp cd off =>
    have hb : (decide (len = 3) && (decide ((pc : Int) + off = am_pc y h) && decide (am_pc y i = pc + 3))) = true := hb
    simp only [Bool.and_eq_true, decide_eq_true_eq] at hb
    exact hb
  case ifnull off =>
    have hb : (decide (len = 3) && (decide ((pc : Int) + off = am_pc y h) && decide (am_pc y i = pc + 3))) = true := hb
    simp only [Bool.and_eq_true, decide_eq_true_eq] at hb
    exact hb
  case ifnonnull off =>
    have hb : (decide (len = 3) && (decide ((pc : Int) + off = am_pc y h) && decide (am_pc y i = pc + 3))) = true := hb
    simp only [Bool.and_eq_true, decide_eq_true_eq] at hb
    exact hb
  case tableswitch d lo hi offs =>
    have hb : (decide ((pc : Int) + d = am_pc y h) && (decide (hi = lo + x.length - 1) && decide (offs.toList.map (fun o => (pc : Int) + o) = x.map (fun t => (am_pc y t : Int))))) = true := hb
    simp only [Bool.and_eq_true, decide_eq_true_eq] at hb
    exact hb
  case lookupswitch d ps =>
    have hb : (decide ((pc : Int) + d = am_pc y h) && ((ps.toList.zip (ps.toList.drop 1)).all (fun (a, next) => a.1 < next.1) && decide (ps.toList.map (fun q => (pc : Int) + q.2) = x.map (fun t => (am_pc y t : Int))))) = true := hb
    simp only [Bool.and_eq_true, decide_eq_true_eq] at hb
    exact hb
  all_goals trivial
def am_fb (a b : Int) : Bool := decide (a.toNat < 12) && (decide (0 ≤ b) && decide (b.toNat < am_nf a.toNat))
def am_pb (y : Nat) (a b : Int) (x : List Nat) : Bool := match am_cl[a.toNat]? with
  | some (_, T, _) => !(T b.toNat).2.2.2 || (x.isEmpty && (decide (am_cx y = a.toNat) && (decide (am_sk y = 2) && decide (y < am_law))))
  | none => false
def am_hb (y : Nat) (q : Instr) (a b : Int) (x : List Nat) : Bool := match q with
  | .getfield _ => am_fb a b
  | .putfield _ => am_fb a b && am_pb y a b x
  | .new _ => decide (a.toNat < 12)
  | .newarray .int => decide (a = 20)
  | .newarray .long => decide (a = 21)
  | .newarray .char => decide (a = 22)
  | .newarray .byte => decide (a = 23)
  | .newarray _ => false
  | .anewarray _ => decide (a = 24) || decide (a = 25)
  | .multianewarray _ dims => decide (dims = 2)
  | _ => true
theorem am_fOk_of {own : String} {idx : Nat} {a b : Int} {x : List Nat} {fin : Bool} (hw : ∀ w ∈ am_fw own idx a b x, w ∈ am_G) (hb : am_fb a b = true) (hp : fin = true → ∀ T N, am_cl[a.toNat]? = some (am_cn a.toNat, T, N) → (T b.toNat).2.2.2 = true → x = [] ∧ am_cn a.toNat = own) : am_fOk own idx a b fin := by
  unfold am_fb at hb
  simp only [Bool.and_eq_true, decide_eq_true_eq] at hb
  obtain ⟨h1, h2, h3⟩ := hb
  obtain ⟨T, N, c1, c2, c3, -, -⟩ := am_clf h1
  refine ⟨am_cn a.toNat, T, N, c1, by omega, by omega, ?_, fun hf ht => ?_⟩
  · unfold am_fw at hw
    rw [c1] at hw
    match x, hw, hp with
    | [], hw, hp => exact Or.inl (hw _ List.mem_cons_self)
    | k :: x, hw, hp =>
      cases fin with
      | false => exact Or.inr (Or.inr ⟨rfl, _, hw _ List.mem_cons_self⟩)
      | true =>
        cases ht : (T b.toNat).2.2.2 with
        | false => exact Or.inr (Or.inl ⟨rfl, _, hw _ List.mem_cons_self⟩)
        | true => have := (hp rfl T N c1 ht).1; cases this
  · rw [c3]; exact (hp hf T N c1 ht).2
theorem am_hb_ok {y : Nat} {q : Instr} {a b : Int} {x : List Nat} (hy : y < am_law → am_cP y) (hw : ∀ w ∈ am_ew2 (am_nm y).cls q a b x, w ∈ am_G) (hb : am_hb y q a b x = true) : am_h2Ok y q a b := by
  obtain ⟨g1, g2, g3, g4, g5, g6, g7⟩ := am_garr
  cases q
  case getfield idx => exact am_fOk_of hw hb (fun h => by cases h)
  case putfield idx =>
    have hb : (am_fb a b && am_pb y a b x) = true := hb
    rw [Bool.and_eq_true] at hb
    have key : ∀ C T N, am_cl[a.toNat]? = some (C, T, N) → (T b.toNat).2.2.2 = true → x = [] ∧ am_cx y = a.toNat ∧ am_sk y = 2 ∧ y < am_law := fun C T N hcl hfin => by
      have h2 := hb.2
      unfold am_pb at h2
      rw [hcl] at h2
      simp only [hfin, Bool.not_true, Bool.false_or, Bool.and_eq_true, decide_eq_true_eq, List.isEmpty_iff] at h2
      exact h2
    refine ⟨am_fOk_of hw hb.1 fun _ T N hcl hfin => ?_, fun C T N hcl hfin => ?_⟩
    · obtain ⟨k1, k2, k3, k4⟩ := key _ T N hcl hfin
      exact ⟨k1, by rw [(hy k4).2.1, k2]⟩
    · obtain ⟨k1, k2, k3, k4⟩ := key _ T N hcl hfin
      have := (hy k4).2.2.2
      unfold am_sP at this
      rw [k3] at this
      exact ⟨this.2, k4⟩
  case new idx =>
    have hb : decide (a.toNat < 12) = true := hb
    obtain ⟨T, N, c1, c2, c3, c4, c5⟩ := am_clf (of_decide_eq_true hb)
    exact ⟨am_cn a.toNat, T, N, c1, hw _ List.mem_cons_self, c4, c5⟩
  case newarray t =>
    cases t
    case int => exact ⟨Or.inl ⟨rfl, of_decide_eq_true hb⟩, g1⟩
    case long => exact ⟨Or.inr (Or.inl ⟨rfl, of_decide_eq_true hb⟩), g2⟩
    case char => exact ⟨Or.inr (Or.inr (Or.inl ⟨rfl, of_decide_eq_true hb⟩)), g3⟩
    case byte => exact ⟨Or.inr (Or.inr (Or.inr ⟨rfl, of_decide_eq_true hb⟩)), g4⟩
    all_goals (exact absurd hb (by intro z; cases z))
  case anewarray idx =>
    have hb : (decide (a = 24) || decide (a = 25)) = true := hb
    simp only [Bool.or_eq_true, decide_eq_true_eq] at hb
    have hw : ∀ w ∈ (if a = 24 then [Cond.classLink (am_nm y).cls idx RX8] else [Cond.classLink (am_nm y).cls idx RX3]), w ∈ am_G := hw
    rcases hb with hb | hb
    · rw [if_pos hb] at hw; exact Or.inl ⟨hb, hw _ List.mem_cons_self, g5⟩
    · rw [if_neg (by omega)] at hw; exact Or.inr ⟨hb, hw _ List.mem_cons_self, g6⟩
  case multianewarray idx dims => exact ⟨of_decide_eq_true hb, hw _ List.mem_cons_self, g7, g1⟩
  all_goals trivial
def am_cb (q : Instr) (z n : Nat) : Bool := match q with
  | .invokevirtual _ => decide (am_sk z = 0) && decide (am_nn z + 1 = n)
  | .invokestatic _ => decide (am_sk z = 1) && decide (am_nn z = n)
  | .invokespecial _ => decide (am_sk z = 2) && (decide (am_nn z + 1 = n) && (decide (am_rt z = none) && decide (am_own z < 12)))
  | _ => false
theorem am_cb_ok {own : String} {q : Instr} {z n : Nat} {x : List Nat} (hz : z < am_law) (hw : ∀ w ∈ am_ew3 own q z x, w ∈ am_G) (hb : am_cb q z n = true) : am_cOk own q z n := by
  obtain ⟨-, c2, c3, c4⟩ := am_cms z hz
  have hzb := am_zbs z hz
  unfold am_zb at hzb
  simp only [Bool.and_eq_true, Bool.or_eq_true, decide_eq_true_eq] at hzb
  obtain ⟨-, -, -, -, h5⟩ := hzb
  unfold am_sP at c4
  cases q
  case invokevirtual idx =>
    have hb : (decide (am_sk z = 0) && decide (am_nn z + 1 = n)) = true := hb
    simp only [Bool.and_eq_true, decide_eq_true_eq] at hb
    obtain ⟨b1, b2⟩ := hb
    rw [b1] at c4
    refine ⟨hw _ List.mem_cons_self, c4.1, c4.2, by omega, by rw [c3]; congr 1; omega, ?_⟩
    rcases h5 with h5 | ⟨h5, h6⟩ | ⟨h5, h6⟩
    · omega
    · refine Or.inl ⟨h5, ?_⟩
      rw [c2, h6]; rfl
    · refine Or.inr ⟨by omega, ?_⟩
      obtain ⟨T, N, k1, -⟩ := am_clf h5
      rw [c2, h6]
      exact ⟨T, N, k1⟩
  case invokestatic idx =>
    have hb : (decide (am_sk z = 1) && decide (am_nn z = n)) = true := hb
    simp only [Bool.and_eq_true, decide_eq_true_eq] at hb
    obtain ⟨b1, b2⟩ := hb
    rw [b1] at c4
    exact ⟨hw _ List.mem_cons_self, c4, by rw [c3, b2]⟩
  case invokespecial idx =>
    have hb : (decide (am_sk z = 2) && (decide (am_nn z + 1 = n) && (decide (am_rt z = none) && decide (am_own z < 12)))) = true := hb
    simp only [Bool.and_eq_true, decide_eq_true_eq] at hb
    obtain ⟨b1, b2, b3, b4⟩ := hb
    rw [b1] at c4
    refine ⟨?_, c4.2, c4.1, by omega, by rw [c3]; congr 1; omega, b3, by omega, b4⟩
    match x, hw with
    | [], hw => exact Or.inl (hw _ List.mem_cons_self)
    | k :: x, hw => exact Or.inr ⟨_, hw _ List.mem_cons_self⟩
  all_goals (exact absurd hb (by intro z; cases z))
def am_rb (q : Instr) (a : Int) : Bool := match q with
  | .getfield _ => decide (a = 0) || decide (a = 1)
  | .getstatic _ => decide (a = 0) || decide (a = 1)
  | _ => true
theorem am_rb_ok {own : String} {q : Instr} {a : Int} (hw : ∀ w ∈ am_ew11 own q a, w ∈ am_G) (hb : am_rb q a = true) : am_rOk own q a := by
  cases q
  case getfield idx =>
    have hb : (decide (a = 0) || decide (a = 1)) = true := hb
    simp only [Bool.or_eq_true, decide_eq_true_eq] at hb
    have hw : ∀ w ∈ (if a = 0 then [Cond.fieldLink own idx "java/lang/String" "value" "[B"] else [Cond.fieldLink own idx "java/lang/String" "coder" "B"]), w ∈ am_G := hw
    rcases hb with hb | hb
    · rw [if_pos hb] at hw; exact Or.inl ⟨hb, hw _ List.mem_cons_self⟩
    · rw [if_neg (by omega)] at hw; exact Or.inr ⟨hb, hw _ List.mem_cons_self⟩
  case getstatic idx =>
    have hb : (decide (a = 0) || decide (a = 1)) = true := hb
    simp only [Bool.or_eq_true, decide_eq_true_eq] at hb
    have hw : ∀ w ∈ (if a = 0 then [Cond.fieldLink own idx "java/lang/String" "COMPACT_STRINGS" "Z"] else [Cond.fieldLink own idx "jdk/internal/util/Preconditions" "SIOOBE_FORMATTER" "Ljava/util/function/BiFunction;"]), w ∈ am_G := hw
    rcases hb with hb | hb
    · rw [if_pos hb] at hw; exact Or.inl ⟨hb, hw _ List.mem_cons_self⟩
    · rw [if_neg (by omega)] at hw; exact Or.inr ⟨hb, hw _ List.mem_cons_self⟩
  all_goals trivial
def am_ix (q : Instr) : Nat := match q with
  | .ldc i => i
  | .invokespecial i => i
  | .invokestatic i => i
  | _ => 0
def am_eb (y i : Nat) : Bool := match am_at y i with
  | (0, pc, _, q, a, _, _, _) => am_bb y pc q (am_len q) && (decide (am_pc y (i + 1) = pc + am_len q) && am_kb q a)
  | (1, pc, n, q, _, _, h, x) => am_bb y pc q n && am_jb y pc n q h x (i + 1)
  | (2, pc, _, q, a, b, _, x) => am_bb y pc q (am_len q) && (decide (am_pc y (i + 1) = pc + am_len q) && am_hb y q a b x)
  | (3, pc, _, q, z, n, _, _) => am_bb y pc q 3 && (decide (am_pc y (i + 1) = pc + 3) && (decide (z.toNat < am_law) && am_cb q z.toNat n.toNat))
  | (4, pc, _, q, _, _, _, _) => am_bb y pc q 1
  | (5, pc, _, _, _, _, _, _) => decide (am_pc y (i + 1) = pc)
  | (6, pc, _, q, _, _, _, _) => decide (y = am_law) && (am_bb y pc q 1 && decide (am_pc y (i + 1) = pc + 1))
  | (7, pc, _, q, a, _, _, _) => decide (q = .ldc (am_ix q)) && (am_bb y pc q 2 && (decide (am_pc y (i + 1) = pc + 2) && ((decide (y < am_law) && decide (am_cx y = 6)) && (decide (a = 0 ∧ am_ix q = 86 ∨ a = 1 ∧ am_ix q = 94)))))
  | (8, pc, _, q, _, _, _, _) => decide (q = .invokespecial (am_ix q)) && (am_bb y pc q 3 && decide (am_pc y (i + 1) = pc + 3))
  | (9, pc, _, q, _, _, _, _) => decide (q = .invokestatic (am_ix q)) && (am_bb y pc q 3 && decide (am_pc y (i + 1) = pc + 3))
  | (10, pc, _, q, a, _, _, _) => decide (q = .invokestatic (am_ix q)) && (am_bb y pc q 3 && (decide (am_pc y (i + 1) = pc + 3) && (decide (a = 0) || decide (a = 1))))
  | (11, pc, _, q, a, _, _, _) => am_bb y pc q (am_len q) && (decide (am_pc y (i + 1) = pc + am_len q) && am_rb q a)
  | _ => true
set_option maxHeartbeats 1000000 in
theorem am_e_ok {y i : Nat} (hy : y < am_law → am_cP y) (hw : ∀ w ∈ am_ewE (am_nm y).cls (am_at y i), w ∈ am_G) (hb : am_eb y i = true) : am_eOk y i := by
  unfold am_eb at hb
  unfold am_eOk
  generalize am_at y i = e at hw hb ⊢
  obtain ⟨k, pc, n, q, a, b, h, x⟩ := e
  match k, hw, hb with
  | 0, hw, hb =>
    have hb : (am_bb y pc q (am_len q) && (decide (am_pc y (i + 1) = pc + am_len q) && am_kb q a)) = true := hb
    unfold am_bb at hb
    simp only [Bool.and_eq_true, decide_eq_true_eq] at hb
    exact ⟨hb.1, hb.2.1, am_kb_ok hw hb.2.2⟩
  | 1, hw, hb =>
    have hb : (am_bb y pc q n && am_jb y pc n q h x (i + 1)) = true := hb
    unfold am_bb at hb
    simp only [Bool.and_eq_true, decide_eq_true_eq] at hb
    exact ⟨hb.1, am_jb_ok hb.2⟩
  | 2, hw, hb =>
    have hb : (am_bb y pc q (am_len q) && (decide (am_pc y (i + 1) = pc + am_len q) && am_hb y q a b x)) = true := hb
    unfold am_bb at hb
    simp only [Bool.and_eq_true, decide_eq_true_eq] at hb
    exact ⟨hb.1, hb.2.1, am_hb_ok hy hw hb.2.2⟩
  | 3, hw, hb =>
    have hb : (am_bb y pc q 3 && (decide (am_pc y (i + 1) = pc + 3) && (decide (a.toNat < am_law) && am_cb q a.toNat b.toNat))) = true := hb
    unfold am_bb at hb
    simp only [Bool.and_eq_true, decide_eq_true_eq] at hb
    exact ⟨hb.1, hb.2.1, am_zok _ hb.2.2.1, am_cb_ok hb.2.2.1 hw hb.2.2.2⟩
  | 4, hw, hb =>
    have hb : am_bb y pc q 1 = true := hb
    unfold am_bb at hb
    have hb2 := of_decide_eq_true hb
    exact hb2
  | 5, hw, hb =>
    have hb : decide (am_pc y (i + 1) = pc) = true := hb
    have hb2 := of_decide_eq_true hb
    exact hb2
  | 6, hw, hb =>
    have hb : (decide (y = am_law) && (am_bb y pc q 1 && decide (am_pc y (i + 1) = pc + 1))) = true := hb
    unfold am_bb at hb
    simp only [Bool.and_eq_true, decide_eq_true_eq] at hb
    exact hb
  | 7, hw, hb =>
    have hb : (decide (q = .ldc (am_ix q)) && (am_bb y pc q 2 && (decide (am_pc y (i + 1) = pc + 2) && ((decide (y < am_law) && decide (am_cx y = 6)) && (decide (a = 0 ∧ am_ix q = 86 ∨ a = 1 ∧ am_ix q = 94)))))) = true := hb
    unfold am_bb at hb
    simp only [Bool.and_eq_true, decide_eq_true_eq] at hb
    refine ⟨am_ix q, hb.1, hb.2.1, hb.2.2.1, ?_, hb.2.2.2.2⟩
    rw [(hy hb.2.2.2.1.1).2.1, hb.2.2.2.1.2]; rfl
  | 8, hw, hb =>
    have hb : (decide (q = .invokespecial (am_ix q)) && (am_bb y pc q 3 && decide (am_pc y (i + 1) = pc + 3))) = true := hb
    unfold am_bb at hb
    simp only [Bool.and_eq_true, decide_eq_true_eq] at hb
    have hw : ∀ w ∈ am_ewx (am_nm y).cls q objectInit, w ∈ am_G := hw
    rw [hb.1] at hw
    exact ⟨am_ix q, hb.1, hb.2.1, hb.2.2, hw _ List.mem_cons_self, am_gobj.1, am_gobj.2⟩
  | 9, hw, hb =>
    have hb : (decide (q = .invokestatic (am_ix q)) && (am_bb y pc q 3 && decide (am_pc y (i + 1) = pc + 3))) = true := hb
    unfold am_bb at hb
    simp only [Bool.and_eq_true, decide_eq_true_eq] at hb
    have hw : ∀ w ∈ am_ewx (am_nm y).cls q arraycopyName, w ∈ am_G := hw
    rw [hb.1] at hw
    exact ⟨am_ix q, hb.1, hb.2.1, hb.2.2, hw _ List.mem_cons_self, am_gcpy.1, am_gcpy.2.1, am_gcpy.2.2⟩
  | 10, hw, hb =>
    have hb : (decide (q = .invokestatic (am_ix q)) && (am_bb y pc q 3 && (decide (am_pc y (i + 1) = pc + 3) && (decide (a = 0) || decide (a = 1))))) = true := hb
    unfold am_bb at hb
    simp only [Bool.and_eq_true, Bool.or_eq_true, decide_eq_true_eq] at hb
    have hw : ∀ w ∈ am_ewx (am_nm y).cls q (if a = 0 then Lib.Math.max.name else Lib.Math.min.name), w ∈ am_G := hw
    rw [hb.1] at hw
    have h1 := hw _ List.mem_cons_self
    refine ⟨am_ix q, hb.1, hb.2.1, hb.2.2.1, ?_⟩
    rcases hb.2.2.2 with h0 | h0
    · rw [if_pos h0] at h1; exact Or.inl ⟨h0, h1, am_gmax.1, am_gmax.2.1, am_gmax.2.2⟩
    · rw [if_neg (by omega)] at h1; exact Or.inr ⟨h0, h1, am_gmin.1, am_gmin.2.1, am_gmin.2.2⟩
  | 11, hw, hb =>
    have hb : (am_bb y pc q (am_len q) && (decide (am_pc y (i + 1) = pc + am_len q) && am_rb q a)) = true := hb
    unfold am_bb at hb
    simp only [Bool.and_eq_true, decide_eq_true_eq] at hb
    exact ⟨hb.1, hb.2.1, am_rb_ok hw hb.2.2⟩
  | n + 12, hw, hb => trivial
theorem am_eb_out {y i : Nat} (h : am_at y i = am_E0) : am_eb y i = true := by unfold am_eb; rw [h]; rfl
/-- how many rows stand: all chunks but the last are of 16 -/
def am_cnt (p : List (List am_E)) : Nat := match p with
  | [] => 0
  | [c] => if c.length ≤ 16 then c.length else 1000000
  | c :: p => if c.length = 16 then 16 + am_cnt p else 1000000
theorem am_cnt_out : ∀ (p : List (List am_E)) (i : Nat), am_cnt p ≤ i → i < 1000000 → (p.getD (i / 16) []).getD (i % 16) am_E0 = am_E0
  | [], i, _, _ => rfl
  | [c], i, h, h2 => by
    unfold am_cnt at h
    split at h
    · rename_i hc
      by_cases h0 : i / 16 = 0
      · rw [h0]
        show c.getD (i % 16) am_E0 = am_E0
        rw [List.getD_eq_getElem?_getD, List.getElem?_eq_none (by omega)]; rfl
      · rw [List.getD_eq_getElem?_getD (l := [c]), List.getElem?_eq_none (by simp; omega)]; rfl
    · omega
  | c :: c2 :: p, i, h, h2 => by
    unfold am_cnt at h
    split at h
    · rename_i hc
      by_cases h0 : i < 16
      · omega
      · have ih := am_cnt_out (c2 :: p) (i - 16) (by omega) (by omega)
        have e1 : i / 16 = (i - 16) / 16 + 1 := by omega
        have e2 : i % 16 = (i - 16) % 16 := by omega
        rw [e1, e2, List.getD_cons_succ]
        exact ih
    · omega
theorem am_len_out {y i n : Nat} (h : am_cnt (am_prog y) = n ∧ n < 1000000 ∧ (am_prog y).length < 62000) (hi : n ≤ i) : am_at y i = am_E0 := by
  unfold am_at
  by_cases h2 : i < 1000000
  · exact am_cnt_out _ i (by omega) h2
  · rw [List.getD_eq_getElem?_getD (l := am_prog y), List.getElem?_eq_none (by omega)]; rfl
