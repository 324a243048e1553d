/-! what the Statement gives of the start: the String constants, two statics -/
def am_fl : List Cond := [
  (Jvm.Cond.count (1 : Nat)),
  (Jvm.Cond.isRef (Jvm.Term.arg (0 : Nat))),
  (Jvm.Cond.arrayOf (Jvm.Term.arg (0 : Nat)) Jvm.ClassFile.FieldType.int),
  (Jvm.Cond.le (Jvm.Term.length (Jvm.Term.arg (0 : Nat))) (Jvm.Term.int (3072 : Int32))),
  (Jvm.Cond.eq (Jvm.Term.static "java/lang/String" "COMPACT_STRINGS" "Z") (Jvm.Term.int (1 : Int32))),
  (Jvm.Cond.isRef (Jvm.Term.static "jdk/internal/util/Preconditions" "SIOOBE_FORMATTER" "Ljava/util/function/BiFunction;")),
  (Jvm.Cond.eq (Jvm.Term.static "java/lang/StringUTF16" "$assertionsDisabled" "Z") (Jvm.Term.int (1 : Int32))),
  (Jvm.Cond.eq (Jvm.Term.static "java/lang/StringUTF16" "HI_BYTE_SHIFT" "I") (Jvm.Term.int (0 : Int32))),
  (Jvm.Cond.eq (Jvm.Term.static "java/lang/StringUTF16" "LO_BYTE_SHIFT" "I") (Jvm.Term.int (8 : Int32))),
  (Jvm.Cond.not (Jvm.Cond.castable "UnlearnedHand" "UnlearnedHand$Script")),
  (Jvm.Cond.not (Jvm.Cond.castable "UnlearnedHand$Guild" "UnlearnedHand$Script")),
  (Jvm.Cond.not (Jvm.Cond.castable "UnlearnedHand$Hands" "UnlearnedHand$Script")),
  (Jvm.Cond.not (Jvm.Cond.castable "UnlearnedHand$Laws" "UnlearnedHand$Script")),
  (Jvm.Cond.not (Jvm.Cond.castable "UnlearnedHand$Deeds" "UnlearnedHand$Script")),
  (Jvm.Cond.not (Jvm.Cond.castable "UnlearnedHand$Steps" "UnlearnedHand$Script")),
  (Jvm.Cond.not (Jvm.Cond.castable "UnlearnedHand$Reader" "UnlearnedHand$Script")),
  (Jvm.Cond.not (Jvm.Cond.castable "UnlearnedHand$Foresight" "UnlearnedHand$Script")),
  (Jvm.Cond.not (Jvm.Cond.castable "UnlearnedHand$Reckoning" "UnlearnedHand$Script")),
  (Jvm.Cond.not (Jvm.Cond.castable "UnlearnedHand$Orders" "UnlearnedHand$Script")),
  (Jvm.Cond.not (Jvm.Cond.castable "UnlearnedHandModel" "UnlearnedHand$Script")),
  (Jvm.Cond.not (Jvm.Cond.castable "java/lang/String" "UnlearnedHand$Script")),
  (Jvm.Cond.not (Jvm.Cond.castable "UnlearnedHand" "UnlearnedHand$Hands")),
  (Jvm.Cond.not (Jvm.Cond.castable "UnlearnedHand$Guild" "UnlearnedHand$Hands")),
  (Jvm.Cond.not (Jvm.Cond.castable "UnlearnedHand$Script" "UnlearnedHand$Hands")),
  (Jvm.Cond.not (Jvm.Cond.castable "UnlearnedHand$Laws" "UnlearnedHand$Hands")),
  (Jvm.Cond.not (Jvm.Cond.castable "UnlearnedHand$Deeds" "UnlearnedHand$Hands")),
  (Jvm.Cond.not (Jvm.Cond.castable "UnlearnedHand$Steps" "UnlearnedHand$Hands")),
  (Jvm.Cond.not (Jvm.Cond.castable "UnlearnedHand$Reader" "UnlearnedHand$Hands")),
  (Jvm.Cond.not (Jvm.Cond.castable "UnlearnedHand$Foresight" "UnlearnedHand$Hands")),
  (Jvm.Cond.not (Jvm.Cond.castable "UnlearnedHand$Reckoning" "UnlearnedHand$Hands")),
  (Jvm.Cond.not (Jvm.Cond.castable "UnlearnedHand$Orders" "UnlearnedHand$Hands")),
  (Jvm.Cond.not (Jvm.Cond.castable "UnlearnedHandModel" "UnlearnedHand$Hands")),
  (Jvm.Cond.not (Jvm.Cond.castable "java/lang/String" "UnlearnedHand$Hands")),
  (Jvm.Cond.exactly (Jvm.Term.string "UnlearnedHand$Reader" (94 : Nat)) "java/lang/String"),
  (Jvm.Cond.eq (Jvm.Term.field (Jvm.Term.string "UnlearnedHand$Reader" (94 : Nat)) "java/lang/String" "coder" "B") (Jvm.Term.int (0 : Int32))),
  (Jvm.Cond.arrayOf (Jvm.Term.field (Jvm.Term.string "UnlearnedHand$Reader" (94 : Nat)) "java/lang/String" "value" "[B") Jvm.ClassFile.FieldType.byte),
  (Jvm.Cond.eq (Jvm.Term.length (Jvm.Term.field (Jvm.Term.string "UnlearnedHand$Reader" (94 : Nat)) "java/lang/String" "value" "[B")) (Jvm.Term.int (143 : Int32))),
  (Jvm.Cond.eq (Jvm.Term.elem (Jvm.Term.field (Jvm.Term.string "UnlearnedHand$Reader" (94 : Nat)) "java/lang/String" "value" "[B") (Jvm.Term.int (0 : Int32))) (Jvm.Term.int (104 : Int32))),
  (Jvm.Cond.eq (Jvm.Term.elem (Jvm.Term.field (Jvm.Term.string "UnlearnedHand$Reader" (94 : Nat)) "java/lang/String" "value" "[B") (Jvm.Term.int (1 : Int32))) (Jvm.Term.int (97 : Int32))),
  (Jvm.Cond.eq (Jvm.Term.elem (Jvm.Term.field (Jvm.Term.string "UnlearnedHand$Reader" (94 : Nat)) "java/lang/String" "value" "[B") (Jvm.Term.int (2 : Int32))) (Jvm.Term.int (115 : Int32))),
  (Jvm.Cond.eq (Jvm.Term.elem (Jvm.Term.field (Jvm.Term.string "UnlearnedHand$Reader" (94 : Nat)) "java/lang/String" "value" "[B") (Jvm.Term.int (3 : Int32))) (Jvm.Term.int (32 : Int32))),
  (Jvm.Cond.eq (Jvm.Term.elem (Jvm.Term.field (Jvm.Term.string "UnlearnedHand$Reader" (94 : Nat)) "java/lang/String" "value" "[B") (Jvm.Term.int (4 : Int32))) (Jvm.Term.int (102 : Int32))),
  (Jvm.Cond.eq (Jvm.Term.elem (Jvm.Term.field (Jvm.Term.string "UnlearnedHand$Reader" (94 : Nat)) "java/lang/String" "value" "[B") (Jvm.Term.int (5 : Int32))) (Jvm.Term.int (97 : Int32))),
  (Jvm.Cond.eq (Jvm.Term.elem (Jvm.Term.field (Jvm.Term.string "UnlearnedHand$Reader" (94 : Nat)) "java/lang/String" "value" "[B") (Jvm.Term.int (6 : Int32))) (Jvm.Term.int (100 : Int32))),
  (Jvm.Cond.eq (Jvm.Term.elem (Jvm.Term.field (Jvm.Term.string "UnlearnedHand$Reader" (94 : Nat)) "java/lang/String" "value" "[B") (Jvm.Term.int (7 : Int32))) (Jvm.Term.int (101 : Int32))),
  (Jvm.Cond.eq (Jvm.Term.elem (Jvm.Term.field (Jvm.Term.string "UnlearnedHand$Reader" (94 : Nat)) "java/lang/String" "value" "[B") (Jvm.Term.int (8 : Int32))) (Jvm.Term.int (115 : Int32))),
  (Jvm.Cond.eq (Jvm.Term.elem (Jvm.Term.field (Jvm.Term.string "UnlearnedHand$Reader" (94 : Nat)) "java/lang/String" "value" "[B") (Jvm.Term.int (9 : Int32))) (Jvm.Term.int (32 : Int32))),
  (Jvm.Cond.eq (Jvm.Term.elem (Jvm.Term.field (Jvm.Term.string "UnlearnedHand$Reader" (94 : Nat)) "java/lang/String" "value" "[B") (Jvm.Term.int (10 : Int32))) (Jvm.Term.int (100 : Int32))),
  (Jvm.Cond.eq (Jvm.Term.elem (Jvm.Term.field (Jvm.Term.string "UnlearnedHand$Reader" (94 : Nat)) "java/lang/String" "value" "[B") (Jvm.Term.int (11 : Int32))) (Jvm.Term.int (114 : Int32))),
  (Jvm.Cond.eq (Jvm.Term.elem (Jvm.Term.field (Jvm.Term.string "UnlearnedHand$Reader" (94 : Nat)) "java/lang/String" "value" "[B") (Jvm.Term.int (12 : Int32))) (Jvm.Term.int (111 : Int32))),
  (Jvm.Cond.eq (Jvm.Term.elem (Jvm.Term.field (Jvm.Term.string "UnlearnedHand$Reader" (94 : Nat)) "java/lang/String" "value" "[B") (Jvm.Term.int (13 : Int32))) (Jvm.Term.int (112 : Int32))),
  (Jvm.Cond.eq (Jvm.Term.elem (Jvm.Term.field (Jvm.Term.string "UnlearnedHand$Reader" (94 : Nat)) "java/lang/String" "value" "[B") (Jvm.Term.int (14 : Int32))) (Jvm.Term.int (115 : Int32))),
  (Jvm.Cond.eq (Jvm.Term.elem (Jvm.Term.field (Jvm.Term.string "UnlearnedHand$Reader" (94 : Nat)) "java/lang/String" "value" "[B") (Jvm.Term.int (15 : Int32))) (Jvm.Term.int (32 : Int32))),
  (Jvm.Cond.eq (Jvm.Term.elem (Jvm.Term.field (Jvm.Term.string "UnlearnedHand$Reader" (94 : Nat)) "java/lang/String" "value" "[B") (Jvm.Term.int (16 : Int32))) (Jvm.Term.int (112 : Int32))),
  (Jvm.Cond.eq (Jvm.Term.elem (Jvm.Term.field (Jvm.Term.string "UnlearnedHand$Reader" (94 : Nat)) "java/lang/String" "value" "[B") (Jvm.Term.int (17 : Int32))) (Jvm.Term.int (117 : Int32))),
  (Jvm.Cond.eq (Jvm.Term.elem (Jvm.Term.field (Jvm.Term.string "UnlearnedHand$Reader" (94 : Nat)) "java/lang/String" "value" "[B") (Jvm.Term.int (18 : Int32))) (Jvm.Term.int (115 : Int32))),
  (Jvm.Cond.eq (Jvm.Term.elem (Jvm.Term.field (Jvm.Term.string "UnlearnedHand$Reader" (94 : Nat)) "java/lang/String" "value" "[B") (Jvm.Term.int (19 : Int32))) (Jvm.Term.int (104 : Int32))),
  (Jvm.Cond.eq (Jvm.Term.elem (Jvm.Term.field (Jvm.Term.string "UnlearnedHand$Reader" (94 : Nat)) "java/lang/String" "value" "[B") (Jvm.Term.int (20 : Int32))) (Jvm.Term.int (101 : Int32))),
  (Jvm.Cond.eq (Jvm.Term.elem (Jvm.Term.field (Jvm.Term.string "UnlearnedHand$Reader" (94 : Nat)) "java/lang/String" "value" "[B") (Jvm.Term.int (21 : Int32))) (Jvm.Term.int (115 : Int32))),
  (Jvm.Cond.eq (Jvm.Term.elem (Jvm.Term.field (Jvm.Term.string "UnlearnedHand$Reader" (94 : Nat)) "java/lang/String" "value" "[B") (Jvm.Term.int (22 : Int32))) (Jvm.Term.int (32 : Int32))),
  (Jvm.Cond.eq (Jvm.Term.elem (Jvm.Term.field (Jvm.Term.string "UnlearnedHand$Reader" (94 : Nat)) "java/lang/String" "value" "[B") (Jvm.Term.int (23 : Int32))) (Jvm.Term.int (116 : Int32))),
  (Jvm.Cond.eq (Jvm.Term.elem (Jvm.Term.field (Jvm.Term.string "UnlearnedHand$Reader" (94 : Nat)) "java/lang/String" "value" "[B") (Jvm.Term.int (24 : Int32))) (Jvm.Term.int (101 : Int32))),
  (Jvm.Cond.eq (Jvm.Term.elem (Jvm.Term.field (Jvm.Term.string "UnlearnedHand$Reader" (94 : Nat)) "java/lang/String" "value" "[B") (Jvm.Term.int (25 : Int32))) (Jvm.Term.int (97 : Int32))),
  (Jvm.Cond.eq (Jvm.Term.elem (Jvm.Term.field (Jvm.Term.string "UnlearnedHand$Reader" (94 : Nat)) "java/lang/String" "value" "[B") (Jvm.Term.int (26 : Int32))) (Jvm.Term.int (99 : Int32))),
  (Jvm.Cond.eq (Jvm.Term.elem (Jvm.Term.field (Jvm.Term.string "UnlearnedHand$Reader" (94 : Nat)) "java/lang/String" "value" "[B") (Jvm.Term.int (27 : Int32))) (Jvm.Term.int (104 : Int32))),
  (Jvm.Cond.eq (Jvm.Term.elem (Jvm.Term.field (Jvm.Term.string "UnlearnedHand$Reader" (94 : Nat)) "java/lang/String" "value" "[B") (Jvm.Term.int (28 : Int32))) (Jvm.Term.int (32 : Int32))),
  (Jvm.Cond.eq (Jvm.Term.elem (Jvm.Term.field (Jvm.Term.string "UnlearnedHand$Reader" (94 : Nat)) "java/lang/String" "value" "[B") (Jvm.Term.int (29 : Int32))) (Jvm.Term.int (109 : Int32))),
  (Jvm.Cond.eq (Jvm.Term.elem (Jvm.Term.field (Jvm.Term.string "UnlearnedHand$Reader" (94 : Nat)) "java/lang/String" "value" "[B") (Jvm.Term.int (30 : Int32))) (Jvm.Term.int (105 : Int32))),
  (Jvm.Cond.eq (Jvm.Term.elem (Jvm.Term.field (Jvm.Term.string "UnlearnedHand$Reader" (94 : Nat)) "java/lang/String" "value" "[B") (Jvm.Term.int (31 : Int32))) (Jvm.Term.int (115 : Int32))),
  (Jvm.Cond.eq (Jvm.Term.elem (Jvm.Term.field (Jvm.Term.string "UnlearnedHand$Reader" (94 : Nat)) "java/lang/String" "value" "[B") (Jvm.Term.int (32 : Int32))) (Jvm.Term.int (108 : Int32))),
  (Jvm.Cond.eq (Jvm.Term.elem (Jvm.Term.field (Jvm.Term.string "UnlearnedHand$Reader" (94 : Nat)) "java/lang/String" "value" "[B") (Jvm.Term.int (33 : Int32))) (Jvm.Term.int (101 : Int32))),
  (Jvm.Cond.eq (Jvm.Term.elem (Jvm.Term.field (Jvm.Term.string "UnlearnedHand$Reader" (94 : Nat)) "java/lang/String" "value" "[B") (Jvm.Term.int (34 : Int32))) (Jvm.Term.int (97 : Int32))),
  (Jvm.Cond.eq (Jvm.Term.elem (Jvm.Term.field (Jvm.Term.string "UnlearnedHand$Reader" (94 : Nat)) "java/lang/String" "value" "[B") (Jvm.Term.int (35 : Int32))) (Jvm.Term.int (100 : Int32))),
  (Jvm.Cond.eq (Jvm.Term.elem (Jvm.Term.field (Jvm.Term.string "UnlearnedHand$Reader" (94 : Nat)) "java/lang/String" "value" "[B") (Jvm.Term.int (36 : Int32))) (Jvm.Term.int (32 : Int32))),
  (Jvm.Cond.eq (Jvm.Term.elem (Jvm.Term.field (Jvm.Term.string "UnlearnedHand$Reader" (94 : Nat)) "java/lang/String" "value" "[B") (Jvm.Term.int (37 : Int32))) (Jvm.Term.int (100 : Int32))),
  (Jvm.Cond.eq (Jvm.Term.elem (Jvm.Term.field (Jvm.Term.string "UnlearnedHand$Reader" (94 : Nat)) "java/lang/String" "value" "[B") (Jvm.Term.int (38 : Int32))) (Jvm.Term.int (114 : Int32))),
  (Jvm.Cond.eq (Jvm.Term.elem (Jvm.Term.field (Jvm.Term.string "UnlearnedHand$Reader" (94 : Nat)) "java/lang/String" "value" "[B") (Jvm.Term.int (39 : Int32))) (Jvm.Term.int (105 : Int32))),
  (Jvm.Cond.eq (Jvm.Term.elem (Jvm.Term.field (Jvm.Term.string "UnlearnedHand$Reader" (94 : Nat)) "java/lang/String" "value" "[B") (Jvm.Term.int (40 : Int32))) (Jvm.Term.int (110 : Int32))),
  (Jvm.Cond.eq (Jvm.Term.elem (Jvm.Term.field (Jvm.Term.string "UnlearnedHand$Reader" (94 : Nat)) "java/lang/String" "value" "[B") (Jvm.Term.int (41 : Int32))) (Jvm.Term.int (107 : Int32))),
  (Jvm.Cond.eq (Jvm.Term.elem (Jvm.Term.field (Jvm.Term.string "UnlearnedHand$Reader" (94 : Nat)) "java/lang/String" "value" "[B") (Jvm.Term.int (42 : Int32))) (Jvm.Term.int (32 : Int32))),
  (Jvm.Cond.eq (Jvm.Term.elem (Jvm.Term.field (Jvm.Term.string "UnlearnedHand$Reader" (94 : Nat)) "java/lang/String" "value" "[B") (Jvm.Term.int (43 : Int32))) (Jvm.Term.int (115 : Int32))),
  (Jvm.Cond.eq (Jvm.Term.elem (Jvm.Term.field (Jvm.Term.string "UnlearnedHand$Reader" (94 : Nat)) "java/lang/String" "value" "[B") (Jvm.Term.int (44 : Int32))) (Jvm.Term.int (105 : Int32))),
  (Jvm.Cond.eq (Jvm.Term.elem (Jvm.Term.field (Jvm.Term.string "UnlearnedHand$Reader" (94 : Nat)) "java/lang/String" "value" "[B") (Jvm.Term.int (45 : Int32))) (Jvm.Term.int (110 : Int32))),
  (Jvm.Cond.eq (Jvm.Term.elem (Jvm.Term.field (Jvm.Term.string "UnlearnedHand$Reader" (94 : Nat)) "java/lang/String" "value" "[B") (Jvm.Term.int (46 : Int32))) (Jvm.Term.int (103 : Int32))),
  (Jvm.Cond.eq (Jvm.Term.elem (Jvm.Term.field (Jvm.Term.string "UnlearnedHand$Reader" (94 : Nat)) "java/lang/String" "value" "[B") (Jvm.Term.int (47 : Int32))) (Jvm.Term.int (32 : Int32))),
  (Jvm.Cond.eq (Jvm.Term.elem (Jvm.Term.field (Jvm.Term.string "UnlearnedHand$Reader" (94 : Nat)) "java/lang/String" "value" "[B") (Jvm.Term.int (48 : Int32))) (Jvm.Term.int (116 : Int32))),
  (Jvm.Cond.eq (Jvm.Term.elem (Jvm.Term.field (Jvm.Term.string "UnlearnedHand$Reader" (94 : Nat)) "java/lang/String" "value" "[B") (Jvm.Term.int (49 : Int32))) (Jvm.Term.int (105 : Int32))),
  (Jvm.Cond.eq (Jvm.Term.elem (Jvm.Term.field (Jvm.Term.string "UnlearnedHand$Reader" (94 : Nat)) "java/lang/String" "value" "[B") (Jvm.Term.int (50 : Int32))) (Jvm.Term.int (101 : Int32))),
  (Jvm.Cond.eq (Jvm.Term.elem (Jvm.Term.field (Jvm.Term.string "UnlearnedHand$Reader" (94 : Nat)) "java/lang/String" "value" "[B") (Jvm.Term.int (51 : Int32))) (Jvm.Term.int (32 : Int32))),
  (Jvm.Cond.eq (Jvm.Term.elem (Jvm.Term.field (Jvm.Term.string "UnlearnedHand$Reader" (94 : Nat)) "java/lang/String" "value" "[B") (Jvm.Term.int (52 : Int32))) (Jvm.Term.int (115 : Int32))),
  (Jvm.Cond.eq (Jvm.Term.elem (Jvm.Term.field (Jvm.Term.string "UnlearnedHand$Reader" (94 : Nat)) "java/lang/String" "value" "[B") (Jvm.Term.int (53 : Int32))) (Jvm.Term.int (109 : Int32))),
  (Jvm.Cond.eq (Jvm.Term.elem (Jvm.Term.field (Jvm.Term.string "UnlearnedHand$Reader" (94 : Nat)) "java/lang/String" "value" "[B") (Jvm.Term.int (54 : Int32))) (Jvm.Term.int (101 : Int32))),
  (Jvm.Cond.eq (Jvm.Term.elem (Jvm.Term.field (Jvm.Term.string "UnlearnedHand$Reader" (94 : Nat)) "java/lang/String" "value" "[B") (Jvm.Term.int (55 : Int32))) (Jvm.Term.int (108 : Int32))),
  (Jvm.Cond.eq (Jvm.Term.elem (Jvm.Term.field (Jvm.Term.string "UnlearnedHand$Reader" (94 : Nat)) "java/lang/String" "value" "[B") (Jvm.Term.int (56 : Int32))) (Jvm.Term.int (108 : Int32))),
  (Jvm.Cond.eq (Jvm.Term.elem (Jvm.Term.field (Jvm.Term.string "UnlearnedHand$Reader" (94 : Nat)) "java/lang/String" "value" "[B") (Jvm.Term.int (57 : Int32))) (Jvm.Term.int (32 : Int32))),
  (Jvm.Cond.eq (Jvm.Term.elem (Jvm.Term.field (Jvm.Term.string "UnlearnedHand$Reader" (94 : Nat)) "java/lang/String" "value" "[B") (Jvm.Term.int (58 : Int32))) (Jvm.Term.int (116 : Int32))),
  (Jvm.Cond.eq (Jvm.Term.elem (Jvm.Term.field (Jvm.Term.string "UnlearnedHand$Reader" (94 : Nat)) "java/lang/String" "value" "[B") (Jvm.Term.int (59 : Int32))) (Jvm.Term.int (114 : Int32))),
  (Jvm.Cond.eq (Jvm.Term.elem (Jvm.Term.field (Jvm.Term.string "UnlearnedHand$Reader" (94 : Nat)) "java/lang/String" "value" "[B") (Jvm.Term.int (60 : Int32))) (Jvm.Term.int (121 : Int32))),
  (Jvm.Cond.eq (Jvm.Term.elem (Jvm.Term.field (Jvm.Term.string "UnlearnedHand$Reader" (94 : Nat)) "java/lang/String" "value" "[B") (Jvm.Term.int (61 : Int32))) (Jvm.Term.int (32 : Int32))),
  (Jvm.Cond.eq (Jvm.Term.elem (Jvm.Term.field (Jvm.Term.string "UnlearnedHand$Reader" (94 : Nat)) "java/lang/String" "value" "[B") (Jvm.Term.int (62 : Int32))) (Jvm.Term.int (110 : Int32))),
  (Jvm.Cond.eq (Jvm.Term.elem (Jvm.Term.field (Jvm.Term.string "UnlearnedHand$Reader" (94 : Nat)) "java/lang/String" "value" "[B") (Jvm.Term.int (63 : Int32))) (Jvm.Term.int (105 : Int32))),
  (Jvm.Cond.eq (Jvm.Term.elem (Jvm.Term.field (Jvm.Term.string "UnlearnedHand$Reader" (94 : Nat)) "java/lang/String" "value" "[B") (Jvm.Term.int (64 : Int32))) (Jvm.Term.int (103 : Int32))),
  (Jvm.Cond.eq (Jvm.Term.elem (Jvm.Term.field (Jvm.Term.string "UnlearnedHand$Reader" (94 : Nat)) "java/lang/String" "value" "[B") (Jvm.Term.int (65 : Int32))) (Jvm.Term.int (104 : Int32))),
  (Jvm.Cond.eq (Jvm.Term.elem (Jvm.Term.field (Jvm.Term.string "UnlearnedHand$Reader" (94 : Nat)) "java/lang/String" "value" "[B") (Jvm.Term.int (66 : Int32))) (Jvm.Term.int (116 : Int32))),
  (Jvm.Cond.eq (Jvm.Term.elem (Jvm.Term.field (Jvm.Term.string "UnlearnedHand$Reader" (94 : Nat)) "java/lang/String" "value" "[B") (Jvm.Term.int (67 : Int32))) (Jvm.Term.int (32 : Int32))),
  (Jvm.Cond.eq (Jvm.Term.elem (Jvm.Term.field (Jvm.Term.string "UnlearnedHand$Reader" (94 : Nat)) "java/lang/String" "value" "[B") (Jvm.Term.int (68 : Int32))) (Jvm.Term.int (116 : Int32))),
  (Jvm.Cond.eq (Jvm.Term.elem (Jvm.Term.field (Jvm.Term.string "UnlearnedHand$Reader" (94 : Nat)) "java/lang/String" "value" "[B") (Jvm.Term.int (69 : Int32))) (Jvm.Term.int (117 : Int32))),
  (Jvm.Cond.eq (Jvm.Term.elem (Jvm.Term.field (Jvm.Term.string "UnlearnedHand$Reader" (94 : Nat)) "java/lang/String" "value" "[B") (Jvm.Term.int (70 : Int32))) (Jvm.Term.int (114 : Int32))),
  (Jvm.Cond.eq (Jvm.Term.elem (Jvm.Term.field (Jvm.Term.string "UnlearnedHand$Reader" (94 : Nat)) "java/lang/String" "value" "[B") (Jvm.Term.int (71 : Int32))) (Jvm.Term.int (110 : Int32))),
  (Jvm.Cond.eq (Jvm.Term.elem (Jvm.Term.field (Jvm.Term.string "UnlearnedHand$Reader" (94 : Nat)) "java/lang/String" "value" "[B") (Jvm.Term.int (72 : Int32))) (Jvm.Term.int (32 : Int32))),
  (Jvm.Cond.eq (Jvm.Term.elem (Jvm.Term.field (Jvm.Term.string "UnlearnedHand$Reader" (94 : Nat)) "java/lang/String" "value" "[B") (Jvm.Term.int (73 : Int32))) (Jvm.Term.int (112 : Int32))),
  (Jvm.Cond.eq (Jvm.Term.elem (Jvm.Term.field (Jvm.Term.string "UnlearnedHand$Reader" (94 : Nat)) "java/lang/String" "value" "[B") (Jvm.Term.int (74 : Int32))) (Jvm.Term.int (114 : Int32))),
  (Jvm.Cond.eq (Jvm.Term.elem (Jvm.Term.field (Jvm.Term.string "UnlearnedHand$Reader" (94 : Nat)) "java/lang/String" "value" "[B") (Jvm.Term.int (75 : Int32))) (Jvm.Term.int (105 : Int32))),
  (Jvm.Cond.eq (Jvm.Term.elem (Jvm.Term.field (Jvm.Term.string "UnlearnedHand$Reader" (94 : Nat)) "java/lang/String" "value" "[B") (Jvm.Term.int (76 : Int32))) (Jvm.Term.int (100 : Int32))),
  (Jvm.Cond.eq (Jvm.Term.elem (Jvm.Term.field (Jvm.Term.string "UnlearnedHand$Reader" (94 : Nat)) "java/lang/String" "value" "[B") (Jvm.Term.int (77 : Int32))) (Jvm.Term.int (101 : Int32))),
  (Jvm.Cond.eq (Jvm.Term.elem (Jvm.Term.field (Jvm.Term.string "UnlearnedHand$Reader" (94 : Nat)) "java/lang/String" "value" "[B") (Jvm.Term.int (78 : Int32))) (Jvm.Term.int (32 : Int32))),
  (Jvm.Cond.eq (Jvm.Term.elem (Jvm.Term.field (Jvm.Term.string "UnlearnedHand$Reader" (94 : Nat)) "java/lang/String" "value" "[B") (Jvm.Term.int (79 : Int32))) (Jvm.Term.int (114 : Int32))),
  (Jvm.Cond.eq (Jvm.Term.elem (Jvm.Term.field (Jvm.Term.string "UnlearnedHand$Reader" (94 : Nat)) "java/lang/String" "value" "[B") (Jvm.Term.int (80 : Int32))) (Jvm.Term.int (105 : Int32))),
  (Jvm.Cond.eq (Jvm.Term.elem (Jvm.Term.field (Jvm.Term.string "UnlearnedHand$Reader" (94 : Nat)) "java/lang/String" "value" "[B") (Jvm.Term.int (81 : Int32))) (Jvm.Term.int (103 : Int32))),
  (Jvm.Cond.eq (Jvm.Term.elem (Jvm.Term.field (Jvm.Term.string "UnlearnedHand$Reader" (94 : Nat)) "java/lang/String" "value" "[B") (Jvm.Term.int (82 : Int32))) (Jvm.Term.int (104 : Int32))),
  (Jvm.Cond.eq (Jvm.Term.elem (Jvm.Term.field (Jvm.Term.string "UnlearnedHand$Reader" (94 : Nat)) "java/lang/String" "value" "[B") (Jvm.Term.int (83 : Int32))) (Jvm.Term.int (116 : Int32))),
  (Jvm.Cond.eq (Jvm.Term.elem (Jvm.Term.field (Jvm.Term.string "UnlearnedHand$Reader" (94 : Nat)) "java/lang/String" "value" "[B") (Jvm.Term.int (84 : Int32))) (Jvm.Term.int (32 : Int32))),
  (Jvm.Cond.eq (Jvm.Term.elem (Jvm.Term.field (Jvm.Term.string "UnlearnedHand$Reader" (94 : Nat)) "java/lang/String" "value" "[B") (Jvm.Term.int (85 : Int32))) (Jvm.Term.int (119 : Int32))),
  (Jvm.Cond.eq (Jvm.Term.elem (Jvm.Term.field (Jvm.Term.string "UnlearnedHand$Reader" (94 : Nat)) "java/lang/String" "value" "[B") (Jvm.Term.int (86 : Int32))) (Jvm.Term.int (114 : Int32))),
  (Jvm.Cond.eq (Jvm.Term.elem (Jvm.Term.field (Jvm.Term.string "UnlearnedHand$Reader" (94 : Nat)) "java/lang/String" "value" "[B") (Jvm.Term.int (87 : Int32))) (Jvm.Term.int (111 : Int32))),
  (Jvm.Cond.eq (Jvm.Term.elem (Jvm.Term.field (Jvm.Term.string "UnlearnedHand$Reader" (94 : Nat)) "java/lang/String" "value" "[B") (Jvm.Term.int (88 : Int32))) (Jvm.Term.int (110 : Int32))),
  (Jvm.Cond.eq (Jvm.Term.elem (Jvm.Term.field (Jvm.Term.string "UnlearnedHand$Reader" (94 : Nat)) "java/lang/String" "value" "[B") (Jvm.Term.int (89 : Int32))) (Jvm.Term.int (103 : Int32))),
  (Jvm.Cond.eq (Jvm.Term.elem (Jvm.Term.field (Jvm.Term.string "UnlearnedHand$Reader" (94 : Nat)) "java/lang/String" "value" "[B") (Jvm.Term.int (90 : Int32))) (Jvm.Term.int (32 : Int32))),
  (Jvm.Cond.eq (Jvm.Term.elem (Jvm.Term.field (Jvm.Term.string "UnlearnedHand$Reader" (94 : Nat)) "java/lang/String" "value" "[B") (Jvm.Term.int (91 : Int32))) (Jvm.Term.int (119 : Int32))),
  (Jvm.Cond.eq (Jvm.Term.elem (Jvm.Term.field (Jvm.Term.string "UnlearnedHand$Reader" (94 : Nat)) "java/lang/String" "value" "[B") (Jvm.Term.int (92 : Int32))) (Jvm.Term.int (111 : Int32))),
  (Jvm.Cond.eq (Jvm.Term.elem (Jvm.Term.field (Jvm.Term.string "UnlearnedHand$Reader" (94 : Nat)) "java/lang/String" "value" "[B") (Jvm.Term.int (93 : Int32))) (Jvm.Term.int (114 : Int32))),
  (Jvm.Cond.eq (Jvm.Term.elem (Jvm.Term.field (Jvm.Term.string "UnlearnedHand$Reader" (94 : Nat)) "java/lang/String" "value" "[B") (Jvm.Term.int (94 : Int32))) (Jvm.Term.int (116 : Int32))),
  (Jvm.Cond.eq (Jvm.Term.elem (Jvm.Term.field (Jvm.Term.string "UnlearnedHand$Reader" (94 : Nat)) "java/lang/String" "value" "[B") (Jvm.Term.int (95 : Int32))) (Jvm.Term.int (104 : Int32))),
  (Jvm.Cond.eq (Jvm.Term.elem (Jvm.Term.field (Jvm.Term.string "UnlearnedHand$Reader" (94 : Nat)) "java/lang/String" "value" "[B") (Jvm.Term.int (96 : Int32))) (Jvm.Term.int (32 : Int32))),
  (Jvm.Cond.eq (Jvm.Term.elem (Jvm.Term.field (Jvm.Term.string "UnlearnedHand$Reader" (94 : Nat)) "java/lang/String" "value" "[B") (Jvm.Term.int (97 : Int32))) (Jvm.Term.int (100 : Int32))),
  (Jvm.Cond.eq (Jvm.Term.elem (Jvm.Term.field (Jvm.Term.string "UnlearnedHand$Reader" (94 : Nat)) "java/lang/String" "value" "[B") (Jvm.Term.int (98 : Int32))) (Jvm.Term.int (97 : Int32))),
  (Jvm.Cond.eq (Jvm.Term.elem (Jvm.Term.field (Jvm.Term.string "UnlearnedHand$Reader" (94 : Nat)) "java/lang/String" "value" "[B") (Jvm.Term.int (99 : Int32))) (Jvm.Term.int (121 : Int32))),
  (Jvm.Cond.eq (Jvm.Term.elem (Jvm.Term.field (Jvm.Term.string "UnlearnedHand$Reader" (94 : Nat)) "java/lang/String" "value" "[B") (Jvm.Term.int (100 : Int32))) (Jvm.Term.int (32 : Int32))),
  (Jvm.Cond.eq (Jvm.Term.elem (Jvm.Term.field (Jvm.Term.string "UnlearnedHand$Reader" (94 : Nat)) "java/lang/String" "value" "[B") (Jvm.Term.int (101 : Int32))) (Jvm.Term.int (115 : Int32))),
  (Jvm.Cond.eq (Jvm.Term.elem (Jvm.Term.field (Jvm.Term.string "UnlearnedHand$Reader" (94 : Nat)) "java/lang/String" "value" "[B") (Jvm.Term.int (102 : Int32))) (Jvm.Term.int (117 : Int32))),
  (Jvm.Cond.eq (Jvm.Term.elem (Jvm.Term.field (Jvm.Term.string "UnlearnedHand$Reader" (94 : Nat)) "java/lang/String" "value" "[B") (Jvm.Term.int (103 : Int32))) (Jvm.Term.int (110 : Int32))),
  (Jvm.Cond.eq (Jvm.Term.elem (Jvm.Term.field (Jvm.Term.string "UnlearnedHand$Reader" (94 : Nat)) "java/lang/String" "value" "[B") (Jvm.Term.int (104 : Int32))) (Jvm.Term.int (103 : Int32))),
  (Jvm.Cond.eq (Jvm.Term.elem (Jvm.Term.field (Jvm.Term.string "UnlearnedHand$Reader" (94 : Nat)) "java/lang/String" "value" "[B") (Jvm.Term.int (105 : Int32))) (Jvm.Term.int (32 : Int32))),
  (Jvm.Cond.eq (Jvm.Term.elem (Jvm.Term.field (Jvm.Term.string "UnlearnedHand$Reader" (94 : Nat)) "java/lang/String" "value" "[B") (Jvm.Term.int (106 : Int32))) (Jvm.Term.int (116 : Int32))),
  (Jvm.Cond.eq (Jvm.Term.elem (Jvm.Term.field (Jvm.Term.string "UnlearnedHand$Reader" (94 : Nat)) "java/lang/String" "value" "[B") (Jvm.Term.int (107 : Int32))) (Jvm.Term.int (105 : Int32))),
  (Jvm.Cond.eq (Jvm.Term.elem (Jvm.Term.field (Jvm.Term.string "UnlearnedHand$Reader" (94 : Nat)) "java/lang/String" "value" "[B") (Jvm.Term.int (108 : Int32))) (Jvm.Term.int (101 : Int32))),
  (Jvm.Cond.eq (Jvm.Term.elem (Jvm.Term.field (Jvm.Term.string "UnlearnedHand$Reader" (94 : Nat)) "java/lang/String" "value" "[B") (Jvm.Term.int (109 : Int32))) (Jvm.Term.int (100 : Int32))),
  (Jvm.Cond.eq (Jvm.Term.elem (Jvm.Term.field (Jvm.Term.string "UnlearnedHand$Reader" (94 : Nat)) "java/lang/String" "value" "[B") (Jvm.Term.int (110 : Int32))) (Jvm.Term.int (32 : Int32))),
  (Jvm.Cond.eq (Jvm.Term.elem (Jvm.Term.field (Jvm.Term.string "UnlearnedHand$Reader" (94 : Nat)) "java/lang/String" "value" "[B") (Jvm.Term.int (111 : Int32))) (Jvm.Term.int (109 : Int32))),
  (Jvm.Cond.eq (Jvm.Term.elem (Jvm.Term.field (Jvm.Term.string "UnlearnedHand$Reader" (94 : Nat)) "java/lang/String" "value" "[B") (Jvm.Term.int (112 : Int32))) (Jvm.Term.int (117 : Int32))),
  (Jvm.Cond.eq (Jvm.Term.elem (Jvm.Term.field (Jvm.Term.string "UnlearnedHand$Reader" (94 : Nat)) "java/lang/String" "value" "[B") (Jvm.Term.int (113 : Int32))) (Jvm.Term.int (99 : Int32))),
  (Jvm.Cond.eq (Jvm.Term.elem (Jvm.Term.field (Jvm.Term.string "UnlearnedHand$Reader" (94 : Nat)) "java/lang/String" "value" "[B") (Jvm.Term.int (114 : Int32))) (Jvm.Term.int (104 : Int32))),
  (Jvm.Cond.eq (Jvm.Term.elem (Jvm.Term.field (Jvm.Term.string "UnlearnedHand$Reader" (94 : Nat)) "java/lang/String" "value" "[B") (Jvm.Term.int (115 : Int32))) (Jvm.Term.int (32 : Int32))),
  (Jvm.Cond.eq (Jvm.Term.elem (Jvm.Term.field (Jvm.Term.string "UnlearnedHand$Reader" (94 : Nat)) "java/lang/String" "value" "[B") (Jvm.Term.int (116 : Int32))) (Jvm.Term.int (111 : Int32))),
  (Jvm.Cond.eq (Jvm.Term.elem (Jvm.Term.field (Jvm.Term.string "UnlearnedHand$Reader" (94 : Nat)) "java/lang/String" "value" "[B") (Jvm.Term.int (117 : Int32))) (Jvm.Term.int (114 : Int32))),
  (Jvm.Cond.eq (Jvm.Term.elem (Jvm.Term.field (Jvm.Term.string "UnlearnedHand$Reader" (94 : Nat)) "java/lang/String" "value" "[B") (Jvm.Term.int (118 : Int32))) (Jvm.Term.int (32 : Int32))),
  (Jvm.Cond.eq (Jvm.Term.elem (Jvm.Term.field (Jvm.Term.string "UnlearnedHand$Reader" (94 : Nat)) "java/lang/String" "value" "[B") (Jvm.Term.int (119 : Int32))) (Jvm.Term.int (97 : Int32))),
  (Jvm.Cond.eq (Jvm.Term.elem (Jvm.Term.field (Jvm.Term.string "UnlearnedHand$Reader" (94 : Nat)) "java/lang/String" "value" "[B") (Jvm.Term.int (120 : Int32))) (Jvm.Term.int (110 : Int32))),
  (Jvm.Cond.eq (Jvm.Term.elem (Jvm.Term.field (Jvm.Term.string "UnlearnedHand$Reader" (94 : Nat)) "java/lang/String" "value" "[B") (Jvm.Term.int (121 : Int32))) (Jvm.Term.int (100 : Int32))),
  (Jvm.Cond.eq (Jvm.Term.elem (Jvm.Term.field (Jvm.Term.string "UnlearnedHand$Reader" (94 : Nat)) "java/lang/String" "value" "[B") (Jvm.Term.int (122 : Int32))) (Jvm.Term.int (32 : Int32))),
  (Jvm.Cond.eq (Jvm.Term.elem (Jvm.Term.field (Jvm.Term.string "UnlearnedHand$Reader" (94 : Nat)) "java/lang/String" "value" "[B") (Jvm.Term.int (123 : Int32))) (Jvm.Term.int (110 : Int32))),
  (Jvm.Cond.eq (Jvm.Term.elem (Jvm.Term.field (Jvm.Term.string "UnlearnedHand$Reader" (94 : Nat)) "java/lang/String" "value" "[B") (Jvm.Term.int (124 : Int32))) (Jvm.Term.int (111 : Int32))),
  (Jvm.Cond.eq (Jvm.Term.elem (Jvm.Term.field (Jvm.Term.string "UnlearnedHand$Reader" (94 : Nat)) "java/lang/String" "value" "[B") (Jvm.Term.int (125 : Int32))) (Jvm.Term.int (116 : Int32))),
  (Jvm.Cond.eq (Jvm.Term.elem (Jvm.Term.field (Jvm.Term.string "UnlearnedHand$Reader" (94 : Nat)) "java/lang/String" "value" "[B") (Jvm.Term.int (126 : Int32))) (Jvm.Term.int (32 : Int32))),
  (Jvm.Cond.eq (Jvm.Term.elem (Jvm.Term.field (Jvm.Term.string "UnlearnedHand$Reader" (94 : Nat)) "java/lang/String" "value" "[B") (Jvm.Term.int (127 : Int32))) (Jvm.Term.int (114 : Int32))),
  (Jvm.Cond.eq (Jvm.Term.elem (Jvm.Term.field (Jvm.Term.string "UnlearnedHand$Reader" (94 : Nat)) "java/lang/String" "value" "[B") (Jvm.Term.int (128 : Int32))) (Jvm.Term.int (111 : Int32))),
  (Jvm.Cond.eq (Jvm.Term.elem (Jvm.Term.field (Jvm.Term.string "UnlearnedHand$Reader" (94 : Nat)) "java/lang/String" "value" "[B") (Jvm.Term.int (129 : Int32))) (Jvm.Term.int (111 : Int32))),
  (Jvm.Cond.eq (Jvm.Term.elem (Jvm.Term.field (Jvm.Term.string "UnlearnedHand$Reader" (94 : Nat)) "java/lang/String" "value" "[B") (Jvm.Term.int (130 : Int32))) (Jvm.Term.int (116 : Int32))),
  (Jvm.Cond.eq (Jvm.Term.elem (Jvm.Term.field (Jvm.Term.string "UnlearnedHand$Reader" (94 : Nat)) "java/lang/String" "value" "[B") (Jvm.Term.int (131 : Int32))) (Jvm.Term.int (32 : Int32))),
  (Jvm.Cond.eq (Jvm.Term.elem (Jvm.Term.field (Jvm.Term.string "UnlearnedHand$Reader" (94 : Nat)) "java/lang/String" "value" "[B") (Jvm.Term.int (132 : Int32))) (Jvm.Term.int (105 : Int32))),
  (Jvm.Cond.eq (Jvm.Term.elem (Jvm.Term.field (Jvm.Term.string "UnlearnedHand$Reader" (94 : Nat)) "java/lang/String" "value" "[B") (Jvm.Term.int (133 : Int32))) (Jvm.Term.int (110 : Int32))),
  (Jvm.Cond.eq (Jvm.Term.elem (Jvm.Term.field (Jvm.Term.string "UnlearnedHand$Reader" (94 : Nat)) "java/lang/String" "value" "[B") (Jvm.Term.int (134 : Int32))) (Jvm.Term.int (32 : Int32))),
  (Jvm.Cond.eq (Jvm.Term.elem (Jvm.Term.field (Jvm.Term.string "UnlearnedHand$Reader" (94 : Nat)) "java/lang/String" "value" "[B") (Jvm.Term.int (135 : Int32))) (Jvm.Term.int (98 : Int32))),
  (Jvm.Cond.eq (Jvm.Term.elem (Jvm.Term.field (Jvm.Term.string "UnlearnedHand$Reader" (94 : Nat)) "java/lang/String" "value" "[B") (Jvm.Term.int (136 : Int32))) (Jvm.Term.int (121 : Int32))),
  (Jvm.Cond.eq (Jvm.Term.elem (Jvm.Term.field (Jvm.Term.string "UnlearnedHand$Reader" (94 : Nat)) "java/lang/String" "value" "[B") (Jvm.Term.int (137 : Int32))) (Jvm.Term.int (32 : Int32))),
  (Jvm.Cond.eq (Jvm.Term.elem (Jvm.Term.field (Jvm.Term.string "UnlearnedHand$Reader" (94 : Nat)) "java/lang/String" "value" "[B") (Jvm.Term.int (138 : Int32))) (Jvm.Term.int (111 : Int32))),
  (Jvm.Cond.eq (Jvm.Term.elem (Jvm.Term.field (Jvm.Term.string "UnlearnedHand$Reader" (94 : Nat)) "java/lang/String" "value" "[B") (Jvm.Term.int (139 : Int32))) (Jvm.Term.int (102 : Int32))),
  (Jvm.Cond.eq (Jvm.Term.elem (Jvm.Term.field (Jvm.Term.string "UnlearnedHand$Reader" (94 : Nat)) "java/lang/String" "value" "[B") (Jvm.Term.int (140 : Int32))) (Jvm.Term.int (32 : Int32))),
  (Jvm.Cond.eq (Jvm.Term.elem (Jvm.Term.field (Jvm.Term.string "UnlearnedHand$Reader" (94 : Nat)) "java/lang/String" "value" "[B") (Jvm.Term.int (141 : Int32))) (Jvm.Term.int (97 : Int32))),
  (Jvm.Cond.eq (Jvm.Term.elem (Jvm.Term.field (Jvm.Term.string "UnlearnedHand$Reader" (94 : Nat)) "java/lang/String" "value" "[B") (Jvm.Term.int (142 : Int32))) (Jvm.Term.int (116 : Int32))),
  (Jvm.Cond.exactly (Jvm.Term.string "UnlearnedHand$Reader" (86 : Nat)) "java/lang/String"),
  (Jvm.Cond.eq (Jvm.Term.field (Jvm.Term.string "UnlearnedHand$Reader" (86 : Nat)) "java/lang/String" "coder" "B") (Jvm.Term.int (0 : Int32))),
  (Jvm.Cond.arrayOf (Jvm.Term.field (Jvm.Term.string "UnlearnedHand$Reader" (86 : Nat)) "java/lang/String" "value" "[B") Jvm.ClassFile.FieldType.byte),
  (Jvm.Cond.eq (Jvm.Term.length (Jvm.Term.field (Jvm.Term.string "UnlearnedHand$Reader" (86 : Nat)) "java/lang/String" "value" "[B")) (Jvm.Term.int (11 : Int32))),
  (Jvm.Cond.eq (Jvm.Term.elem (Jvm.Term.field (Jvm.Term.string "UnlearnedHand$Reader" (86 : Nat)) "java/lang/String" "value" "[B") (Jvm.Term.int (0 : Int32))) (Jvm.Term.int (60 : Int32))),
  (Jvm.Cond.eq (Jvm.Term.elem (Jvm.Term.field (Jvm.Term.string "UnlearnedHand$Reader" (86 : Nat)) "java/lang/String" "value" "[B") (Jvm.Term.int (1 : Int32))) (Jvm.Term.int (62 : Int32))),
  (Jvm.Cond.eq (Jvm.Term.elem (Jvm.Term.field (Jvm.Term.string "UnlearnedHand$Reader" (86 : Nat)) "java/lang/String" "value" "[B") (Jvm.Term.int (2 : Int32))) (Jvm.Term.int (61 : Int32))),
  (Jvm.Cond.eq (Jvm.Term.elem (Jvm.Term.field (Jvm.Term.string "UnlearnedHand$Reader" (86 : Nat)) "java/lang/String" "value" "[B") (Jvm.Term.int (3 : Int32))) (Jvm.Term.int (35 : Int32))),
  (Jvm.Cond.eq (Jvm.Term.elem (Jvm.Term.field (Jvm.Term.string "UnlearnedHand$Reader" (86 : Nat)) "java/lang/String" "value" "[B") (Jvm.Term.int (4 : Int32))) (Jvm.Term.int (43 : Int32))),
  (Jvm.Cond.eq (Jvm.Term.elem (Jvm.Term.field (Jvm.Term.string "UnlearnedHand$Reader" (86 : Nat)) "java/lang/String" "value" "[B") (Jvm.Term.int (5 : Int32))) (Jvm.Term.int (45 : Int32))),
  (Jvm.Cond.eq (Jvm.Term.elem (Jvm.Term.field (Jvm.Term.string "UnlearnedHand$Reader" (86 : Nat)) "java/lang/String" "value" "[B") (Jvm.Term.int (6 : Int32))) (Jvm.Term.int (42 : Int32))),
  (Jvm.Cond.eq (Jvm.Term.elem (Jvm.Term.field (Jvm.Term.string "UnlearnedHand$Reader" (86 : Nat)) "java/lang/String" "value" "[B") (Jvm.Term.int (7 : Int32))) (Jvm.Term.int (47 : Int32))),
  (Jvm.Cond.eq (Jvm.Term.elem (Jvm.Term.field (Jvm.Term.string "UnlearnedHand$Reader" (86 : Nat)) "java/lang/String" "value" "[B") (Jvm.Term.int (8 : Int32))) (Jvm.Term.int (40 : Int32))),
  (Jvm.Cond.eq (Jvm.Term.elem (Jvm.Term.field (Jvm.Term.string "UnlearnedHand$Reader" (86 : Nat)) "java/lang/String" "value" "[B") (Jvm.Term.int (9 : Int32))) (Jvm.Term.int (41 : Int32))),
  (Jvm.Cond.eq (Jvm.Term.elem (Jvm.Term.field (Jvm.Term.string "UnlearnedHand$Reader" (86 : Nat)) "java/lang/String" "value" "[B") (Jvm.Term.int (10 : Int32))) (Jvm.Term.int (59 : Int32))),
  (Jvm.Cond.not (Jvm.Cond.eq (Jvm.Term.string "UnlearnedHand$Reader" (94 : Nat)) (Jvm.Term.string "UnlearnedHand$Reader" (86 : Nat))))]
set_option maxRecDepth 100000 in
theorem am_fl_eq : flatC (Jvm.Cond.and given_1 narrow_1) = am_fl := rfl
def am_tm (i : Nat) : Term := .string RX6 (if i = 0 then 86 else 94)
def am_eaP (j : Nat) : Prop := am_fl[184 + j]? = some (Cond.eq (.elem (.field (am_tm 0) "java/lang/String" "value" "[B") (.int (Int32.ofNat j))) (.int ((am_sb 0).getD j 0)))
set_option maxRecDepth 100000 in
theorem am_ea0 : am_eaP 0 := rfl
set_option maxRecDepth 100000 in
theorem am_ea1 : am_eaP 1 := rfl
set_option maxRecDepth 100000 in
theorem am_ea2 : am_eaP 2 := rfl
set_option maxRecDepth 100000 in
theorem am_ea3 : am_eaP 3 := rfl
set_option maxRecDepth 100000 in
theorem am_ea4 : am_eaP 4 := rfl
set_option maxRecDepth 100000 in
theorem am_ea5 : am_eaP 5 := rfl
set_option maxRecDepth 100000 in
theorem am_ea6 : am_eaP 6 := rfl
set_option maxRecDepth 100000 in
theorem am_ea7 : am_eaP 7 := rfl
set_option maxRecDepth 100000 in
theorem am_ea8 : am_eaP 8 := rfl
set_option maxRecDepth 100000 in
theorem am_ea9 : am_eaP 9 := rfl
set_option maxRecDepth 100000 in
theorem am_ea10 : am_eaP 10 := rfl
theorem am_eag0 : ∀ j ∈ [0, 1, 2, 3, 4, 5, 6, 7, 8, 9, 10], am_eaP j := List.forall_mem_cons.mpr ⟨am_ea0, List.forall_mem_cons.mpr ⟨am_ea1, List.forall_mem_cons.mpr ⟨am_ea2, List.forall_mem_cons.mpr ⟨am_ea3, List.forall_mem_cons.mpr ⟨am_ea4, List.forall_mem_cons.mpr ⟨am_ea5, List.forall_mem_cons.mpr ⟨am_ea6, List.forall_mem_cons.mpr ⟨am_ea7, List.forall_mem_cons.mpr ⟨am_ea8, List.forall_mem_cons.mpr ⟨am_ea9, List.forall_mem_cons.mpr ⟨am_ea10, fun _ h => absurd h List.not_mem_nil⟩⟩⟩⟩⟩⟩⟩⟩⟩⟩⟩
theorem am_eas (j : Nat) (h : j < 11) : am_eaP j := by
  by_cases h0 : j < 11
  · exact am_eag0 j (by simp only [List.mem_cons, List.not_mem_nil, or_false]; omega)
  · omega
def am_ebP (j : Nat) : Prop := am_fl[37 + j]? = some (Cond.eq (.elem (.field (am_tm 1) "java/lang/String" "value" "[B") (.int (Int32.ofNat j))) (.int ((am_sb 1).getD j 0)))
set_option maxRecDepth 100000 in
theorem am_eb0 : am_ebP 0 := rfl
set_option maxRecDepth 100000 in
theorem am_eb1 : am_ebP 1 := rfl
set_option maxRecDepth 100000 in
theorem am_eb2 : am_ebP 2 := rfl
set_option maxRecDepth 100000 in
theorem am_eb3 : am_ebP 3 := rfl
set_option maxRecDepth 100000 in
theorem am_eb4 : am_ebP 4 := rfl
set_option maxRecDepth 100000 in
theorem am_eb5 : am_ebP 5 := rfl
set_option maxRecDepth 100000 in
theorem am_eb6 : am_ebP 6 := rfl
set_option maxRecDepth 100000 in
theorem am_eb7 : am_ebP 7 := rfl
set_option maxRecDepth 100000 in
theorem am_eb8 : am_ebP 8 := rfl
set_option maxRecDepth 100000 in
theorem am_eb9 : am_ebP 9 := rfl
set_option maxRecDepth 100000 in
theorem am_eb10 : am_ebP 10 := rfl
set_option maxRecDepth 100000 in
theorem am_eb11 : am_ebP 11 := rfl
set_option maxRecDepth 100000 in
theorem am_eb12 : am_ebP 12 := rfl
set_option maxRecDepth 100000 in
theorem am_eb13 : am_ebP 13 := rfl
set_option maxRecDepth 100000 in
theorem am_eb14 : am_ebP 14 := rfl
set_option maxRecDepth 100000 in
theorem am_eb15 : am_ebP 15 := rfl
set_option maxRecDepth 100000 in
theorem am_eb16 : am_ebP 16 := rfl
set_option maxRecDepth 100000 in
theorem am_eb17 : am_ebP 17 := rfl
set_option maxRecDepth 100000 in
theorem am_eb18 : am_ebP 18 := rfl
set_option maxRecDepth 100000 in
theorem am_eb19 : am_ebP 19 := rfl
set_option maxRecDepth 100000 in
theorem am_eb20 : am_ebP 20 := rfl
set_option maxRecDepth 100000 in
theorem am_eb21 : am_ebP 21 := rfl
set_option maxRecDepth 100000 in
theorem am_eb22 : am_ebP 22 := rfl
set_option maxRecDepth 100000 in
theorem am_eb23 : am_ebP 23 := rfl
set_option maxRecDepth 100000 in
theorem am_eb24 : am_ebP 24 := rfl
set_option maxRecDepth 100000 in
theorem am_eb25 : am_ebP 25 := rfl
set_option maxRecDepth 100000 in
theorem am_eb26 : am_ebP 26 := rfl
set_option maxRecDepth 100000 in
theorem am_eb27 : am_ebP 27 := rfl
set_option maxRecDepth 100000 in
theorem am_eb28 : am_ebP 28 := rfl
set_option maxRecDepth 100000 in
theorem am_eb29 : am_ebP 29 := rfl
set_option maxRecDepth 100000 in
theorem am_eb30 : am_ebP 30 := rfl
set_option maxRecDepth 100000 in
theorem am_eb31 : am_ebP 31 := rfl
set_option maxRecDepth 100000 in
theorem am_eb32 : am_ebP 32 := rfl
set_option maxRecDepth 100000 in
theorem am_eb33 : am_ebP 33 := rfl
set_option maxRecDepth 100000 in
theorem am_eb34 : am_ebP 34 := rfl
set_option maxRecDepth 100000 in
theorem am_eb35 : am_ebP 35 := rfl
set_option maxRecDepth 100000 in
theorem am_eb36 : am_ebP 36 := rfl
set_option maxRecDepth 100000 in
theorem am_eb37 : am_ebP 37 := rfl
set_option maxRecDepth 100000 in
theorem am_eb38 : am_ebP 38 := rfl
set_option maxRecDepth 100000 in
theorem am_eb39 : am_ebP 39 := rfl
set_option maxRecDepth 100000 in
theorem am_eb40 : am_ebP 40 := rfl
set_option maxRecDepth 100000 in
theorem am_eb41 : am_ebP 41 := rfl
set_option maxRecDepth 100000 in
theorem am_eb42 : am_ebP 42 := rfl
set_option maxRecDepth 100000 in
theorem am_eb43 : am_ebP 43 := rfl
set_option maxRecDepth 100000 in
theorem am_eb44 : am_ebP 44 := rfl
set_option maxRecDepth 100000 in
theorem am_eb45 : am_ebP 45 := rfl
set_option maxRecDepth 100000 in
theorem am_eb46 : am_ebP 46 := rfl
set_option maxRecDepth 100000 in
theorem am_eb47 : am_ebP 47 := rfl
set_option maxRecDepth 100000 in
theorem am_eb48 : am_ebP 48 := rfl
set_option maxRecDepth 100000 in
theorem am_eb49 : am_ebP 49 := rfl
set_option maxRecDepth 100000 in
theorem am_eb50 : am_ebP 50 := rfl
set_option maxRecDepth 100000 in
theorem am_eb51 : am_ebP 51 := rfl
set_option maxRecDepth 100000 in
theorem am_eb52 : am_ebP 52 := rfl
set_option maxRecDepth 100000 in
theorem am_eb53 : am_ebP 53 := rfl
set_option maxRecDepth 100000 in
theorem am_eb54 : am_ebP 54 := rfl
set_option maxRecDepth 100000 in
theorem am_eb55 : am_ebP 55 := rfl
set_option maxRecDepth 100000 in
theorem am_eb56 : am_ebP 56 := rfl
set_option maxRecDepth 100000 in
theorem am_eb57 : am_ebP 57 := rfl
set_option maxRecDepth 100000 in
theorem am_eb58 : am_ebP 58 := rfl
set_option maxRecDepth 100000 in
theorem am_eb59 : am_ebP 59 := rfl
set_option maxRecDepth 100000 in
theorem am_eb60 : am_ebP 60 := rfl
set_option maxRecDepth 100000 in
theorem am_eb61 : am_ebP 61 := rfl
set_option maxRecDepth 100000 in
theorem am_eb62 : am_ebP 62 := rfl
set_option maxRecDepth 100000 in
theorem am_eb63 : am_ebP 63 := rfl
set_option maxRecDepth 100000 in
theorem am_eb64 : am_ebP 64 := rfl
set_option maxRecDepth 100000 in
theorem am_eb65 : am_ebP 65 := rfl
set_option maxRecDepth 100000 in
theorem am_eb66 : am_ebP 66 := rfl
set_option maxRecDepth 100000 in
theorem am_eb67 : am_ebP 67 := rfl
set_option maxRecDepth 100000 in
theorem am_eb68 : am_ebP 68 := rfl
set_option maxRecDepth 100000 in
theorem am_eb69 : am_ebP 69 := rfl
set_option maxRecDepth 100000 in
theorem am_eb70 : am_ebP 70 := rfl
set_option maxRecDepth 100000 in
theorem am_eb71 : am_ebP 71 := rfl
set_option maxRecDepth 100000 in
theorem am_eb72 : am_ebP 72 := rfl
set_option maxRecDepth 100000 in
theorem am_eb73 : am_ebP 73 := rfl
set_option maxRecDepth 100000 in
theorem am_eb74 : am_ebP 74 := rfl
set_option maxRecDepth 100000 in
theorem am_eb75 : am_ebP 75 := rfl
set_option maxRecDepth 100000 in
theorem am_eb76 : am_ebP 76 := rfl
set_option maxRecDepth 100000 in
theorem am_eb77 : am_ebP 77 := rfl
set_option maxRecDepth 100000 in
theorem am_eb78 : am_ebP 78 := rfl
set_option maxRecDepth 100000 in
theorem am_eb79 : am_ebP 79 := rfl
set_option maxRecDepth 100000 in
theorem am_eb80 : am_ebP 80 := rfl
set_option maxRecDepth 100000 in
theorem am_eb81 : am_ebP 81 := rfl
set_option maxRecDepth 100000 in
theorem am_eb82 : am_ebP 82 := rfl
set_option maxRecDepth 100000 in
theorem am_eb83 : am_ebP 83 := rfl
set_option maxRecDepth 100000 in
theorem am_eb84 : am_ebP 84 := rfl
set_option maxRecDepth 100000 in
theorem am_eb85 : am_ebP 85 := rfl
set_option maxRecDepth 100000 in
theorem am_eb86 : am_ebP 86 := rfl
set_option maxRecDepth 100000 in
theorem am_eb87 : am_ebP 87 := rfl
set_option maxRecDepth 100000 in
theorem am_eb88 : am_ebP 88 := rfl
set_option maxRecDepth 100000 in
theorem am_eb89 : am_ebP 89 := rfl
set_option maxRecDepth 100000 in
theorem am_eb90 : am_ebP 90 := rfl
set_option maxRecDepth 100000 in
theorem am_eb91 : am_ebP 91 := rfl
set_option maxRecDepth 100000 in
theorem am_eb92 : am_ebP 92 := rfl
set_option maxRecDepth 100000 in
theorem am_eb93 : am_ebP 93 := rfl
set_option maxRecDepth 100000 in
theorem am_eb94 : am_ebP 94 := rfl
set_option maxRecDepth 100000 in
theorem am_eb95 : am_ebP 95 := rfl
set_option maxRecDepth 100000 in
theorem am_eb96 : am_ebP 96 := rfl
set_option maxRecDepth 100000 in
theorem am_eb97 : am_ebP 97 := rfl
set_option maxRecDepth 100000 in
theorem am_eb98 : am_ebP 98 := rfl
set_option maxRecDepth 100000 in
theorem am_eb99 : am_ebP 99 := rfl
set_option maxRecDepth 100000 in
theorem am_eb100 : am_ebP 100 := rfl
set_option maxRecDepth 100000 in
theorem am_eb101 : am_ebP 101 := rfl
set_option maxRecDepth 100000 in
theorem am_eb102 : am_ebP 102 := rfl
set_option maxRecDepth 100000 in
theorem am_eb103 : am_ebP 103 := rfl
set_option maxRecDepth 100000 in
theorem am_eb104 : am_ebP 104 := rfl
set_option maxRecDepth 100000 in
theorem am_eb105 : am_ebP 105 := rfl
set_option maxRecDepth 100000 in
theorem am_eb106 : am_ebP 106 := rfl
set_option maxRecDepth 100000 in
theorem am_eb107 : am_ebP 107 := rfl
set_option maxRecDepth 100000 in
theorem am_eb108 : am_ebP 108 := rfl
set_option maxRecDepth 100000 in
theorem am_eb109 : am_ebP 109 := rfl
set_option maxRecDepth 100000 in
theorem am_eb110 : am_ebP 110 := rfl
set_option maxRecDepth 100000 in
theorem am_eb111 : am_ebP 111 := rfl
set_option maxRecDepth 100000 in
theorem am_eb112 : am_ebP 112 := rfl
set_option maxRecDepth 100000 in
theorem am_eb113 : am_ebP 113 := rfl
set_option maxRecDepth 100000 in
theorem am_eb114 : am_ebP 114 := rfl
set_option maxRecDepth 100000 in
theorem am_eb115 : am_ebP 115 := rfl
set_option maxRecDepth 100000 in
theorem am_eb116 : am_ebP 116 := rfl
set_option maxRecDepth 100000 in
theorem am_eb117 : am_ebP 117 := rfl
set_option maxRecDepth 100000 in
theorem am_eb118 : am_ebP 118 := rfl
set_option maxRecDepth 100000 in
theorem am_eb119 : am_ebP 119 := rfl
set_option maxRecDepth 100000 in
theorem am_eb120 : am_ebP 120 := rfl
set_option maxRecDepth 100000 in
theorem am_eb121 : am_ebP 121 := rfl
set_option maxRecDepth 100000 in
theorem am_eb122 : am_ebP 122 := rfl
set_option maxRecDepth 100000 in
theorem am_eb123 : am_ebP 123 := rfl
set_option maxRecDepth 100000 in
theorem am_eb124 : am_ebP 124 := rfl
set_option maxRecDepth 100000 in
theorem am_eb125 : am_ebP 125 := rfl
set_option maxRecDepth 100000 in
theorem am_eb126 : am_ebP 126 := rfl
set_option maxRecDepth 100000 in
theorem am_eb127 : am_ebP 127 := rfl
set_option maxRecDepth 100000 in
theorem am_eb128 : am_ebP 128 := rfl
set_option maxRecDepth 100000 in
theorem am_eb129 : am_ebP 129 := rfl
set_option maxRecDepth 100000 in
theorem am_eb130 : am_ebP 130 := rfl
set_option maxRecDepth 100000 in
theorem am_eb131 : am_ebP 131 := rfl
set_option maxRecDepth 100000 in
theorem am_eb132 : am_ebP 132 := rfl
set_option maxRecDepth 100000 in
theorem am_eb133 : am_ebP 133 := rfl
set_option maxRecDepth 100000 in
theorem am_eb134 : am_ebP 134 := rfl
set_option maxRecDepth 100000 in
theorem am_eb135 : am_ebP 135 := rfl
set_option maxRecDepth 100000 in
theorem am_eb136 : am_ebP 136 := rfl
set_option maxRecDepth 100000 in
theorem am_eb137 : am_ebP 137 := rfl
set_option maxRecDepth 100000 in
theorem am_eb138 : am_ebP 138 := rfl
set_option maxRecDepth 100000 in
theorem am_eb139 : am_ebP 139 := rfl
set_option maxRecDepth 100000 in
theorem am_eb140 : am_ebP 140 := rfl
set_option maxRecDepth 100000 in
theorem am_eb141 : am_ebP 141 := rfl
set_option maxRecDepth 100000 in
theorem am_eb142 : am_ebP 142 := rfl
theorem am_ebg0 : ∀ j ∈ [0, 1, 2, 3, 4, 5, 6, 7, 8, 9, 10, 11, 12, 13, 14, 15], am_ebP j := List.forall_mem_cons.mpr ⟨am_eb0, List.forall_mem_cons.mpr ⟨am_eb1, List.forall_mem_cons.mpr ⟨am_eb2, List.forall_mem_cons.mpr ⟨am_eb3, List.forall_mem_cons.mpr ⟨am_eb4, List.forall_mem_cons.mpr ⟨am_eb5, List.forall_mem_cons.mpr ⟨am_eb6, List.forall_mem_cons.mpr ⟨am_eb7, List.forall_mem_cons.mpr ⟨am_eb8, List.forall_mem_cons.mpr ⟨am_eb9, List.forall_mem_cons.mpr ⟨am_eb10, List.forall_mem_cons.mpr ⟨am_eb11, List.forall_mem_cons.mpr ⟨am_eb12, List.forall_mem_cons.mpr ⟨am_eb13, List.forall_mem_cons.mpr ⟨am_eb14, List.forall_mem_cons.mpr ⟨am_eb15, fun _ h => absurd h List.not_mem_nil⟩⟩⟩⟩⟩⟩⟩⟩⟩⟩⟩⟩⟩⟩⟩⟩
theorem am_ebg1 : ∀ j ∈ [16, 17, 18, 19, 20, 21, 22, 23, 24, 25, 26, 27, 28, 29, 30, 31], am_ebP j := List.forall_mem_cons.mpr ⟨am_eb16, List.forall_mem_cons.mpr ⟨am_eb17, List.forall_mem_cons.mpr ⟨am_eb18, List.forall_mem_cons.mpr ⟨am_eb19, List.forall_mem_cons.mpr ⟨am_eb20, List.forall_mem_cons.mpr ⟨am_eb21, List.forall_mem_cons.mpr ⟨am_eb22, List.forall_mem_cons.mpr ⟨am_eb23, List.forall_mem_cons.mpr ⟨am_eb24, List.forall_mem_cons.mpr ⟨am_eb25, List.forall_mem_cons.mpr ⟨am_eb26, List.forall_mem_cons.mpr ⟨am_eb27, List.forall_mem_cons.mpr ⟨am_eb28, List.forall_mem_cons.mpr ⟨am_eb29, List.forall_mem_cons.mpr ⟨am_eb30, List.forall_mem_cons.mpr ⟨am_eb31, fun _ h => absurd h List.not_mem_nil⟩⟩⟩⟩⟩⟩⟩⟩⟩⟩⟩⟩⟩⟩⟩⟩
theorem am_ebg2 : ∀ j ∈ [32, 33, 34, 35, 36, 37, 38, 39, 40, 41, 42, 43, 44, 45, 46, 47], am_ebP j := List.forall_mem_cons.mpr ⟨am_eb32, List.forall_mem_cons.mpr ⟨am_eb33, List.forall_mem_cons.mpr ⟨am_eb34, List.forall_mem_cons.mpr ⟨am_eb35, List.forall_mem_cons.mpr ⟨am_eb36, List.forall_mem_cons.mpr ⟨am_eb37, List.forall_mem_cons.mpr ⟨am_eb38, List.forall_mem_cons.mpr ⟨am_eb39, List.forall_mem_cons.mpr ⟨am_eb40, List.forall_mem_cons.mpr ⟨am_eb41, List.forall_mem_cons.mpr ⟨am_eb42, List.forall_mem_cons.mpr ⟨am_eb43, List.forall_mem_cons.mpr ⟨am_eb44, List.forall_mem_cons.mpr ⟨am_eb45, List.forall_mem_cons.mpr ⟨am_eb46, List.forall_mem_cons.mpr ⟨am_eb47, fun _ h => absurd h List.not_mem_nil⟩⟩⟩⟩⟩⟩⟩⟩⟩⟩⟩⟩⟩⟩⟩⟩
theorem am_ebg3 : ∀ j ∈ [48, 49, 50, 51, 52, 53, 54, 55, 56, 57, 58, 59, 60, 61, 62, 63], am_ebP j := List.forall_mem_cons.mpr ⟨am_eb48, List.forall_mem_cons.mpr ⟨am_eb49, List.forall_mem_cons.mpr ⟨am_eb50, List.forall_mem_cons.mpr ⟨am_eb51, List.forall_mem_cons.mpr ⟨am_eb52, List.forall_mem_cons.mpr ⟨am_eb53, List.forall_mem_cons.mpr ⟨am_eb54, List.forall_mem_cons.mpr ⟨am_eb55, List.forall_mem_cons.mpr ⟨am_eb56, List.forall_mem_cons.mpr ⟨am_eb57, List.forall_mem_cons.mpr ⟨am_eb58, List.forall_mem_cons.mpr ⟨am_eb59, List.forall_mem_cons.mpr ⟨am_eb60, List.forall_mem_cons.mpr ⟨am_eb61, List.forall_mem_cons.mpr ⟨am_eb62, List.forall_mem_cons.mpr ⟨am_eb63, fun _ h => absurd h List.not_mem_nil⟩⟩⟩⟩⟩⟩⟩⟩⟩⟩⟩⟩⟩⟩⟩⟩
theorem am_ebg4 : ∀ j ∈ [64, 65, 66, 67, 68, 69, 70, 71, 72, 73, 74, 75, 76, 77, 78, 79], am_ebP j := List.forall_mem_cons.mpr ⟨am_eb64, List.forall_mem_cons.mpr ⟨am_eb65, List.forall_mem_cons.mpr ⟨am_eb66, List.forall_mem_cons.mpr ⟨am_eb67, List.forall_mem_cons.mpr ⟨am_eb68, List.forall_mem_cons.mpr ⟨am_eb69, List.forall_mem_cons.mpr ⟨am_eb70, List.forall_mem_cons.mpr ⟨am_eb71, List.forall_mem_cons.mpr ⟨am_eb72, List.forall_mem_cons.mpr ⟨am_eb73, List.forall_mem_cons.mpr ⟨am_eb74, List.forall_mem_cons.mpr ⟨am_eb75, List.forall_mem_cons.mpr ⟨am_eb76, List.forall_mem_cons.mpr ⟨am_eb77, List.forall_mem_cons.mpr ⟨am_eb78, List.forall_mem_cons.mpr ⟨am_eb79, fun _ h => absurd h List.not_mem_nil⟩⟩⟩⟩⟩⟩⟩⟩⟩⟩⟩⟩⟩⟩⟩⟩
theorem am_ebg5 : ∀ j ∈ [80, 81, 82, 83, 84, 85, 86, 87, 88, 89, 90, 91, 92, 93, 94, 95], am_ebP j := List.forall_mem_cons.mpr ⟨am_eb80, List.forall_mem_cons.mpr ⟨am_eb81, List.forall_mem_cons.mpr ⟨am_eb82, List.forall_mem_cons.mpr ⟨am_eb83, List.forall_mem_cons.mpr ⟨am_eb84, List.forall_mem_cons.mpr ⟨am_eb85, List.forall_mem_cons.mpr ⟨am_eb86, List.forall_mem_cons.mpr ⟨am_eb87, List.forall_mem_cons.mpr ⟨am_eb88, List.forall_mem_cons.mpr ⟨am_eb89, List.forall_mem_cons.mpr ⟨am_eb90, List.forall_mem_cons.mpr ⟨am_eb91, List.forall_mem_cons.mpr ⟨am_eb92, List.forall_mem_cons.mpr ⟨am_eb93, List.forall_mem_cons.mpr ⟨am_eb94, List.forall_mem_cons.mpr ⟨am_eb95, fun _ h => absurd h List.not_mem_nil⟩⟩⟩⟩⟩⟩⟩⟩⟩⟩⟩⟩⟩⟩⟩⟩
theorem am_ebg6 : ∀ j ∈ [96, 97, 98, 99, 100, 101, 102, 103, 104, 105, 106, 107, 108, 109, 110, 111], am_ebP j := List.forall_mem_cons.mpr ⟨am_eb96, List.forall_mem_cons.mpr ⟨am_eb97, List.forall_mem_cons.mpr ⟨am_eb98, List.forall_mem_cons.mpr ⟨am_eb99, List.forall_mem_cons.mpr ⟨am_eb100, List.forall_mem_cons.mpr ⟨am_eb101, List.forall_mem_cons.mpr ⟨am_eb102, List.forall_mem_cons.mpr ⟨am_eb103, List.forall_mem_cons.mpr ⟨am_eb104, List.forall_mem_cons.mpr ⟨am_eb105, List.forall_mem_cons.mpr ⟨am_eb106, List.forall_mem_cons.mpr ⟨am_eb107, List.forall_mem_cons.mpr ⟨am_eb108, List.forall_mem_cons.mpr ⟨am_eb109, List.forall_mem_cons.mpr ⟨am_eb110, List.forall_mem_cons.mpr ⟨am_eb111, fun _ h => absurd h List.not_mem_nil⟩⟩⟩⟩⟩⟩⟩⟩⟩⟩⟩⟩⟩⟩⟩⟩
theorem am_ebg7 : ∀ j ∈ [112, 113, 114, 115, 116, 117, 118, 119, 120, 121, 122, 123, 124, 125, 126, 127], am_ebP j := List.forall_mem_cons.mpr ⟨am_eb112, List.forall_mem_cons.mpr ⟨am_eb113, List.forall_mem_cons.mpr ⟨am_eb114, List.forall_mem_cons.mpr ⟨am_eb115, List.forall_mem_cons.mpr ⟨am_eb116, List.forall_mem_cons.mpr ⟨am_eb117, List.forall_mem_cons.mpr ⟨am_eb118, List.forall_mem_cons.mpr ⟨am_eb119, List.forall_mem_cons.mpr ⟨am_eb120, List.forall_mem_cons.mpr ⟨am_eb121, List.forall_mem_cons.mpr ⟨am_eb122, List.forall_mem_cons.mpr ⟨am_eb123, List.forall_mem_cons.mpr ⟨am_eb124, List.forall_mem_cons.mpr ⟨am_eb125, List.forall_mem_cons.mpr ⟨am_eb126, List.forall_mem_cons.mpr ⟨am_eb127, fun _ h => absurd h List.not_mem_nil⟩⟩⟩⟩⟩⟩⟩⟩⟩⟩⟩⟩⟩⟩⟩⟩
theorem am_ebg8 : ∀ j ∈ [128, 129, 130, 131, 132, 133, 134, 135, 136, 137, 138, 139, 140, 141, 142], am_ebP j := List.forall_mem_cons.mpr ⟨am_eb128, List.forall_mem_cons.mpr ⟨am_eb129, List.forall_mem_cons.mpr ⟨am_eb130, List.forall_mem_cons.mpr ⟨am_eb131, List.forall_mem_cons.mpr ⟨am_eb132, List.forall_mem_cons.mpr ⟨am_eb133, List.forall_mem_cons.mpr ⟨am_eb134, List.forall_mem_cons.mpr ⟨am_eb135, List.forall_mem_cons.mpr ⟨am_eb136, List.forall_mem_cons.mpr ⟨am_eb137, List.forall_mem_cons.mpr ⟨am_eb138, List.forall_mem_cons.mpr ⟨am_eb139, List.forall_mem_cons.mpr ⟨am_eb140, List.forall_mem_cons.mpr ⟨am_eb141, List.forall_mem_cons.mpr ⟨am_eb142, fun _ h => absurd h List.not_mem_nil⟩⟩⟩⟩⟩⟩⟩⟩⟩⟩⟩⟩⟩⟩⟩
theorem am_ebs (j : Nat) (h : j < 143) : am_ebP j := by
  by_cases h0 : j < 16
  · exact am_ebg0 j (by simp only [List.mem_cons, List.not_mem_nil, or_false]; omega)
  by_cases h1 : j < 32
  · exact am_ebg1 j (by simp only [List.mem_cons, List.not_mem_nil, or_false]; omega)
  by_cases h2 : j < 48
  · exact am_ebg2 j (by simp only [List.mem_cons, List.not_mem_nil, or_false]; omega)
  by_cases h3 : j < 64
  · exact am_ebg3 j (by simp only [List.mem_cons, List.not_mem_nil, or_false]; omega)
  by_cases h4 : j < 80
  · exact am_ebg4 j (by simp only [List.mem_cons, List.not_mem_nil, or_false]; omega)
  by_cases h5 : j < 96
  · exact am_ebg5 j (by simp only [List.mem_cons, List.not_mem_nil, or_false]; omega)
  by_cases h6 : j < 112
  · exact am_ebg6 j (by simp only [List.mem_cons, List.not_mem_nil, or_false]; omega)
  by_cases h7 : j < 128
  · exact am_ebg7 j (by simp only [List.mem_cons, List.not_mem_nil, or_false]; omega)
  by_cases h8 : j < 143
  · exact am_ebg8 j (by simp only [List.mem_cons, List.not_mem_nil, or_false]; omega)
  · omega
theorem am_n1 {w : Cond} (j : Nat) (h : tables_1_1[j]? = some w) : w ∈ lw_tbl := List.mem_append_right _ (List.mem_append_left _ (List.mem_of_getElem? h))
theorem am_n2 {w : Cond} (j : Nat) (h : tables_1_2[j]? = some w) : w ∈ lw_tbl := List.mem_append_right _ (List.mem_append_right _ (List.mem_append_left _ (List.mem_of_getElem? h)))
theorem am_n3 {w : Cond} (j : Nat) (h : tables_1_3[j]? = some w) : w ∈ lw_tbl := List.mem_append_right _ (List.mem_append_right _ (List.mem_append_right _ (List.mem_append_left _ (List.mem_of_getElem? h))))
theorem am_n4 {w : Cond} (j : Nat) (h : tables_1_4[j]? = some w) : w ∈ lw_tbl := List.mem_append_right _ (List.mem_append_right _ (List.mem_append_right _ (List.mem_append_right _ (List.mem_append_left _ (List.mem_of_getElem? h)))))
theorem am_n5 {w : Cond} (j : Nat) (h : tables_1_5[j]? = some w) : w ∈ lw_tbl := List.mem_append_right _ (List.mem_append_right _ (List.mem_append_right _ (List.mem_append_right _ (List.mem_append_right _ (List.mem_append_left _ (List.mem_of_getElem? h))))))
theorem am_n6 {w : Cond} (j : Nat) (h : tables_1_6[j]? = some w) : w ∈ lw_tbl := List.mem_append_right _ (List.mem_append_right _ (List.mem_append_right _ (List.mem_append_right _ (List.mem_append_right _ (List.mem_append_right _ (List.mem_append_left _ (List.mem_of_getElem? h)))))))
theorem am_n7 {w : Cond} (j : Nat) (h : tables_1_7[j]? = some w) : w ∈ lw_tbl := List.mem_append_right _ (List.mem_append_right _ (List.mem_append_right _ (List.mem_append_right _ (List.mem_append_right _ (List.mem_append_right _ (List.mem_append_right _ (List.mem_append_left _ (List.mem_of_getElem? h))))))))
theorem am_n8 {w : Cond} (j : Nat) (h : tables_1_8[j]? = some w) : w ∈ lw_tbl := List.mem_append_right _ (List.mem_append_right _ (List.mem_append_right _ (List.mem_append_right _ (List.mem_append_right _ (List.mem_append_right _ (List.mem_append_right _ (List.mem_append_right _ (List.mem_of_getElem? h))))))))
set_option maxRecDepth 100000 in
theorem am_w86 : Cond.stringRef RX6 86 "<>=#+-*/();" ∈ lw_tbl := am_n4 31 rfl
set_option maxRecDepth 100000 in
theorem am_w94 : Cond.stringRef RX6 94 "has fades drops pushes teach mislead drink sing tie smell try night turn pride right wrong worth day sung tied much or and not root in by of at" ∈ lw_tbl := am_n3 205 rfl
set_option maxRecDepth 100000 in
theorem am_wco : Cond.laysStatic "java/lang/String" "COMPACT_STRINGS" "Z" ∈ lw_tbl ∧ Cond.initialized "java/lang/String" ∈ lw_tbl := ⟨am_n3 215 rfl, am_n1 16 rfl⟩
set_option maxRecDepth 100000 in
theorem am_wsi : Cond.laysStatic "jdk/internal/util/Preconditions" "SIOOBE_FORMATTER" "Ljava/util/function/BiFunction;" ∈ lw_tbl ∧ Cond.initialized "jdk/internal/util/Preconditions" ∈ lw_tbl := ⟨am_n3 231 rfl, am_n1 18 rfl⟩
def am_ad0 (b : Nat) (adK adV : Nat → Nat) (v : Nat) : Int → Nat := fun x => if x = -1 then b else if x = -2 then adK 0 else if x = -3 then adK 1 else if x = -5 then adV 0 else if x = -6 then adV 1 else if x = -8 then v else 0
theorem am_vkS {args : Array Value} {s : State} {A : Nat → Prop} (hs : ∀ c ∈ am_fl, c.before args s = true) (hA : ∀ a : Nat, a < s.heap.size → ¬ A a) : ∃ adK adV : Nat → Nat, vk_S 2 [11, 143] [am_sb 0, am_sb 1] adK adV A s s.heap ∧ ∀ i : Nat, i < 2 → (am_tm i).eval args s none [] s = some (.ref (adK i)) := by
  refine vk_Sof (tm := am_tm) ?_ ?_ ?_ ?_ ?_ ?_ ?_ hA
  · intro i hi
    match i, hi with
    | 0, _ => show (11 : Nat) < 2 ^ 31; decide
    | 1, _ => show (143 : Nat) < 2 ^ 31; decide
  · intro i hi
    match i, hi with
    | 0, _ => exact hs _ (List.mem_of_getElem? (i := 180) rfl)
    | 1, _ => exact hs _ (List.mem_of_getElem? (i := 33) rfl)
  · intro i hi
    match i, hi with
    | 0, _ => exact hs _ (List.mem_of_getElem? (i := 181) rfl)
    | 1, _ => exact hs _ (List.mem_of_getElem? (i := 34) rfl)
  · intro i hi
    match i, hi with
    | 0, _ => exact hs _ (List.mem_of_getElem? (i := 182) rfl)
    | 1, _ => exact hs _ (List.mem_of_getElem? (i := 35) rfl)
  · intro i hi
    match i, hi with
    | 0, _ => exact hs _ (List.mem_of_getElem? (i := 183) rfl)
    | 1, _ => exact hs _ (List.mem_of_getElem? (i := 36) rfl)
  · intro i hi j hj
    match i, hi, hj with
    | 0, _, hj => exact hs _ (List.mem_of_getElem? (am_eas j hj))
    | 1, _, hj => exact hs _ (List.mem_of_getElem? (am_ebs j hj))
  · intro i j hi hj hij
    match i, j, hi, hj with
    | 0, 0, _, _ => exact absurd rfl hij
    | 1, 1, _, _ => exact absurd rfl hij
    | 0, 1, _, _ => exact Or.inr (hs _ (List.mem_of_getElem? (i := 195) rfl))
    | 1, 0, _, _ => exact Or.inl (hs _ (List.mem_of_getElem? (i := 195) rfl))
theorem am_ro0 {args : Array Value} {s : State} {A : Nat → Prop} (b : Nat) (hs : ∀ c ∈ am_fl, c.before args s = true) (hts : ∀ w ∈ lw_tbl, w.before args s = true) (hA : ∀ a : Nat, a < s.heap.size → ¬ A a) : ∃ ad : Int → Nat, ad (-1) = b ∧ am_RO ad A s s.heap := by
  obtain ⟨adK, adV, hV, hev⟩ := am_vkS hs hA
  have hZ1 : va_Z "java/lang/String" "COMPACT_STRINGS" "Z" (.int 1) A s s.heap := va_Zof (hts _ am_wco.1) (hts _ am_wco.2) (va_eqi (hs _ (List.mem_of_getElem? (i := 4) rfl))) hA
  have hZ2 := va_Zqof (hts _ am_wsi.1) (hts _ am_wsi.2) (hs _ (List.mem_of_getElem? (i := 5) rfl)) hA
  obtain ⟨v, hv⟩ : ∃ v : Nat, va_Z "jdk/internal/util/Preconditions" "SIOOBE_FORMATTER" "Ljava/util/function/BiFunction;" (if v = 0 then .null else .ref (v - 1)) A s s.heap := by
    rcases hZ2 with h | ⟨t, h⟩
    · exact ⟨0, h⟩
    · exact ⟨t + 1, h⟩
  refine ⟨am_ad0 b adK adV v, rfl, ⟨fun i hi => ?_, fun i j hi hj h => ?_⟩, vk_R.of (hts _ am_w86) (hev 0 (by decide)), vk_R.of (hts _ am_w94) (hev 1 (by decide)), hZ1, hv⟩
  · match i, hi with
    | 0, hi => exact hV.1 0 hi
    | 1, hi => exact hV.1 1 hi
  · refine hV.2 i j hi hj ?_
    match i, j, hi, hj, h with
    | 0, 0, _, _, _ => rfl
    | 1, 1, _, _, _ => rfl
    | 0, 1, _, _, h => exact h
    | 1, 0, _, _, h => exact h
