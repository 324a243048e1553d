/-! the words that rows link -/
def am_u21 : Cond := (Cond.classLink "UnlearnedHandLaw" (7 : Nat) "UnlearnedHand")
set_option maxRecDepth 100000 in
theorem am_v21 : am_u21 ∈ am_G := am_m1 21 rfl rfl
def am_u23 : Cond := (Cond.methodLink "UnlearnedHandLaw" (9 : Nat) ({ cls := "UnlearnedHand", name := "<init>", desc := "()V" } : Jvm.MethodName))
set_option maxRecDepth 100000 in
theorem am_v23 : am_u23 ∈ am_G := am_m1 23 rfl rfl
def am_u26 : Cond := (Cond.methodLink "UnlearnedHand" (1 : Nat) ({ cls := "java/lang/Object", name := "<init>", desc := "()V" } : Jvm.MethodName))
set_option maxRecDepth 100000 in
theorem am_v26 : am_u26 ∈ am_G := am_m1 26 rfl rfl
def am_u29 : Cond := (Cond.classLink "UnlearnedHand" (7 : Nat) "UnlearnedHand$Guild")
set_option maxRecDepth 100000 in
theorem am_v29 : am_u29 ∈ am_G := am_m1 29 rfl rfl
def am_u31 : Cond := (Cond.methodLinkNest "UnlearnedHand" (9 : Nat) ({ cls := "UnlearnedHand$Guild", name := "<init>", desc := "()V" } : Jvm.MethodName) "UnlearnedHand")
set_option maxRecDepth 100000 in
theorem am_v31 : am_u31 ∈ am_G := am_m1 31 rfl rfl
def am_u34 : Cond := (Cond.methodLink "UnlearnedHand$Guild" (3 : Nat) ({ cls := "java/lang/Object", name := "<init>", desc := "()V" } : Jvm.MethodName))
set_option maxRecDepth 100000 in
theorem am_v34 : am_u34 ∈ am_G := am_m1 34 rfl rfl
def am_u35 : Cond := (Cond.fieldLink "UnlearnedHand$Guild" (9 : Nat) "UnlearnedHand$Guild" "worth" "[I")
set_option maxRecDepth 100000 in
theorem am_v35 : am_u35 ∈ am_G := am_m1 35 rfl rfl
def am_u36 : Cond := (Cond.fieldLinkNest "UnlearnedHand$Laws" (74 : Nat) "UnlearnedHand$Guild" "worth" "[I" "UnlearnedHand")
set_option maxRecDepth 100000 in
theorem am_v36 : am_u36 ∈ am_G := am_m1 36 rfl rfl
def am_u37 : Cond := (Cond.fieldLink "UnlearnedHand$Guild" (15 : Nat) "UnlearnedHand$Guild" "leads" "[I")
set_option maxRecDepth 100000 in
theorem am_v37 : am_u37 ∈ am_G := am_m1 37 rfl rfl
def am_u38 : Cond := (Cond.fieldLink "UnlearnedHand$Guild" (18 : Nat) "UnlearnedHand$Guild" "pride" "[I")
set_option maxRecDepth 100000 in
theorem am_v38 : am_u38 ∈ am_G := am_m1 38 rfl rfl
def am_u39 : Cond := (Cond.fieldLinkNest "UnlearnedHand$Laws" (63 : Nat) "UnlearnedHand$Guild" "pride" "[I" "UnlearnedHand")
set_option maxRecDepth 100000 in
theorem am_v39 : am_u39 ∈ am_G := am_m1 39 rfl rfl
def am_u40 : Cond := (Cond.fieldLink "UnlearnedHand$Guild" (21 : Nat) "UnlearnedHand$Guild" "smelling" "[I")
set_option maxRecDepth 100000 in
theorem am_v40 : am_u40 ∈ am_G := am_m1 40 rfl rfl
def am_u41 : Cond := (Cond.fieldLink "UnlearnedHand$Guild" (24 : Nat) "UnlearnedHand$Guild" "doneTurn" "[I")
set_option maxRecDepth 100000 in
theorem am_v41 : am_u41 ∈ am_G := am_m1 41 rfl rfl
def am_u42 : Cond := (Cond.fieldLinkNest "UnlearnedHand$Reckoning" (58 : Nat) "UnlearnedHand$Guild" "doneTurn" "[I" "UnlearnedHand")
set_option maxRecDepth 100000 in
theorem am_v42 : am_u42 ∈ am_G := am_m1 42 rfl rfl
def am_u43 : Cond := (Cond.fieldLinkNest "UnlearnedHand$Laws" (26 : Nat) "UnlearnedHand$Guild" "turns" "I" "UnlearnedHand")
set_option maxRecDepth 100000 in
theorem am_v43 : am_u43 ∈ am_G := am_m1 43 rfl rfl
def am_u44 : Cond := (Cond.fieldLink "UnlearnedHand$Guild" (37 : Nat) "UnlearnedHand$Guild" "turns" "I")
set_option maxRecDepth 100000 in
theorem am_v44 : am_u44 ∈ am_G := am_m1 44 rfl rfl
def am_u45 : Cond := (Cond.fieldLinkNest "UnlearnedHand$Reckoning" (41 : Nat) "UnlearnedHand$Guild" "turns" "I" "UnlearnedHand")
set_option maxRecDepth 100000 in
theorem am_v45 : am_u45 ∈ am_G := am_m1 45 rfl rfl
def am_u46 : Cond := (Cond.fieldLinkNest "UnlearnedHand$Deeds" (65 : Nat) "UnlearnedHand$Guild" "turns" "I" "UnlearnedHand")
set_option maxRecDepth 100000 in
theorem am_v46 : am_u46 ∈ am_G := am_m1 46 rfl rfl
def am_u47 : Cond := (Cond.fieldLinkNest "UnlearnedHand$Foresight" (69 : Nat) "UnlearnedHand$Guild" "turns" "I" "UnlearnedHand")
set_option maxRecDepth 100000 in
theorem am_v47 : am_u47 ∈ am_G := am_m1 47 rfl rfl
def am_u48 : Cond := (Cond.fieldLinkNest "UnlearnedHand" (203 : Nat) "UnlearnedHand$Guild" "turns" "I" "UnlearnedHand")
set_option maxRecDepth 100000 in
theorem am_v48 : am_u48 ∈ am_G := am_m1 48 rfl rfl
def am_u49 : Cond := (Cond.fieldLink "UnlearnedHand$Guild" (40 : Nat) "UnlearnedHand$Guild" "men" "I")
set_option maxRecDepth 100000 in
theorem am_v49 : am_u49 ∈ am_G := am_m1 49 rfl rfl
def am_u50 : Cond := (Cond.fieldLinkNest "UnlearnedHand$Reckoning" (86 : Nat) "UnlearnedHand$Guild" "men" "I" "UnlearnedHand")
set_option maxRecDepth 100000 in
theorem am_v50 : am_u50 ∈ am_G := am_m1 50 rfl rfl
def am_u51 : Cond := (Cond.fieldLinkNest "UnlearnedHand$Deeds" (85 : Nat) "UnlearnedHand$Guild" "men" "I" "UnlearnedHand")
set_option maxRecDepth 100000 in
theorem am_v51 : am_u51 ∈ am_G := am_m1 51 rfl rfl
def am_u52 : Cond := (Cond.fieldLinkNest "UnlearnedHand" (188 : Nat) "UnlearnedHand$Guild" "men" "I" "UnlearnedHand")
set_option maxRecDepth 100000 in
theorem am_v52 : am_u52 ∈ am_G := am_m1 52 rfl rfl
def am_u53 : Cond := (Cond.fieldLink "UnlearnedHand$Guild" (43 : Nat) "UnlearnedHand$Guild" "smells" "I")
set_option maxRecDepth 100000 in
theorem am_v53 : am_u53 ∈ am_G := am_m1 53 rfl rfl
def am_u54 : Cond := (Cond.fieldLinkNest "UnlearnedHand$Reckoning" (72 : Nat) "UnlearnedHand$Guild" "smells" "I" "UnlearnedHand")
set_option maxRecDepth 100000 in
theorem am_v54 : am_u54 ∈ am_G := am_m1 54 rfl rfl
def am_u55 : Cond := (Cond.fieldLinkNest "UnlearnedHand" (380 : Nat) "UnlearnedHand$Guild" "smells" "I" "UnlearnedHand")
set_option maxRecDepth 100000 in
theorem am_v55 : am_u55 ∈ am_G := am_m1 55 rfl rfl
def am_u56 : Cond := (Cond.fieldLink "UnlearnedHand$Guild" (46 : Nat) "UnlearnedHand$Guild" "doneCount" "I")
set_option maxRecDepth 100000 in
theorem am_v56 : am_u56 ∈ am_G := am_m1 56 rfl rfl
def am_u57 : Cond := (Cond.fieldLinkNest "UnlearnedHand$Reckoning" (55 : Nat) "UnlearnedHand$Guild" "doneCount" "I" "UnlearnedHand")
set_option maxRecDepth 100000 in
theorem am_v57 : am_u57 ∈ am_G := am_m1 57 rfl rfl
def am_u58 : Cond := (Cond.fieldLinkNest "UnlearnedHand" (324 : Nat) "UnlearnedHand$Guild" "doneCount" "I" "UnlearnedHand")
set_option maxRecDepth 100000 in
theorem am_v58 : am_u58 ∈ am_G := am_m1 58 rfl rfl
def am_u59 : Cond := (Cond.fieldLink "UnlearnedHand$Guild" (49 : Nat) "UnlearnedHand$Guild" "doneRights" "I")
set_option maxRecDepth 100000 in
theorem am_v59 : am_u59 ∈ am_G := am_m1 59 rfl rfl
def am_u60 : Cond := (Cond.fieldLink "UnlearnedHand$Guild" (52 : Nat) "UnlearnedHand$Guild" "allowed" "I")
set_option maxRecDepth 100000 in
theorem am_v60 : am_u60 ∈ am_G := am_m1 60 rfl rfl
def am_u61 : Cond := (Cond.fieldLinkNest "UnlearnedHand$Deeds" (55 : Nat) "UnlearnedHand$Guild" "allowed" "I" "UnlearnedHand")
set_option maxRecDepth 100000 in
theorem am_v61 : am_u61 ∈ am_G := am_m1 61 rfl rfl
def am_u62 : Cond := (Cond.fieldLinkNest "UnlearnedHand" (120 : Nat) "UnlearnedHand$Guild" "allowed" "I" "UnlearnedHand")
set_option maxRecDepth 100000 in
theorem am_v62 : am_u62 ∈ am_G := am_m1 62 rfl rfl
def am_u63 : Cond := (Cond.fieldLink "UnlearnedHand$Guild" (55 : Nat) "UnlearnedHand$Guild" "texts" "I")
set_option maxRecDepth 100000 in
theorem am_v63 : am_u63 ∈ am_G := am_m1 63 rfl rfl
def am_u64 : Cond := (Cond.fieldLinkNest "UnlearnedHand" (218 : Nat) "UnlearnedHand$Guild" "texts" "I" "UnlearnedHand")
set_option maxRecDepth 100000 in
theorem am_v64 : am_u64 ∈ am_G := am_m1 64 rfl rfl
def am_u65 : Cond := (Cond.fieldLink "UnlearnedHand$Guild" (27 : Nat) "UnlearnedHand$Guild" "ruling" "I")
set_option maxRecDepth 100000 in
theorem am_v65 : am_u65 ∈ am_G := am_m1 65 rfl rfl
def am_u66 : Cond := (Cond.fieldLinkNest "UnlearnedHand$Laws" (40 : Nat) "UnlearnedHand$Guild" "ruling" "I" "UnlearnedHand")
set_option maxRecDepth 100000 in
theorem am_v66 : am_u66 ∈ am_G := am_m1 66 rfl rfl
def am_u67 : Cond := (Cond.fieldLinkNest "UnlearnedHand" (238 : Nat) "UnlearnedHand$Guild" "ruling" "I" "UnlearnedHand")
set_option maxRecDepth 100000 in
theorem am_v67 : am_u67 ∈ am_G := am_m1 67 rfl rfl
def am_u96 : Cond := (Cond.classLink "UnlearnedHand" (10 : Nat) "UnlearnedHand$Hands")
set_option maxRecDepth 100000 in
theorem am_v96 : am_u96 ∈ am_G := am_m1 96 rfl rfl
def am_u98 : Cond := (Cond.methodLink "UnlearnedHand" (12 : Nat) ({ cls := "UnlearnedHand$Hands", name := "<init>", desc := "()V" } : Jvm.MethodName))
set_option maxRecDepth 100000 in
theorem am_v98 : am_u98 ∈ am_G := am_m1 98 rfl rfl
def am_u101 : Cond := (Cond.methodLink "UnlearnedHand$Hands" (3 : Nat) ({ cls := "java/lang/Object", name := "<init>", desc := "()V" } : Jvm.MethodName))
set_option maxRecDepth 100000 in
theorem am_v101 : am_u101 ∈ am_G := am_m1 101 rfl rfl
def am_u102 : Cond := (Cond.fieldLink "UnlearnedHand$Hands" (9 : Nat) "UnlearnedHand$Hands" "right" "[I")
set_option maxRecDepth 100000 in
theorem am_v102 : am_u102 ∈ am_G := am_m1 102 rfl rfl
def am_u103 : Cond := (Cond.fieldLinkNest "UnlearnedHand$Laws" (66 : Nat) "UnlearnedHand$Hands" "right" "[I" "UnlearnedHand")
set_option maxRecDepth 100000 in
theorem am_v103 : am_u103 ∈ am_G := am_m1 103 rfl rfl
def am_u104 : Cond := (Cond.fieldLink "UnlearnedHand$Hands" (15 : Nat) "UnlearnedHand$Hands" "wrong" "[I")
set_option maxRecDepth 100000 in
theorem am_v104 : am_u104 ∈ am_G := am_m1 104 rfl rfl
def am_u105 : Cond := (Cond.fieldLinkNest "UnlearnedHand$Laws" (71 : Nat) "UnlearnedHand$Hands" "wrong" "[I" "UnlearnedHand")
set_option maxRecDepth 100000 in
theorem am_v105 : am_u105 ∈ am_G := am_m1 105 rfl rfl
def am_u106 : Cond := (Cond.fieldLink "UnlearnedHand$Hands" (18 : Nat) "UnlearnedHand$Hands" "best" "[I")
set_option maxRecDepth 100000 in
theorem am_v106 : am_u106 ∈ am_G := am_m1 106 rfl rfl
def am_u107 : Cond := (Cond.fieldLink "UnlearnedHand$Hands" (21 : Nat) "UnlearnedHand$Hands" "songs" "[I")
set_option maxRecDepth 100000 in
theorem am_v107 : am_u107 ∈ am_G := am_m1 107 rfl rfl
def am_u108 : Cond := (Cond.fieldLinkNest "UnlearnedHand$Laws" (80 : Nat) "UnlearnedHand$Hands" "songs" "[I" "UnlearnedHand")
set_option maxRecDepth 100000 in
theorem am_v108 : am_u108 ∈ am_G := am_m1 108 rfl rfl
def am_u109 : Cond := (Cond.fieldLink "UnlearnedHand$Hands" (24 : Nat) "UnlearnedHand$Hands" "tied" "[I")
set_option maxRecDepth 100000 in
theorem am_v109 : am_u109 ∈ am_G := am_m1 109 rfl rfl
def am_u110 : Cond := (Cond.fieldLinkNest "UnlearnedHand$Laws" (83 : Nat) "UnlearnedHand$Hands" "tied" "[I" "UnlearnedHand")
set_option maxRecDepth 100000 in
theorem am_v110 : am_u110 ∈ am_G := am_m1 110 rfl rfl
def am_u111 : Cond := (Cond.fieldLink "UnlearnedHand$Hands" (37 : Nat) "UnlearnedHand$Hands" "free" "I")
set_option maxRecDepth 100000 in
theorem am_v111 : am_u111 ∈ am_G := am_m1 111 rfl rfl
def am_u112 : Cond := (Cond.fieldLink "UnlearnedHand$Hands" (40 : Nat) "UnlearnedHand$Hands" "day" "I")
set_option maxRecDepth 100000 in
theorem am_v112 : am_u112 ∈ am_G := am_m1 112 rfl rfl
def am_u113 : Cond := (Cond.fieldLinkNest "UnlearnedHand$Deeds" (76 : Nat) "UnlearnedHand$Hands" "day" "I" "UnlearnedHand")
set_option maxRecDepth 100000 in
theorem am_v113 : am_u113 ∈ am_G := am_m1 113 rfl rfl
def am_u114 : Cond := (Cond.fieldLinkNest "UnlearnedHand$Laws" (77 : Nat) "UnlearnedHand$Hands" "day" "I" "UnlearnedHand")
set_option maxRecDepth 100000 in
theorem am_v114 : am_u114 ∈ am_G := am_m1 114 rfl rfl
def am_u115 : Cond := (Cond.fieldLinkNest "UnlearnedHand$Foresight" (82 : Nat) "UnlearnedHand$Hands" "day" "I" "UnlearnedHand")
set_option maxRecDepth 100000 in
theorem am_v115 : am_u115 ∈ am_G := am_m1 115 rfl rfl
def am_u116 : Cond := (Cond.fieldLinkNest "UnlearnedHand" (182 : Nat) "UnlearnedHand$Hands" "day" "I" "UnlearnedHand")
set_option maxRecDepth 100000 in
theorem am_v116 : am_u116 ∈ am_G := am_m1 116 rfl rfl
def am_u117 : Cond := (Cond.fieldLink "UnlearnedHand$Hands" (27 : Nat) "UnlearnedHand$Hands" "x" "I")
set_option maxRecDepth 100000 in
theorem am_v117 : am_u117 ∈ am_G := am_m1 117 rfl rfl
def am_u118 : Cond := (Cond.fieldLinkNest "UnlearnedHand$Deeds" (105 : Nat) "UnlearnedHand$Hands" "x" "I" "UnlearnedHand")
set_option maxRecDepth 100000 in
theorem am_v118 : am_u118 ∈ am_G := am_m1 118 rfl rfl
def am_u119 : Cond := (Cond.fieldLinkNest "UnlearnedHand" (206 : Nat) "UnlearnedHand$Hands" "x" "I" "UnlearnedHand")
set_option maxRecDepth 100000 in
theorem am_v119 : am_u119 ∈ am_G := am_m1 119 rfl rfl
def am_u137 : Cond := (Cond.classLink "UnlearnedHand" (15 : Nat) "UnlearnedHand$Script")
set_option maxRecDepth 100000 in
theorem am_v137 : am_u137 ∈ am_G := am_m1 137 rfl rfl
def am_u140 : Cond := (Cond.methodLinkNest "UnlearnedHand" (17 : Nat) ({ cls := "UnlearnedHand$Script", name := "<init>", desc := "()V" } : Jvm.MethodName) "UnlearnedHand")
set_option maxRecDepth 100000 in
theorem am_v140 : am_u140 ∈ am_G := am_m1 140 rfl rfl
def am_u143 : Cond := (Cond.methodLink "UnlearnedHand$Script" (3 : Nat) ({ cls := "java/lang/Object", name := "<init>", desc := "()V" } : Jvm.MethodName))
set_option maxRecDepth 100000 in
theorem am_v143 : am_u143 ∈ am_G := am_m1 143 rfl rfl
def am_u144 : Cond := (Cond.fieldLink "UnlearnedHand$Script" (9 : Nat) "UnlearnedHand$Script" "code" "[I")
set_option maxRecDepth 100000 in
theorem am_v144 : am_u144 ∈ am_G := am_m1 144 rfl rfl
def am_u145 : Cond := (Cond.fieldLinkNest "UnlearnedHand$Laws" (86 : Nat) "UnlearnedHand$Script" "code" "[I" "UnlearnedHand")
set_option maxRecDepth 100000 in
theorem am_v145 : am_u145 ∈ am_G := am_m1 145 rfl rfl
def am_u146 : Cond := (Cond.fieldLink "UnlearnedHand$Script" (27 : Nat) "UnlearnedHand$Script" "codes" "I")
set_option maxRecDepth 100000 in
theorem am_v146 : am_u146 ∈ am_G := am_m1 146 rfl rfl
def am_u147 : Cond := (Cond.fieldLink "UnlearnedHand$Script" (15 : Nat) "UnlearnedHand$Script" "lawFrom" "[I")
set_option maxRecDepth 100000 in
theorem am_v147 : am_u147 ∈ am_G := am_m1 147 rfl rfl
def am_u148 : Cond := (Cond.fieldLinkNest "UnlearnedHand$Laws" (53 : Nat) "UnlearnedHand$Script" "lawFrom" "[I" "UnlearnedHand")
set_option maxRecDepth 100000 in
theorem am_v148 : am_u148 ∈ am_G := am_m1 148 rfl rfl
def am_u149 : Cond := (Cond.fieldLink "UnlearnedHand$Script" (18 : Nat) "UnlearnedHand$Script" "lawTo" "[I")
set_option maxRecDepth 100000 in
theorem am_v149 : am_u149 ∈ am_G := am_m1 149 rfl rfl
def am_u150 : Cond := (Cond.fieldLinkNest "UnlearnedHand$Laws" (56 : Nat) "UnlearnedHand$Script" "lawTo" "[I" "UnlearnedHand")
set_option maxRecDepth 100000 in
theorem am_v150 : am_u150 ∈ am_G := am_m1 150 rfl rfl
def am_u151 : Cond := (Cond.fieldLink "UnlearnedHand$Script" (21 : Nat) "UnlearnedHand$Script" "kind" "[I")
set_option maxRecDepth 100000 in
theorem am_v151 : am_u151 ∈ am_G := am_m1 151 rfl rfl
def am_u152 : Cond := (Cond.fieldLink "UnlearnedHand$Script" (24 : Nat) "UnlearnedHand$Script" "number" "[I")
set_option maxRecDepth 100000 in
theorem am_v152 : am_u152 ∈ am_G := am_m1 152 rfl rfl
def am_u153 : Cond := (Cond.fieldLink "UnlearnedHand$Script" (31 : Nat) "UnlearnedHand$Script" "clauses" "I")
set_option maxRecDepth 100000 in
theorem am_v153 : am_u153 ∈ am_G := am_m1 153 rfl rfl
def am_u154 : Cond := (Cond.fieldLinkNest "UnlearnedHand$Reader" (115 : Nat) "UnlearnedHand$Script" "clauses" "I" "UnlearnedHand")
set_option maxRecDepth 100000 in
theorem am_v154 : am_u154 ∈ am_G := am_m1 154 rfl rfl
def am_u155 : Cond := (Cond.fieldLinkNest "UnlearnedHand" (241 : Nat) "UnlearnedHand$Script" "clauses" "I" "UnlearnedHand")
set_option maxRecDepth 100000 in
theorem am_v155 : am_u155 ∈ am_G := am_m1 155 rfl rfl
def am_u171 : Cond := (Cond.classLink "UnlearnedHand" (18 : Nat) "UnlearnedHand$Laws")
set_option maxRecDepth 100000 in
theorem am_v171 : am_u171 ∈ am_G := am_m1 171 rfl rfl
def am_u173 : Cond := (Cond.methodLink "UnlearnedHand" (20 : Nat) ({ cls := "UnlearnedHand$Laws", name := "<init>", desc := "(LUnlearnedHand$Guild;[LUnlearnedHand$Script;)V" } : Jvm.MethodName))
set_option maxRecDepth 100000 in
theorem am_v173 : am_u173 ∈ am_G := am_m1 173 rfl rfl
def am_u176 : Cond := (Cond.methodLink "UnlearnedHand$Laws" (3 : Nat) ({ cls := "java/lang/Object", name := "<init>", desc := "()V" } : Jvm.MethodName))
set_option maxRecDepth 100000 in
theorem am_v176 : am_u176 ∈ am_G := am_m1 176 rfl rfl
def am_u177 : Cond := (Cond.fieldLink "UnlearnedHand$Laws" (18 : Nat) "UnlearnedHand$Laws" "guild" "LUnlearnedHand$Guild;")
set_option maxRecDepth 100000 in
theorem am_v177 : am_u177 ∈ am_G := am_m1 177 rfl rfl
def am_u178 : Cond := (Cond.fieldLink "UnlearnedHand$Laws" (22 : Nat) "UnlearnedHand$Laws" "scripts" "[LUnlearnedHand$Script;")
set_option maxRecDepth 100000 in
theorem am_v178 : am_u178 ∈ am_G := am_m1 178 rfl rfl
def am_u179 : Cond := (Cond.fieldLink "UnlearnedHand$Laws" (9 : Nat) "UnlearnedHand$Laws" "name" "[I")
set_option maxRecDepth 100000 in
theorem am_v179 : am_u179 ∈ am_G := am_m1 179 rfl rfl
def am_u180 : Cond := (Cond.fieldLink "UnlearnedHand$Laws" (15 : Nat) "UnlearnedHand$Laws" "stack" "[I")
set_option maxRecDepth 100000 in
theorem am_v180 : am_u180 ∈ am_G := am_m1 180 rfl rfl
def am_u190 : Cond := (Cond.classLink "UnlearnedHand" (23 : Nat) "UnlearnedHand$Deeds")
set_option maxRecDepth 100000 in
theorem am_v190 : am_u190 ∈ am_G := am_m1 190 rfl rfl
def am_u192 : Cond := (Cond.methodLink "UnlearnedHand" (25 : Nat) ({ cls := "UnlearnedHand$Deeds", name := "<init>", desc := "(LUnlearnedHand$Guild;LUnlearnedHand$Laws;)V" } : Jvm.MethodName))
set_option maxRecDepth 100000 in
theorem am_v192 : am_u192 ∈ am_G := am_m1 192 rfl rfl
def am_u195 : Cond := (Cond.methodLink "UnlearnedHand$Deeds" (3 : Nat) ({ cls := "java/lang/Object", name := "<init>", desc := "()V" } : Jvm.MethodName))
set_option maxRecDepth 100000 in
theorem am_v195 : am_u195 ∈ am_G := am_m1 195 rfl rfl
def am_u196 : Cond := (Cond.fieldLink "UnlearnedHand$Deeds" (9 : Nat) "UnlearnedHand$Deeds" "guild" "LUnlearnedHand$Guild;")
set_option maxRecDepth 100000 in
theorem am_v196 : am_u196 ∈ am_G := am_m1 196 rfl rfl
def am_u197 : Cond := (Cond.fieldLink "UnlearnedHand$Deeds" (15 : Nat) "UnlearnedHand$Deeds" "laws" "LUnlearnedHand$Laws;")
set_option maxRecDepth 100000 in
theorem am_v197 : am_u197 ∈ am_G := am_m1 197 rfl rfl
def am_u203 : Cond := (Cond.classLink "UnlearnedHand" (42 : Nat) "UnlearnedHand$Steps")
set_option maxRecDepth 100000 in
theorem am_v203 : am_u203 ∈ am_G := am_m1 203 rfl rfl
def am_u205 : Cond := (Cond.methodLink "UnlearnedHand" (44 : Nat) ({ cls := "UnlearnedHand$Steps", name := "<init>", desc := "()V" } : Jvm.MethodName))
set_option maxRecDepth 100000 in
theorem am_v205 : am_u205 ∈ am_G := am_m1 205 rfl rfl
def am_u208 : Cond := (Cond.methodLink "UnlearnedHand$Steps" (3 : Nat) ({ cls := "java/lang/Object", name := "<init>", desc := "()V" } : Jvm.MethodName))
set_option maxRecDepth 100000 in
theorem am_v208 : am_u208 ∈ am_G := am_m1 208 rfl rfl
def am_u209 : Cond := (Cond.classLink "UnlearnedHand$Steps" (9 : Nat) "UnlearnedHand$Hands")
set_option maxRecDepth 100000 in
theorem am_v209 : am_u209 ∈ am_G := am_m1 209 rfl rfl
def am_u211 : Cond := (Cond.methodLink "UnlearnedHand$Steps" (17 : Nat) ({ cls := "UnlearnedHand$Hands", name := "<init>", desc := "()V" } : Jvm.MethodName))
set_option maxRecDepth 100000 in
theorem am_v211 : am_u211 ∈ am_G := am_m1 211 rfl rfl
def am_u212 : Cond := (Cond.fieldLink "UnlearnedHand$Steps" (11 : Nat) "UnlearnedHand$Steps" "ring" "[LUnlearnedHand$Hands;")
set_option maxRecDepth 100000 in
theorem am_v212 : am_u212 ∈ am_G := am_m1 212 rfl rfl
def am_u213 : Cond := (Cond.fieldLink "UnlearnedHand$Steps" (22 : Nat) "UnlearnedHand$Steps" "next" "I")
set_option maxRecDepth 100000 in
theorem am_v213 : am_u213 ∈ am_G := am_m1 213 rfl rfl
def am_u214 : Cond := (Cond.fieldLink "UnlearnedHand$Steps" (26 : Nat) "UnlearnedHand$Steps" "count" "I")
set_option maxRecDepth 100000 in
theorem am_v214 : am_u214 ∈ am_G := am_m1 214 rfl rfl
def am_u215 : Cond := (Cond.fieldLinkNest "UnlearnedHand" (383 : Nat) "UnlearnedHand$Steps" "count" "I" "UnlearnedHand")
set_option maxRecDepth 100000 in
theorem am_v215 : am_u215 ∈ am_G := am_m1 215 rfl rfl
def am_u223 : Cond := (Cond.classLink "UnlearnedHand" (60 : Nat) "UnlearnedHand$Reader")
set_option maxRecDepth 100000 in
theorem am_v223 : am_u223 ∈ am_G := am_m1 223 rfl rfl
def am_u225 : Cond := (Cond.methodLinkNest "UnlearnedHand" (62 : Nat) ({ cls := "UnlearnedHand$Reader", name := "<init>", desc := "()V" } : Jvm.MethodName) "UnlearnedHand")
set_option maxRecDepth 100000 in
theorem am_v225 : am_u225 ∈ am_G := am_m1 225 rfl rfl
def am_u228 : Cond := (Cond.methodLink "UnlearnedHand$Reader" (3 : Nat) ({ cls := "java/lang/Object", name := "<init>", desc := "()V" } : Jvm.MethodName))
set_option maxRecDepth 100000 in
theorem am_v228 : am_u228 ∈ am_G := am_m1 228 rfl rfl
def am_u229 : Cond := (Cond.fieldLink "UnlearnedHand$Reader" (9 : Nat) "UnlearnedHand$Reader" "tokenKind" "[I")
set_option maxRecDepth 100000 in
theorem am_v229 : am_u229 ∈ am_G := am_m1 229 rfl rfl
def am_u230 : Cond := (Cond.fieldLink "UnlearnedHand$Reader" (15 : Nat) "UnlearnedHand$Reader" "tokenNumber" "[I")
set_option maxRecDepth 100000 in
theorem am_v230 : am_u230 ∈ am_G := am_m1 230 rfl rfl
def am_u231 : Cond := (Cond.fieldLink "UnlearnedHand$Reader" (18 : Nat) "UnlearnedHand$Reader" "tokenPlace" "[I")
set_option maxRecDepth 100000 in
theorem am_v231 : am_u231 ∈ am_G := am_m1 231 rfl rfl
def am_u232 : Cond := (Cond.fieldLink "UnlearnedHand$Reader" (48 : Nat) "UnlearnedHand$Reader" "tokens" "I")
set_option maxRecDepth 100000 in
theorem am_v232 : am_u232 ∈ am_G := am_m1 232 rfl rfl
def am_u233 : Cond := (Cond.fieldLink "UnlearnedHand$Reader" (45 : Nat) "UnlearnedHand$Reader" "at" "I")
set_option maxRecDepth 100000 in
theorem am_v233 : am_u233 ∈ am_G := am_m1 233 rfl rfl
def am_u234 : Cond := (Cond.fieldLink "UnlearnedHand$Reader" (121 : Nat) "UnlearnedHand$Reader" "law" "I")
set_option maxRecDepth 100000 in
theorem am_v234 : am_u234 ∈ am_G := am_m1 234 rfl rfl
def am_u235 : Cond := (Cond.fieldLink "UnlearnedHand$Reader" (32 : Nat) "UnlearnedHand$Reader" "script" "LUnlearnedHand$Script;")
set_option maxRecDepth 100000 in
theorem am_v235 : am_u235 ∈ am_G := am_m1 235 rfl rfl
def am_u236 : Cond := (Cond.fieldLink "UnlearnedHand$Reader" (25 : Nat) "UnlearnedHand$Reader" "hasRead" "Z")
set_option maxRecDepth 100000 in
theorem am_v236 : am_u236 ∈ am_G := am_m1 236 rfl rfl
def am_u237 : Cond := (Cond.fieldLinkNest "UnlearnedHand" (225 : Nat) "UnlearnedHand$Reader" "hasRead" "Z" "UnlearnedHand")
set_option maxRecDepth 100000 in
theorem am_v237 : am_u237 ∈ am_G := am_m1 237 rfl rfl
def am_u238 : Cond := (Cond.fieldLink "UnlearnedHand$Reader" (29 : Nat) "UnlearnedHand$Reader" "fault" "I")
set_option maxRecDepth 100000 in
theorem am_v238 : am_u238 ∈ am_G := am_m1 238 rfl rfl
def am_u239 : Cond := (Cond.fieldLinkNest "UnlearnedHand" (229 : Nat) "UnlearnedHand$Reader" "fault" "I" "UnlearnedHand")
set_option maxRecDepth 100000 in
theorem am_v239 : am_u239 ∈ am_G := am_m1 239 rfl rfl
def am_u240 : Cond := (Cond.fieldLink "UnlearnedHand$Reader" (21 : Nat) "UnlearnedHand$Reader" "faultPlace" "I")
set_option maxRecDepth 100000 in
theorem am_v240 : am_u240 ∈ am_G := am_m2 0 rfl rfl
def am_u241 : Cond := (Cond.fieldLinkNest "UnlearnedHand" (232 : Nat) "UnlearnedHand$Reader" "faultPlace" "I" "UnlearnedHand")
set_option maxRecDepth 100000 in
theorem am_v241 : am_u241 ∈ am_G := am_m2 1 rfl rfl
def am_u264 : Cond := (Cond.classLink "UnlearnedHand" (75 : Nat) "UnlearnedHand$Foresight")
set_option maxRecDepth 100000 in
theorem am_v264 : am_u264 ∈ am_G := am_m2 24 rfl rfl
def am_u266 : Cond := (Cond.methodLink "UnlearnedHand" (77 : Nat) ({ cls := "UnlearnedHand$Foresight", name := "<init>", desc := "(LUnlearnedHand$Guild;LUnlearnedHand$Hands;LUnlearnedHand$Laws;LUnlearnedHand$Deeds;)V" } : Jvm.MethodName))
set_option maxRecDepth 100000 in
theorem am_v266 : am_u266 ∈ am_G := am_m2 26 rfl rfl
def am_u269 : Cond := (Cond.methodLink "UnlearnedHand$Foresight" (3 : Nat) ({ cls := "java/lang/Object", name := "<init>", desc := "()V" } : Jvm.MethodName))
set_option maxRecDepth 100000 in
theorem am_v269 : am_u269 ∈ am_G := am_m2 29 rfl rfl
def am_u270 : Cond := (Cond.classLink "UnlearnedHand$Foresight" (9 : Nat) "UnlearnedHand$Hands")
set_option maxRecDepth 100000 in
theorem am_v270 : am_u270 ∈ am_G := am_m2 30 rfl rfl
def am_u271 : Cond := (Cond.methodLink "UnlearnedHand$Foresight" (11 : Nat) ({ cls := "UnlearnedHand$Hands", name := "<init>", desc := "()V" } : Jvm.MethodName))
set_option maxRecDepth 100000 in
theorem am_v271 : am_u271 ∈ am_G := am_m2 31 rfl rfl
def am_u272 : Cond := (Cond.classLink "UnlearnedHand$Foresight" (18 : Nat) "[[I")
set_option maxRecDepth 100000 in
theorem am_v272 : am_u272 ∈ am_G := am_m2 32 rfl rfl
def am_u274 : Cond := (Cond.fieldLink "UnlearnedHand$Foresight" (30 : Nat) "UnlearnedHand$Foresight" "guild" "LUnlearnedHand$Guild;")
set_option maxRecDepth 100000 in
theorem am_v274 : am_u274 ∈ am_G := am_m2 34 rfl rfl
def am_u275 : Cond := (Cond.fieldLink "UnlearnedHand$Foresight" (34 : Nat) "UnlearnedHand$Foresight" "hands" "LUnlearnedHand$Hands;")
set_option maxRecDepth 100000 in
theorem am_v275 : am_u275 ∈ am_G := am_m2 35 rfl rfl
def am_u276 : Cond := (Cond.fieldLink "UnlearnedHand$Foresight" (37 : Nat) "UnlearnedHand$Foresight" "laws" "LUnlearnedHand$Laws;")
set_option maxRecDepth 100000 in
theorem am_v276 : am_u276 ∈ am_G := am_m2 36 rfl rfl
def am_u277 : Cond := (Cond.fieldLink "UnlearnedHand$Foresight" (41 : Nat) "UnlearnedHand$Foresight" "deeds" "LUnlearnedHand$Deeds;")
set_option maxRecDepth 100000 in
theorem am_v277 : am_u277 ∈ am_G := am_m2 37 rfl rfl
def am_u278 : Cond := (Cond.fieldLink "UnlearnedHand$Foresight" (12 : Nat) "UnlearnedHand$Foresight" "then" "LUnlearnedHand$Hands;")
set_option maxRecDepth 100000 in
theorem am_v278 : am_u278 ∈ am_G := am_m2 38 rfl rfl
def am_u279 : Cond := (Cond.fieldLink "UnlearnedHand$Foresight" (20 : Nat) "UnlearnedHand$Foresight" "kept" "[[I")
set_option maxRecDepth 100000 in
theorem am_v279 : am_u279 ∈ am_G := am_m2 39 rfl rfl
def am_u280 : Cond := (Cond.fieldLink "UnlearnedHand$Foresight" (23 : Nat) "UnlearnedHand$Foresight" "plan" "[I")
set_option maxRecDepth 100000 in
theorem am_v280 : am_u280 ∈ am_G := am_m2 40 rfl rfl
def am_u281 : Cond := (Cond.fieldLink "UnlearnedHand$Foresight" (27 : Nat) "UnlearnedHand$Foresight" "bestPlan" "[I")
set_option maxRecDepth 100000 in
theorem am_v281 : am_u281 ∈ am_G := am_m2 41 rfl rfl
def am_u299 : Cond := (Cond.classLink "UnlearnedHand" (84 : Nat) "UnlearnedHand$Reckoning")
set_option maxRecDepth 100000 in
theorem am_v299 : am_u299 ∈ am_G := am_m2 59 rfl rfl
def am_u301 : Cond := (Cond.methodLink "UnlearnedHand" (86 : Nat) ({ cls := "UnlearnedHand$Reckoning", name := "<init>", desc := "(LUnlearnedHand$Guild;LUnlearnedHand$Hands;LUnlearnedHand$Laws;)V" } : Jvm.MethodName))
set_option maxRecDepth 100000 in
theorem am_v301 : am_u301 ∈ am_G := am_m2 61 rfl rfl
def am_u304 : Cond := (Cond.methodLink "UnlearnedHand$Reckoning" (3 : Nat) ({ cls := "java/lang/Object", name := "<init>", desc := "()V" } : Jvm.MethodName))
set_option maxRecDepth 100000 in
theorem am_v304 : am_u304 ∈ am_G := am_m2 64 rfl rfl
def am_u305 : Cond := (Cond.fieldLink "UnlearnedHand$Reckoning" (15 : Nat) "UnlearnedHand$Reckoning" "guild" "LUnlearnedHand$Guild;")
set_option maxRecDepth 100000 in
theorem am_v305 : am_u305 ∈ am_G := am_m2 65 rfl rfl
def am_u306 : Cond := (Cond.fieldLink "UnlearnedHand$Reckoning" (19 : Nat) "UnlearnedHand$Reckoning" "hands" "LUnlearnedHand$Hands;")
set_option maxRecDepth 100000 in
theorem am_v306 : am_u306 ∈ am_G := am_m2 66 rfl rfl
def am_u307 : Cond := (Cond.fieldLink "UnlearnedHand$Reckoning" (23 : Nat) "UnlearnedHand$Reckoning" "laws" "LUnlearnedHand$Laws;")
set_option maxRecDepth 100000 in
theorem am_v307 : am_u307 ∈ am_G := am_m2 67 rfl rfl
def am_u308 : Cond := (Cond.fieldLink "UnlearnedHand$Reckoning" (9 : Nat) "UnlearnedHand$Reckoning" "turnsHad" "[I")
set_option maxRecDepth 100000 in
theorem am_v308 : am_u308 ∈ am_G := am_m2 68 rfl rfl
def am_u318 : Cond := (Cond.classLink "UnlearnedHand" (93 : Nat) "UnlearnedHand$Orders")
set_option maxRecDepth 100000 in
theorem am_v318 : am_u318 ∈ am_G := am_m2 78 rfl rfl
def am_u320 : Cond := (Cond.methodLink "UnlearnedHand" (95 : Nat) ({ cls := "UnlearnedHand$Orders", name := "<init>", desc := "(LUnlearnedHand$Guild;LUnlearnedHand$Hands;)V" } : Jvm.MethodName))
set_option maxRecDepth 100000 in
theorem am_v320 : am_u320 ∈ am_G := am_m2 80 rfl rfl
def am_u323 : Cond := (Cond.methodLink "UnlearnedHand$Orders" (3 : Nat) ({ cls := "java/lang/Object", name := "<init>", desc := "()V" } : Jvm.MethodName))
set_option maxRecDepth 100000 in
theorem am_v323 : am_u323 ∈ am_G := am_m2 83 rfl rfl
def am_u324 : Cond := (Cond.fieldLink "UnlearnedHand$Orders" (18 : Nat) "UnlearnedHand$Orders" "guild" "LUnlearnedHand$Guild;")
set_option maxRecDepth 100000 in
theorem am_v324 : am_u324 ∈ am_G := am_m2 84 rfl rfl
def am_u325 : Cond := (Cond.fieldLink "UnlearnedHand$Orders" (22 : Nat) "UnlearnedHand$Orders" "hands" "LUnlearnedHand$Hands;")
set_option maxRecDepth 100000 in
theorem am_v325 : am_u325 ∈ am_G := am_m2 85 rfl rfl
def am_u326 : Cond := (Cond.fieldLink "UnlearnedHand$Orders" (11 : Nat) "UnlearnedHand$Orders" "order" "[I")
set_option maxRecDepth 100000 in
theorem am_v326 : am_u326 ∈ am_G := am_m2 86 rfl rfl
def am_u327 : Cond := (Cond.fieldLink "UnlearnedHand$Orders" (15 : Nat) "UnlearnedHand$Orders" "bestOrder" "[I")
set_option maxRecDepth 100000 in
theorem am_v327 : am_u327 ∈ am_G := am_m2 87 rfl rfl
def am_u328 : Cond := (Cond.fieldLink "UnlearnedHand$Orders" (46 : Nat) "UnlearnedHand$Orders" "size" "I")
set_option maxRecDepth 100000 in
theorem am_v328 : am_u328 ∈ am_G := am_m2 88 rfl rfl
def am_u340 : Cond := (Cond.fieldLink "UnlearnedHand" (28 : Nat) "UnlearnedHand" "guild" "LUnlearnedHand$Guild;")
set_option maxRecDepth 100000 in
theorem am_v340 : am_u340 ∈ am_G := am_m2 100 rfl rfl
def am_u341 : Cond := (Cond.fieldLink "UnlearnedHand" (32 : Nat) "UnlearnedHand" "keptGuild" "LUnlearnedHand$Guild;")
set_option maxRecDepth 100000 in
theorem am_v341 : am_u341 ∈ am_G := am_m2 101 rfl rfl
def am_u342 : Cond := (Cond.fieldLink "UnlearnedHand" (35 : Nat) "UnlearnedHand" "hands" "LUnlearnedHand$Hands;")
set_option maxRecDepth 100000 in
theorem am_v342 : am_u342 ∈ am_G := am_m2 102 rfl rfl
def am_u343 : Cond := (Cond.fieldLink "UnlearnedHand" (39 : Nat) "UnlearnedHand" "keptHands" "LUnlearnedHand$Hands;")
set_option maxRecDepth 100000 in
theorem am_v343 : am_u343 ∈ am_G := am_m2 103 rfl rfl
def am_u344 : Cond := (Cond.fieldLink "UnlearnedHand" (45 : Nat) "UnlearnedHand" "steps" "LUnlearnedHand$Steps;")
set_option maxRecDepth 100000 in
theorem am_v344 : am_u344 ∈ am_G := am_m2 104 rfl rfl
def am_u345 : Cond := (Cond.fieldLink "UnlearnedHand" (49 : Nat) "UnlearnedHand" "keptSteps" "LUnlearnedHand$Steps;")
set_option maxRecDepth 100000 in
theorem am_v345 : am_u345 ∈ am_G := am_m2 105 rfl rfl
def am_u346 : Cond := (Cond.fieldLink "UnlearnedHand" (52 : Nat) "UnlearnedHand" "scripts" "[LUnlearnedHand$Script;")
set_option maxRecDepth 100000 in
theorem am_v346 : am_u346 ∈ am_G := am_m2 106 rfl rfl
def am_u347 : Cond := (Cond.fieldLink "UnlearnedHand" (56 : Nat) "UnlearnedHand" "tape" "[C")
set_option maxRecDepth 100000 in
theorem am_v347 : am_u347 ∈ am_G := am_m2 107 rfl rfl
def am_u348 : Cond := (Cond.fieldLink "UnlearnedHand" (212 : Nat) "UnlearnedHand" "tapeLength" "I")
set_option maxRecDepth 100000 in
theorem am_v348 : am_u348 ∈ am_G := am_m2 108 rfl rfl
def am_u349 : Cond := (Cond.fieldLink "UnlearnedHand" (63 : Nat) "UnlearnedHand" "reader" "LUnlearnedHand$Reader;")
set_option maxRecDepth 100000 in
theorem am_v349 : am_u349 ∈ am_G := am_m2 109 rfl rfl
def am_u350 : Cond := (Cond.fieldLink "UnlearnedHand" (67 : Nat) "UnlearnedHand" "laws" "LUnlearnedHand$Laws;")
set_option maxRecDepth 100000 in
theorem am_v350 : am_u350 ∈ am_G := am_m2 110 rfl rfl
def am_u351 : Cond := (Cond.fieldLink "UnlearnedHand" (71 : Nat) "UnlearnedHand" "deeds" "LUnlearnedHand$Deeds;")
set_option maxRecDepth 100000 in
theorem am_v351 : am_u351 ∈ am_G := am_m2 111 rfl rfl
def am_u352 : Cond := (Cond.fieldLink "UnlearnedHand" (80 : Nat) "UnlearnedHand" "foresight" "LUnlearnedHand$Foresight;")
set_option maxRecDepth 100000 in
theorem am_v352 : am_u352 ∈ am_G := am_m2 112 rfl rfl
def am_u353 : Cond := (Cond.fieldLink "UnlearnedHand" (89 : Nat) "UnlearnedHand" "reckoning" "LUnlearnedHand$Reckoning;")
set_option maxRecDepth 100000 in
theorem am_v353 : am_u353 ∈ am_G := am_m2 113 rfl rfl
def am_u354 : Cond := (Cond.fieldLink "UnlearnedHand" (98 : Nat) "UnlearnedHand" "orders" "LUnlearnedHand$Orders;")
set_option maxRecDepth 100000 in
theorem am_v354 : am_u354 ∈ am_G := am_m2 114 rfl rfl
def am_u386 : Cond := (Cond.methodLink "UnlearnedHandLaw" (13 : Nat) ({ cls := "UnlearnedHand", name := "turn", desc := "(I)I" } : Jvm.MethodName))
set_option maxRecDepth 100000 in
theorem am_v386 : am_u386 ∈ am_G := am_m2 146 rfl rfl
def am_u390 : Cond := (Cond.methodLink "UnlearnedHand" (102 : Nat) ({ cls := "UnlearnedHand$Guild", name := "addTurn", desc := "(I)I" } : Jvm.MethodName))
set_option maxRecDepth 100000 in
theorem am_v390 : am_u390 ∈ am_G := am_m2 150 rfl rfl
def am_u394 : Cond := (Cond.methodLink "UnlearnedHandLaw" (18 : Nat) ({ cls := "UnlearnedHand", name := "leads", desc := "(II)Z" } : Jvm.MethodName))
set_option maxRecDepth 100000 in
theorem am_v394 : am_u394 ∈ am_G := am_m2 154 rfl rfl
def am_u398 : Cond := (Cond.methodLink "UnlearnedHand" (106 : Nat) ({ cls := "UnlearnedHand$Guild", name := "addLead", desc := "(II)Z" } : Jvm.MethodName))
set_option maxRecDepth 100000 in
theorem am_v398 : am_u398 ∈ am_G := am_m2 158 rfl rfl
def am_u402 : Cond := (Cond.methodLink "UnlearnedHand$Guild" (62 : Nat) ({ cls := "UnlearnedHand$Guild", name := "tellsTurn", desc := "(I)Z" } : Jvm.MethodName))
set_option maxRecDepth 100000 in
theorem am_v402 : am_u402 ∈ am_G := am_m2 162 rfl rfl
def am_u406 : Cond := (Cond.methodLink "UnlearnedHandLaw" (23 : Nat) ({ cls := "UnlearnedHand", name := "man", desc := "(I)I" } : Jvm.MethodName))
set_option maxRecDepth 100000 in
theorem am_v406 : am_u406 ∈ am_G := am_m2 166 rfl rfl
def am_u410 : Cond := (Cond.methodLink "UnlearnedHand" (110 : Nat) ({ cls := "UnlearnedHand$Guild", name := "addMan", desc := "(I)I" } : Jvm.MethodName))
set_option maxRecDepth 100000 in
theorem am_v410 : am_u410 ∈ am_G := am_m2 170 rfl rfl
def am_u414 : Cond := (Cond.methodLink "UnlearnedHandLaw" (27 : Nat) ({ cls := "UnlearnedHand", name := "smell", desc := "(I)I" } : Jvm.MethodName))
set_option maxRecDepth 100000 in
theorem am_v414 : am_u414 ∈ am_G := am_m2 174 rfl rfl
def am_u418 : Cond := (Cond.methodLink "UnlearnedHand" (113 : Nat) ({ cls := "UnlearnedHand$Guild", name := "tellsTurns", desc := "(I)Z" } : Jvm.MethodName))
set_option maxRecDepth 100000 in
theorem am_v418 : am_u418 ∈ am_G := am_m2 178 rfl rfl
def am_u422 : Cond := (Cond.methodLink "UnlearnedHand$Guild" (65 : Nat) ({ cls := "UnlearnedHand$Guild", name := "allTurns", desc := "()I" } : Jvm.MethodName))
set_option maxRecDepth 100000 in
theorem am_v422 : am_u422 ∈ am_G := am_m2 182 rfl rfl
def am_u426 : Cond := (Cond.methodLink "UnlearnedHand" (117 : Nat) ({ cls := "UnlearnedHand$Guild", name := "addSmell", desc := "(I)I" } : Jvm.MethodName))
set_option maxRecDepth 100000 in
theorem am_v426 : am_u426 ∈ am_G := am_m2 186 rfl rfl
def am_u430 : Cond := (Cond.methodLink "UnlearnedHandLaw" (31 : Nat) ({ cls := "UnlearnedHand", name := "allow", desc := "(I)Z" } : Jvm.MethodName))
set_option maxRecDepth 100000 in
theorem am_v430 : am_u430 ∈ am_G := am_m2 190 rfl rfl
def am_u434 : Cond := (Cond.methodLink "UnlearnedHandLaw" (36 : Nat) ({ cls := "UnlearnedHand", name := "teach", desc := "(III)I" } : Jvm.MethodName))
set_option maxRecDepth 100000 in
theorem am_v434 : am_u434 ∈ am_G := am_m2 194 rfl rfl
def am_u438 : Cond := (Cond.methodLink "UnlearnedHand" (124 : Nat) ({ cls := "UnlearnedHand$Guild", name := "tellsBoth", desc := "(II)Z" } : Jvm.MethodName))
set_option maxRecDepth 100000 in
theorem am_v438 : am_u438 ∈ am_G := am_m2 198 rfl rfl
def am_u442 : Cond := (Cond.methodLink "UnlearnedHand$Guild" (58 : Nat) ({ cls := "UnlearnedHand$Guild", name := "tellsMan", desc := "(I)Z" } : Jvm.MethodName))
set_option maxRecDepth 100000 in
theorem am_v442 : am_u442 ∈ am_G := am_m2 202 rfl rfl
def am_u446 : Cond := (Cond.methodLink "UnlearnedHand" (127 : Nat) ({ cls := "UnlearnedHand$Hands", name := "isTeachable", desc := "(II)Z" } : Jvm.MethodName))
set_option maxRecDepth 100000 in
theorem am_v446 : am_u446 ∈ am_G := am_m2 206 rfl rfl
def am_u450 : Cond := (Cond.methodLink "UnlearnedHand$Hands" (47 : Nat) ({ cls := "UnlearnedHand$Hands", name := "isFree", desc := "(I)Z" } : Jvm.MethodName))
set_option maxRecDepth 100000 in
theorem am_v450 : am_u450 ∈ am_G := am_m2 210 rfl rfl
def am_u454 : Cond := (Cond.methodLink "UnlearnedHand$Hands" (51 : Nat) ({ cls := "UnlearnedHand$Hands", name := "tiedAt", desc := "(I)I" } : Jvm.MethodName))
set_option maxRecDepth 100000 in
theorem am_v454 : am_u454 ∈ am_G := am_m2 214 rfl rfl
def am_u458 : Cond := (Cond.methodLink "UnlearnedHand" (130 : Nat) ({ cls := "UnlearnedHand$Steps", name := "keep", desc := "(LUnlearnedHand$Hands;)V" } : Jvm.MethodName))
set_option maxRecDepth 100000 in
theorem am_v458 : am_u458 ∈ am_G := am_m2 218 rfl rfl
def am_u462 : Cond := (Cond.methodLink "UnlearnedHand$Steps" (18 : Nat) ({ cls := "UnlearnedHand$Hands", name := "copyFrom", desc := "(LUnlearnedHand$Hands;)V" } : Jvm.MethodName))
set_option maxRecDepth 100000 in
theorem am_v462 : am_u462 ∈ am_G := am_m2 222 rfl rfl
def am_u466 : Cond := (Cond.methodLink "UnlearnedHand$Hands" (31 : Nat) ({ cls := "java/lang/System", name := "arraycopy", desc := "(Ljava/lang/Object;ILjava/lang/Object;II)V" } : Jvm.MethodName))
set_option maxRecDepth 100000 in
theorem am_v466 : am_u466 ∈ am_G := am_m2 226 rfl rfl
def am_u469 : Cond := (Cond.methodLink "UnlearnedHand$Steps" (29 : Nat) ({ cls := "java/lang/Math", name := "min", desc := "(II)I" } : Jvm.MethodName))
set_option maxRecDepth 100000 in
theorem am_v469 : am_u469 ∈ am_G := am_m2 229 rfl rfl
def am_u472 : Cond := (Cond.methodLink "UnlearnedHand" (134 : Nat) ({ cls := "UnlearnedHand$Hands", name := "rightOf", desc := "(II)I" } : Jvm.MethodName))
set_option maxRecDepth 100000 in
theorem am_v472 : am_u472 ∈ am_G := am_m2 232 rfl rfl
def am_u476 : Cond := (Cond.methodLink "UnlearnedHand$Hands" (43 : Nat) ({ cls := "UnlearnedHand$Hands", name := "placeOf", desc := "(II)I" } : Jvm.MethodName))
set_option maxRecDepth 100000 in
theorem am_v476 : am_u476 ∈ am_G := am_m2 236 rfl rfl
def am_u479 : Cond := (Cond.methodLink "UnlearnedHand" (138 : Nat) ({ cls := "UnlearnedHand$Hands", name := "setRight", desc := "(III)V" } : Jvm.MethodName))
set_option maxRecDepth 100000 in
theorem am_v479 : am_u479 ∈ am_G := am_m2 239 rfl rfl
def am_u483 : Cond := (Cond.methodLink "UnlearnedHand$Hands" (55 : Nat) ({ cls := "java/lang/Math", name := "max", desc := "(II)I" } : Jvm.MethodName))
set_option maxRecDepth 100000 in
theorem am_v483 : am_u483 ∈ am_G := am_m3 3 rfl rfl
def am_u486 : Cond := (Cond.methodLink "UnlearnedHandLaw" (41 : Nat) ({ cls := "UnlearnedHand", name := "mislead", desc := "(III)I" } : Jvm.MethodName))
set_option maxRecDepth 100000 in
theorem am_v486 : am_u486 ∈ am_G := am_m3 6 rfl rfl
def am_u490 : Cond := (Cond.methodLink "UnlearnedHand" (142 : Nat) ({ cls := "UnlearnedHand$Hands", name := "isFree", desc := "(I)Z" } : Jvm.MethodName))
set_option maxRecDepth 100000 in
theorem am_v490 : am_u490 ∈ am_G := am_m3 10 rfl rfl
def am_u491 : Cond := (Cond.methodLink "UnlearnedHand" (145 : Nat) ({ cls := "UnlearnedHand$Deeds", name := "misleadMan", desc := "(LUnlearnedHand$Hands;III)V" } : Jvm.MethodName))
set_option maxRecDepth 100000 in
theorem am_v491 : am_u491 ∈ am_G := am_m3 11 rfl rfl
def am_u495 : Cond := (Cond.methodLink "UnlearnedHand$Deeds" (19 : Nat) ({ cls := "UnlearnedHand$Hands", name := "wrongOf", desc := "(II)I" } : Jvm.MethodName))
set_option maxRecDepth 100000 in
theorem am_v495 : am_u495 ∈ am_G := am_m3 15 rfl rfl
def am_u499 : Cond := (Cond.methodLink "UnlearnedHand$Deeds" (25 : Nat) ({ cls := "UnlearnedHand$Hands", name := "setWrong", desc := "(III)V" } : Jvm.MethodName))
set_option maxRecDepth 100000 in
theorem am_v499 : am_u499 ∈ am_G := am_m3 19 rfl rfl
def am_u503 : Cond := (Cond.methodLink "UnlearnedHand$Deeds" (29 : Nat) ({ cls := "UnlearnedHand$Hands", name := "isSung", desc := "(II)Z" } : Jvm.MethodName))
set_option maxRecDepth 100000 in
theorem am_v503 : am_u503 ∈ am_G := am_m3 23 rfl rfl
def am_u507 : Cond := (Cond.methodLink "UnlearnedHand$Deeds" (33 : Nat) ({ cls := "UnlearnedHand$Laws", name := "valueOf", desc := "(ILUnlearnedHand$Hands;III)I" } : Jvm.MethodName))
set_option maxRecDepth 100000 in
theorem am_v507 : am_u507 ∈ am_G := am_m3 27 rfl rfl
def am_u511 : Cond := (Cond.methodLink "UnlearnedHand$Laws" (36 : Nat) ({ cls := "UnlearnedHand$Laws", name := "setNames", desc := "(LUnlearnedHand$Hands;III)V" } : Jvm.MethodName))
set_option maxRecDepth 100000 in
theorem am_v511 : am_u511 ∈ am_G := am_m3 31 rfl rfl
def am_u515 : Cond := (Cond.methodLink "UnlearnedHand$Laws" (43 : Nat) ({ cls := "UnlearnedHand$Script", name := "hasLaw", desc := "(I)Z" } : Jvm.MethodName))
set_option maxRecDepth 100000 in
theorem am_v515 : am_u515 ∈ am_G := am_m3 35 rfl rfl
def am_u519 : Cond := (Cond.methodLink "UnlearnedHand$Laws" (49 : Nat) ({ cls := "UnlearnedHand$Laws", name := "valueWithout", desc := "(II)I" } : Jvm.MethodName))
set_option maxRecDepth 100000 in
theorem am_v519 : am_u519 ∈ am_G := am_m3 39 rfl rfl
def am_u523 : Cond := (Cond.methodLink "UnlearnedHand$Laws" (59 : Nat) ({ cls := "UnlearnedHand$Laws", name := "run", desc := "(LUnlearnedHand$Script;II)I" } : Jvm.MethodName))
set_option maxRecDepth 100000 in
theorem am_v523 : am_u523 ∈ am_G := am_m3 43 rfl rfl
def am_u527 : Cond := (Cond.methodLink "UnlearnedHand$Laws" (89 : Nat) ({ cls := "UnlearnedHand$Laws", name := "ofOne", desc := "(II)I" } : Jvm.MethodName))
set_option maxRecDepth 100000 in
theorem am_v527 : am_u527 ∈ am_G := am_m3 47 rfl rfl
def am_u530 : Cond := (Cond.methodLink "UnlearnedHand$Laws" (92 : Nat) ({ cls := "UnlearnedHand$Laws", name := "ofTwo", desc := "(III)I" } : Jvm.MethodName))
set_option maxRecDepth 100000 in
theorem am_v530 : am_u530 ∈ am_G := am_m3 50 rfl rfl
def am_u533 : Cond := (Cond.constantLong "UnlearnedHand$Laws" (96 : Nat) (1000000 : Int64))
set_option maxRecDepth 100000 in
theorem am_v533 : am_u533 ∈ am_G := am_m3 53 rfl rfl
def am_u534 : Cond := (Cond.constant "UnlearnedHand$Laws" (98 : Nat) (1000000 : Int32))
set_option maxRecDepth 100000 in
theorem am_v534 : am_u534 ∈ am_G := am_m3 54 rfl rfl
def am_u535 : Cond := (Cond.constantLong "UnlearnedHand$Laws" (99 : Nat) (-1000000 : Int64))
set_option maxRecDepth 100000 in
theorem am_v535 : am_u535 ∈ am_G := am_m3 55 rfl rfl
def am_u536 : Cond := (Cond.constant "UnlearnedHand$Laws" (101 : Nat) (-1000000 : Int32))
set_option maxRecDepth 100000 in
theorem am_v536 : am_u536 ∈ am_G := am_m3 56 rfl rfl
def am_u537 : Cond := (Cond.methodLink "UnlearnedHand$Deeds" (39 : Nat) ({ cls := "UnlearnedHand$Hands", name := "rightOf", desc := "(II)I" } : Jvm.MethodName))
set_option maxRecDepth 100000 in
theorem am_v537 : am_u537 ∈ am_G := am_m3 57 rfl rfl
def am_u538 : Cond := (Cond.methodLink "UnlearnedHand$Deeds" (42 : Nat) ({ cls := "UnlearnedHand$Hands", name := "setRight", desc := "(III)V" } : Jvm.MethodName))
set_option maxRecDepth 100000 in
theorem am_v538 : am_u538 ∈ am_G := am_m3 58 rfl rfl
def am_u539 : Cond := (Cond.methodLink "UnlearnedHandLaw" (45 : Nat) ({ cls := "UnlearnedHand", name := "drink", desc := "(I)Z" } : Jvm.MethodName))
set_option maxRecDepth 100000 in
theorem am_v539 : am_u539 ∈ am_G := am_m3 59 rfl rfl
def am_u543 : Cond := (Cond.methodLink "UnlearnedHand" (149 : Nat) ({ cls := "UnlearnedHand$Guild", name := "tellsMan", desc := "(I)Z" } : Jvm.MethodName))
set_option maxRecDepth 100000 in
theorem am_v543 : am_u543 ∈ am_G := am_m3 63 rfl rfl
def am_u544 : Cond := (Cond.methodLink "UnlearnedHand" (152 : Nat) ({ cls := "UnlearnedHand$Hands", name := "drinkAway", desc := "(I)V" } : Jvm.MethodName))
set_option maxRecDepth 100000 in
theorem am_v544 : am_u544 ∈ am_G := am_m3 64 rfl rfl
def am_u548 : Cond := (Cond.methodLink "UnlearnedHand$Hands" (60 : Nat) ({ cls := "UnlearnedHand$Hands", name := "isSung", desc := "(II)Z" } : Jvm.MethodName))
set_option maxRecDepth 100000 in
theorem am_v548 : am_u548 ∈ am_G := am_m3 68 rfl rfl
def am_u549 : Cond := (Cond.methodLink "UnlearnedHand$Hands" (64 : Nat) ({ cls := "UnlearnedHand$Hands", name := "rightOf", desc := "(II)I" } : Jvm.MethodName))
set_option maxRecDepth 100000 in
theorem am_v549 : am_u549 ∈ am_G := am_m3 69 rfl rfl
def am_u550 : Cond := (Cond.methodLink "UnlearnedHand$Hands" (67 : Nat) ({ cls := "UnlearnedHand$Hands", name := "setRight", desc := "(III)V" } : Jvm.MethodName))
set_option maxRecDepth 100000 in
theorem am_v550 : am_u550 ∈ am_G := am_m3 70 rfl rfl
def am_u551 : Cond := (Cond.methodLink "UnlearnedHandLaw" (49 : Nat) ({ cls := "UnlearnedHand", name := "sing", desc := "(IIZ)Z" } : Jvm.MethodName))
set_option maxRecDepth 100000 in
theorem am_v551 : am_u551 ∈ am_G := am_m3 71 rfl rfl
def am_u555 : Cond := (Cond.methodLink "UnlearnedHand" (156 : Nat) ({ cls := "UnlearnedHand$Hands", name := "isSung", desc := "(II)Z" } : Jvm.MethodName))
set_option maxRecDepth 100000 in
theorem am_v555 : am_u555 ∈ am_G := am_m3 75 rfl rfl
def am_u556 : Cond := (Cond.methodLink "UnlearnedHand" (159 : Nat) ({ cls := "UnlearnedHand$Hands", name := "turnSong", desc := "(II)V" } : Jvm.MethodName))
set_option maxRecDepth 100000 in
theorem am_v556 : am_u556 ∈ am_G := am_m3 76 rfl rfl
def am_u560 : Cond := (Cond.methodLink "UnlearnedHandLaw" (54 : Nat) ({ cls := "UnlearnedHand", name := "tie", desc := "(II)Z" } : Jvm.MethodName))
set_option maxRecDepth 100000 in
theorem am_v560 : am_u560 ∈ am_G := am_m3 80 rfl rfl
def am_u564 : Cond := (Cond.methodLink "UnlearnedHand" (163 : Nat) ({ cls := "UnlearnedHand$Hands", name := "tiedAt", desc := "(I)I" } : Jvm.MethodName))
set_option maxRecDepth 100000 in
theorem am_v564 : am_u564 ∈ am_G := am_m3 84 rfl rfl
def am_u565 : Cond := (Cond.methodLink "UnlearnedHand" (166 : Nat) ({ cls := "UnlearnedHand$Hands", name := "setTied", desc := "(II)V" } : Jvm.MethodName))
set_option maxRecDepth 100000 in
theorem am_v565 : am_u565 ∈ am_G := am_m3 85 rfl rfl
def am_u569 : Cond := (Cond.methodLink "UnlearnedHandLaw" (58 : Nat) ({ cls := "UnlearnedHand", name := "smelt", desc := "(II)I" } : Jvm.MethodName))
set_option maxRecDepth 100000 in
theorem am_v569 : am_u569 ∈ am_G := am_m3 89 rfl rfl
def am_u573 : Cond := (Cond.methodLink "UnlearnedHand" (169 : Nat) ({ cls := "UnlearnedHand$Guild", name := "tellsSmell", desc := "(I)Z" } : Jvm.MethodName))
set_option maxRecDepth 100000 in
theorem am_v573 : am_u573 ∈ am_G := am_m3 93 rfl rfl
def am_u577 : Cond := (Cond.methodLink "UnlearnedHand" (172 : Nat) ({ cls := "UnlearnedHand$Guild", name := "comesBack", desc := "(I)I" } : Jvm.MethodName))
set_option maxRecDepth 100000 in
theorem am_v577 : am_u577 ∈ am_G := am_m3 97 rfl rfl
def am_u581 : Cond := (Cond.methodLink "UnlearnedHand" (175 : Nat) ({ cls := "UnlearnedHand$Hands", name := "bringBack", desc := "(II)V" } : Jvm.MethodName))
set_option maxRecDepth 100000 in
theorem am_v581 : am_u581 ∈ am_G := am_m3 101 rfl rfl
def am_u585 : Cond := (Cond.methodLink "UnlearnedHand$Hands" (71 : Nat) ({ cls := "UnlearnedHand$Hands", name := "bestOf", desc := "(II)I" } : Jvm.MethodName))
set_option maxRecDepth 100000 in
theorem am_v585 : am_u585 ∈ am_G := am_m3 105 rfl rfl
def am_u589 : Cond := (Cond.methodLink "UnlearnedHandLaw" (63 : Nat) ({ cls := "UnlearnedHand", name := "tried", desc := "(I)I" } : Jvm.MethodName))
set_option maxRecDepth 100000 in
theorem am_v589 : am_u589 ∈ am_G := am_m3 109 rfl rfl
def am_u593 : Cond := (Cond.methodLink "UnlearnedHand" (178 : Nat) ({ cls := "UnlearnedHand$Deeds", name := "tryMan", desc := "(LUnlearnedHand$Hands;I)I" } : Jvm.MethodName))
set_option maxRecDepth 100000 in
theorem am_v593 : am_u593 ∈ am_G := am_m3 113 rfl rfl
def am_u597 : Cond := (Cond.methodLink "UnlearnedHand$Deeds" (45 : Nat) ({ cls := "UnlearnedHand$Laws", name := "turnsOf", desc := "(LUnlearnedHand$Hands;I)I" } : Jvm.MethodName))
set_option maxRecDepth 100000 in
theorem am_v597 : am_u597 ∈ am_G := am_m3 117 rfl rfl
def am_u601 : Cond := (Cond.methodLink "UnlearnedHand$Laws" (32 : Nat) ({ cls := "UnlearnedHand$Laws", name := "valueOf", desc := "(ILUnlearnedHand$Hands;III)I" } : Jvm.MethodName))
set_option maxRecDepth 100000 in
theorem am_v601 : am_u601 ∈ am_G := am_m3 121 rfl rfl
def am_u602 : Cond := (Cond.methodLink "UnlearnedHand$Deeds" (49 : Nat) ({ cls := "java/lang/Integer", name := "bitCount", desc := "(I)I" } : Jvm.MethodName))
set_option maxRecDepth 100000 in
theorem am_v602 : am_u602 ∈ am_G := am_m3 122 rfl rfl
def am_u605 : Cond := (Cond.constant "java/lang/Integer" (265 : Nat) (1431655765 : Int32))
set_option maxRecDepth 100000 in
theorem am_v605 : am_u605 ∈ am_G := am_m3 125 rfl rfl
def am_u606 : Cond := (Cond.constant "java/lang/Integer" (266 : Nat) (858993459 : Int32))
set_option maxRecDepth 100000 in
theorem am_v606 : am_u606 ∈ am_G := am_m3 126 rfl rfl
def am_u607 : Cond := (Cond.constant "java/lang/Integer" (267 : Nat) (252645135 : Int32))
set_option maxRecDepth 100000 in
theorem am_v607 : am_u607 ∈ am_G := am_m3 127 rfl rfl
def am_u608 : Cond := (Cond.methodLink "UnlearnedHand$Deeds" (61 : Nat) ({ cls := "UnlearnedHand$Hands", name := "setFree", desc := "(I)V" } : Jvm.MethodName))
set_option maxRecDepth 100000 in
theorem am_v608 : am_u608 ∈ am_G := am_m3 128 rfl rfl
def am_u612 : Cond := (Cond.methodLink "UnlearnedHandLaw" (67 : Nat) ({ cls := "UnlearnedHand", name := "night", desc := "(I)I" } : Jvm.MethodName))
set_option maxRecDepth 100000 in
theorem am_v612 : am_u612 ∈ am_G := am_m3 132 rfl rfl
def am_u616 : Cond := (Cond.methodLink "UnlearnedHand" (185 : Nat) ({ cls := "UnlearnedHand", name := "passNights", desc := "(I)Z" } : Jvm.MethodName))
set_option maxRecDepth 100000 in
theorem am_v616 : am_u616 ∈ am_G := am_m3 136 rfl rfl
def am_u620 : Cond := (Cond.methodLink "UnlearnedHand" (194 : Nat) ({ cls := "java/lang/Math", name := "min", desc := "(II)I" } : Jvm.MethodName))
set_option maxRecDepth 100000 in
theorem am_v620 : am_u620 ∈ am_G := am_m3 140 rfl rfl
def am_u621 : Cond := (Cond.methodLink "UnlearnedHand" (199 : Nat) ({ cls := "UnlearnedHand$Deeds", name := "passNight", desc := "(LUnlearnedHand$Hands;II)V" } : Jvm.MethodName))
set_option maxRecDepth 100000 in
theorem am_v621 : am_u621 ∈ am_G := am_m3 141 rfl rfl
def am_u625 : Cond := (Cond.methodLink "UnlearnedHand$Deeds" (68 : Nat) ({ cls := "UnlearnedHand$Hands", name := "isFree", desc := "(I)Z" } : Jvm.MethodName))
set_option maxRecDepth 100000 in
theorem am_v625 : am_u625 ∈ am_G := am_m3 145 rfl rfl
def am_u626 : Cond := (Cond.methodLink "UnlearnedHand$Deeds" (72 : Nat) ({ cls := "UnlearnedHand$Deeds", name := "fade", desc := "(LUnlearnedHand$Hands;II)V" } : Jvm.MethodName))
set_option maxRecDepth 100000 in
theorem am_v626 : am_u626 ∈ am_G := am_m3 146 rfl rfl
def am_u630 : Cond := (Cond.methodLink "UnlearnedHand$Deeds" (79 : Nat) ({ cls := "UnlearnedHand$Deeds", name := "tryMan", desc := "(LUnlearnedHand$Hands;I)I" } : Jvm.MethodName))
set_option maxRecDepth 100000 in
theorem am_v630 : am_u630 ∈ am_G := am_m3 150 rfl rfl
def am_u631 : Cond := (Cond.methodLink "UnlearnedHand" (191 : Nat) ({ cls := "UnlearnedHand$Hands", name := "countFree", desc := "(I)I" } : Jvm.MethodName))
set_option maxRecDepth 100000 in
theorem am_v631 : am_u631 ∈ am_G := am_m3 151 rfl rfl
def am_u635 : Cond := (Cond.methodLink "UnlearnedHandLaw" (71 : Nat) ({ cls := "UnlearnedHand", name := "winters", desc := "(II)I" } : Jvm.MethodName))
set_option maxRecDepth 100000 in
theorem am_v635 : am_u635 ∈ am_G := am_m3 155 rfl rfl
def am_u639 : Cond := (Cond.methodLink "UnlearnedHand" (209 : Nat) ({ cls := "UnlearnedHand$Deeds", name := "drawDeed", desc := "(LUnlearnedHand$Hands;)V" } : Jvm.MethodName))
set_option maxRecDepth 100000 in
theorem am_v639 : am_u639 ∈ am_G := am_m3 159 rfl rfl
def am_u643 : Cond := (Cond.methodLink "UnlearnedHand$Deeds" (82 : Nat) ({ cls := "UnlearnedHand$Deeds", name := "draw", desc := "(LUnlearnedHand$Hands;I)I" } : Jvm.MethodName))
set_option maxRecDepth 100000 in
theorem am_v643 : am_u643 ∈ am_G := am_m3 163 rfl rfl
def am_u646 : Cond := (Cond.methodLink "UnlearnedHand$Deeds" (88 : Nat) ({ cls := "UnlearnedHand$Deeds", name := "passNight", desc := "(LUnlearnedHand$Hands;II)V" } : Jvm.MethodName))
set_option maxRecDepth 100000 in
theorem am_v646 : am_u646 ∈ am_G := am_m3 166 rfl rfl
def am_u647 : Cond := (Cond.methodLink "UnlearnedHand$Deeds" (91 : Nat) ({ cls := "UnlearnedHand$Hands", name := "drinkAway", desc := "(I)V" } : Jvm.MethodName))
set_option maxRecDepth 100000 in
theorem am_v647 : am_u647 ∈ am_G := am_m3 167 rfl rfl
def am_u648 : Cond := (Cond.methodLink "UnlearnedHand$Deeds" (94 : Nat) ({ cls := "UnlearnedHand$Hands", name := "turnSong", desc := "(II)V" } : Jvm.MethodName))
set_option maxRecDepth 100000 in
theorem am_v648 : am_u648 ∈ am_G := am_m3 168 rfl rfl
def am_u649 : Cond := (Cond.methodLink "UnlearnedHand$Deeds" (98 : Nat) ({ cls := "UnlearnedHand$Deeds", name := "misleadMan", desc := "(LUnlearnedHand$Hands;III)V" } : Jvm.MethodName))
set_option maxRecDepth 100000 in
theorem am_v649 : am_u649 ∈ am_G := am_m3 169 rfl rfl
def am_u650 : Cond := (Cond.methodLink "UnlearnedHand$Deeds" (102 : Nat) ({ cls := "UnlearnedHand$Hands", name := "isTeachable", desc := "(II)Z" } : Jvm.MethodName))
set_option maxRecDepth 100000 in
theorem am_v650 : am_u650 ∈ am_G := am_m3 170 rfl rfl
def am_u651 : Cond := (Cond.methodLink "UnlearnedHandLaw" (75 : Nat) ({ cls := "UnlearnedHand", name := "feed", desc := "(IIIII)I" } : Jvm.MethodName))
set_option maxRecDepth 100000 in
theorem am_v651 : am_u651 ∈ am_G := am_m3 171 rfl rfl
def am_u655 : Cond := (Cond.methodLink "UnlearnedHand" (215 : Nat) ({ cls := "UnlearnedHand", name := "feedFour", desc := "(I)V" } : Jvm.MethodName))
set_option maxRecDepth 100000 in
theorem am_v655 : am_u655 ∈ am_G := am_m3 175 rfl rfl
def am_u659 : Cond := (Cond.methodLink "UnlearnedHandLaw" (80 : Nat) ({ cls := "UnlearnedHand", name := "end", desc := "(I)I" } : Jvm.MethodName))
set_option maxRecDepth 100000 in
theorem am_v659 : am_u659 ∈ am_G := am_m3 179 rfl rfl
def am_u663 : Cond := (Cond.methodLink "UnlearnedHandLaw" (84 : Nat) ({ cls := "UnlearnedHand", name := "text", desc := "()I" } : Jvm.MethodName))
set_option maxRecDepth 100000 in
theorem am_v663 : am_u663 ∈ am_G := am_m3 183 rfl rfl
def am_u667 : Cond := (Cond.methodLink "UnlearnedHand" (221 : Nat) ({ cls := "UnlearnedHand$Reader", name := "read", desc := "([CILUnlearnedHand$Script;)Z" } : Jvm.MethodName))
set_option maxRecDepth 100000 in
theorem am_v667 : am_u667 ∈ am_G := am_m3 187 rfl rfl
def am_u671 : Cond := (Cond.methodLink "UnlearnedHand$Reader" (36 : Nat) ({ cls := "UnlearnedHand$Script", name := "clear", desc := "()V" } : Jvm.MethodName))
set_option maxRecDepth 100000 in
theorem am_v671 : am_u671 ∈ am_G := am_m3 191 rfl rfl
def am_u675 : Cond := (Cond.methodLink "UnlearnedHand$Reader" (41 : Nat) ({ cls := "UnlearnedHand$Reader", name := "findTokens", desc := "([CI)V" } : Jvm.MethodName))
set_option maxRecDepth 100000 in
theorem am_v675 : am_u675 ∈ am_G := am_m3 195 rfl rfl
def am_u679 : Cond := (Cond.methodLink "UnlearnedHand$Reader" (58 : Nat) ({ cls := "UnlearnedHand$Reader", name := "isLetter", desc := "(C)Z" } : Jvm.MethodName))
set_option maxRecDepth 100000 in
theorem am_v679 : am_u679 ∈ am_G := am_m3 199 rfl rfl
def am_u682 : Cond := (Cond.methodLink "UnlearnedHand$Reader" (62 : Nat) ({ cls := "UnlearnedHand$Reader", name := "wordToken", desc := "([CII)I" } : Jvm.MethodName))
set_option maxRecDepth 100000 in
theorem am_v682 : am_u682 ∈ am_G := am_m3 202 rfl rfl
def am_u686 : Cond := (Cond.methodLink "UnlearnedHand$Reader" (96 : Nat) ({ cls := "java/lang/String", name := "length", desc := "()I" } : Jvm.MethodName))
set_option maxRecDepth 100000 in
theorem am_v686 : am_u686 ∈ am_G := am_m3 206 rfl rfl
def am_u690 : Cond := (Cond.methodLink "java/lang/String" (335 : Nat) ({ cls := "java/lang/String", name := "coder", desc := "()B" } : Jvm.MethodName))
set_option maxRecDepth 100000 in
theorem am_v690 : am_u690 ∈ am_G := am_m3 210 rfl rfl
def am_u694 : Cond := (Cond.fieldLink "java/lang/String" (38 : Nat) "java/lang/String" "COMPACT_STRINGS" "Z")
set_option maxRecDepth 100000 in
theorem am_v694 : am_u694 ∈ am_G := am_m3 214 rfl rfl
def am_u696 : Cond := (Cond.methodLink "UnlearnedHand$Reader" (99 : Nat) ({ cls := "java/lang/String", name := "charAt", desc := "(I)C" } : Jvm.MethodName))
set_option maxRecDepth 100000 in
theorem am_v696 : am_u696 ∈ am_G := am_m3 216 rfl rfl
def am_u700 : Cond := (Cond.methodLink "java/lang/String" (492 : Nat) ({ cls := "java/lang/String", name := "isLatin1", desc := "()Z" } : Jvm.MethodName))
set_option maxRecDepth 100000 in
theorem am_v700 : am_u700 ∈ am_G := am_m3 220 rfl rfl
def am_u704 : Cond := (Cond.methodLink "java/lang/String" (495 : Nat) ({ cls := "java/lang/StringLatin1", name := "charAt", desc := "([BI)C" } : Jvm.MethodName))
set_option maxRecDepth 100000 in
theorem am_v704 : am_u704 ∈ am_G := am_m3 224 rfl rfl
def am_u707 : Cond := (Cond.methodLink "java/lang/StringLatin1" (9 : Nat) ({ cls := "java/lang/String", name := "checkIndex", desc := "(II)V" } : Jvm.MethodName))
set_option maxRecDepth 100000 in
theorem am_v707 : am_u707 ∈ am_G := am_m3 227 rfl rfl
def am_u710 : Cond := (Cond.fieldLink "java/lang/String" (1053 : Nat) "jdk/internal/util/Preconditions" "SIOOBE_FORMATTER" "Ljava/util/function/BiFunction;")
set_option maxRecDepth 100000 in
theorem am_v710 : am_u710 ∈ am_G := am_m3 230 rfl rfl
def am_u712 : Cond := (Cond.methodLink "java/lang/String" (1059 : Nat) ({ cls := "jdk/internal/util/Preconditions", name := "checkIndex", desc := "(IILjava/util/function/BiFunction;)I" } : Jvm.MethodName))
set_option maxRecDepth 100000 in
theorem am_v712 : am_u712 ∈ am_G := am_m3 232 rfl rfl
def am_u734 : Cond := (Cond.methodLink "UnlearnedHand$Reader" (103 : Nat) ({ cls := "UnlearnedHand$Reader", name := "isWordAt", desc := "(I[CII)Z" } : Jvm.MethodName))
set_option maxRecDepth 100000 in
theorem am_v734 : am_u734 ∈ am_G := am_m4 14 rfl rfl
def am_u737 : Cond := (Cond.methodLink "UnlearnedHand$Reader" (66 : Nat) ({ cls := "UnlearnedHand$Reader", name := "addToken", desc := "(III)V" } : Jvm.MethodName))
set_option maxRecDepth 100000 in
theorem am_v737 : am_u737 ∈ am_G := am_m4 17 rfl rfl
def am_u741 : Cond := (Cond.methodLink "UnlearnedHand$Reader" (70 : Nat) ({ cls := "UnlearnedHand$Reader", name := "isDigit", desc := "(C)Z" } : Jvm.MethodName))
set_option maxRecDepth 100000 in
theorem am_v741 : am_u741 ∈ am_G := am_m4 21 rfl rfl
def am_u744 : Cond := (Cond.methodLink "UnlearnedHand$Reader" (73 : Nat) ({ cls := "UnlearnedHand$Reader", name := "numberValue", desc := "([CII)I" } : Jvm.MethodName))
set_option maxRecDepth 100000 in
theorem am_v744 : am_u744 ∈ am_G := am_m4 24 rfl rfl
def am_u747 : Cond := (Cond.methodLink "UnlearnedHand$Reader" (80 : Nat) ({ cls := "java/lang/Math", name := "min", desc := "(II)I" } : Jvm.MethodName))
set_option maxRecDepth 100000 in
theorem am_v747 : am_u747 ∈ am_G := am_m4 27 rfl rfl
def am_u748 : Cond := (Cond.methodLink "UnlearnedHand$Reader" (76 : Nat) ({ cls := "UnlearnedHand$Reader", name := "signToken", desc := "(CC)I" } : Jvm.MethodName))
set_option maxRecDepth 100000 in
theorem am_v748 : am_u748 ∈ am_G := am_m4 28 rfl rfl
def am_u752 : Cond := (Cond.methodLink "UnlearnedHand$Reader" (88 : Nat) ({ cls := "java/lang/String", name := "indexOf", desc := "(I)I" } : Jvm.MethodName))
set_option maxRecDepth 100000 in
theorem am_v752 : am_u752 ∈ am_G := am_m4 32 rfl rfl
def am_u756 : Cond := (Cond.methodLink "java/lang/String" (633 : Nat) ({ cls := "java/lang/String", name := "indexOf", desc := "(II)I" } : Jvm.MethodName))
set_option maxRecDepth 100000 in
theorem am_v756 : am_u756 ∈ am_G := am_m4 36 rfl rfl
def am_u760 : Cond := (Cond.methodLink "java/lang/String" (505 : Nat) ({ cls := "java/lang/String", name := "length", desc := "()I" } : Jvm.MethodName))
set_option maxRecDepth 100000 in
theorem am_v760 : am_u760 ∈ am_G := am_m4 40 rfl rfl
def am_u761 : Cond := (Cond.methodLink "java/lang/String" (637 : Nat) ({ cls := "java/lang/StringLatin1", name := "indexOf", desc := "([BIII)I" } : Jvm.MethodName))
set_option maxRecDepth 100000 in
theorem am_v761 : am_u761 ∈ am_G := am_m4 41 rfl rfl
def am_u764 : Cond := (Cond.methodLink "java/lang/StringLatin1" (88 : Nat) ({ cls := "java/lang/StringLatin1", name := "canEncode", desc := "(I)Z" } : Jvm.MethodName))
set_option maxRecDepth 100000 in
theorem am_v764 : am_u764 ∈ am_G := am_m4 44 rfl rfl
def am_u767 : Cond := (Cond.methodLink "java/lang/StringLatin1" (92 : Nat) ({ cls := "java/lang/Math", name := "max", desc := "(II)I" } : Jvm.MethodName))
set_option maxRecDepth 100000 in
theorem am_v767 : am_u767 ∈ am_G := am_m4 47 rfl rfl
def am_u768 : Cond := (Cond.methodLink "java/lang/StringLatin1" (38 : Nat) ({ cls := "java/lang/Math", name := "min", desc := "(II)I" } : Jvm.MethodName))
set_option maxRecDepth 100000 in
theorem am_v768 : am_u768 ∈ am_G := am_m4 48 rfl rfl
def am_u769 : Cond := (Cond.methodLink "java/lang/StringLatin1" (95 : Nat) ({ cls := "java/lang/StringLatin1", name := "indexOfChar", desc := "([BIII)I" } : Jvm.MethodName))
set_option maxRecDepth 100000 in
theorem am_v769 : am_u769 ∈ am_G := am_m4 49 rfl rfl
def am_u807 : Cond := (Cond.methodLink "UnlearnedHand$Reader" (51 : Nat) ({ cls := "UnlearnedHand$Reader", name := "token", desc := "()I" } : Jvm.MethodName))
set_option maxRecDepth 100000 in
theorem am_v807 : am_u807 ∈ am_G := am_m4 87 rfl rfl
def am_u811 : Cond := (Cond.methodLink "UnlearnedHand$Reader" (55 : Nat) ({ cls := "UnlearnedHand$Reader", name := "readClause", desc := "()V" } : Jvm.MethodName))
set_option maxRecDepth 100000 in
theorem am_v811 : am_u811 ∈ am_G := am_m4 91 rfl rfl
def am_u815 : Cond := (Cond.methodLink "UnlearnedHand$Reader" (107 : Nat) ({ cls := "UnlearnedHand$Reader", name := "fail", desc := "(I)V" } : Jvm.MethodName))
set_option maxRecDepth 100000 in
theorem am_v815 : am_u815 ∈ am_G := am_m4 95 rfl rfl
def am_u819 : Cond := (Cond.methodLink "UnlearnedHand$Reader" (111 : Nat) ({ cls := "UnlearnedHand$Script", name := "hasLaw", desc := "(I)Z" } : Jvm.MethodName))
set_option maxRecDepth 100000 in
theorem am_v819 : am_u819 ∈ am_G := am_m4 99 rfl rfl
def am_u820 : Cond := (Cond.methodLink "UnlearnedHand$Reader" (118 : Nat) ({ cls := "UnlearnedHand$Script", name := "addClause", desc := "(I)V" } : Jvm.MethodName))
set_option maxRecDepth 100000 in
theorem am_v820 : am_u820 ∈ am_G := am_m4 100 rfl rfl
def am_u824 : Cond := (Cond.methodLink "UnlearnedHand$Reader" (124 : Nat) ({ cls := "UnlearnedHand$Script", name := "beginLaw", desc := "(I)V" } : Jvm.MethodName))
set_option maxRecDepth 100000 in
theorem am_v824 : am_u824 ∈ am_G := am_m4 104 rfl rfl
def am_u828 : Cond := (Cond.methodLink "UnlearnedHand$Reader" (127 : Nat) ({ cls := "UnlearnedHand$Reader", name := "readEither", desc := "()V" } : Jvm.MethodName))
set_option maxRecDepth 100000 in
theorem am_v828 : am_u828 ∈ am_G := am_m4 108 rfl rfl
def am_u832 : Cond := (Cond.methodLink "UnlearnedHand$Reader" (152 : Nat) ({ cls := "UnlearnedHand$Reader", name := "readAsk", desc := "()V" } : Jvm.MethodName))
set_option maxRecDepth 100000 in
theorem am_v832 : am_u832 ∈ am_G := am_m4 112 rfl rfl
def am_u836 : Cond := (Cond.methodLink "UnlearnedHand$Reader" (130 : Nat) ({ cls := "UnlearnedHand$Reader", name := "readSum", desc := "(I)V" } : Jvm.MethodName))
set_option maxRecDepth 100000 in
theorem am_v836 : am_u836 ∈ am_G := am_m4 116 rfl rfl
def am_u840 : Cond := (Cond.methodLink "UnlearnedHand$Reader" (158 : Nat) ({ cls := "UnlearnedHand$Reader", name := "readOne", desc := "(I)V" } : Jvm.MethodName))
set_option maxRecDepth 100000 in
theorem am_v840 : am_u840 ∈ am_G := am_m4 120 rfl rfl
def am_u844 : Cond := (Cond.methodLink "UnlearnedHand$Reader" (145 : Nat) ({ cls := "UnlearnedHand$Reader", name := "numberHere", desc := "()I" } : Jvm.MethodName))
set_option maxRecDepth 100000 in
theorem am_v844 : am_u844 ∈ am_G := am_m4 124 rfl rfl
def am_u848 : Cond := (Cond.methodLink "UnlearnedHand$Reader" (155 : Nat) ({ cls := "UnlearnedHand$Script", name := "addCode", desc := "(I)V" } : Jvm.MethodName))
set_option maxRecDepth 100000 in
theorem am_v848 : am_u848 ∈ am_G := am_m4 128 rfl rfl
def am_u852 : Cond := (Cond.methodLink "UnlearnedHand$Reader" (161 : Nat) ({ cls := "UnlearnedHand$Reader", name := "isNameOfLaw", desc := "(I)Z" } : Jvm.MethodName))
set_option maxRecDepth 100000 in
theorem am_v852 : am_u852 ∈ am_G := am_m4 132 rfl rfl
def am_u856 : Cond := (Cond.methodLink "UnlearnedHand$Reader" (133 : Nat) ({ cls := "UnlearnedHand$Reader", name := "readDeed", desc := "(I)V" } : Jvm.MethodName))
set_option maxRecDepth 100000 in
theorem am_v856 : am_u856 ∈ am_G := am_m4 136 rfl rfl
def am_u860 : Cond := (Cond.methodLink "UnlearnedHand$Reader" (142 : Nat) ({ cls := "UnlearnedHand$Reader", name := "readNumber", desc := "(III)V" } : Jvm.MethodName))
set_option maxRecDepth 100000 in
theorem am_v860 : am_u860 ∈ am_G := am_m4 140 rfl rfl
def am_u864 : Cond := (Cond.methodLink "UnlearnedHand$Reader" (148 : Nat) ({ cls := "UnlearnedHand$Script", name := "setNumber", desc := "(II)V" } : Jvm.MethodName))
set_option maxRecDepth 100000 in
theorem am_v864 : am_u864 ∈ am_G := am_m4 144 rfl rfl
def am_u868 : Cond := (Cond.methodLink "UnlearnedHand$Reader" (139 : Nat) ({ cls := "UnlearnedHand$Reader", name := "expect", desc := "(I)V" } : Jvm.MethodName))
set_option maxRecDepth 100000 in
theorem am_v868 : am_u868 ∈ am_G := am_m4 148 rfl rfl
def am_u872 : Cond := (Cond.methodLink "UnlearnedHand$Reader" (136 : Nat) ({ cls := "UnlearnedHand$Script", name := "endLaw", desc := "(I)V" } : Jvm.MethodName))
set_option maxRecDepth 100000 in
theorem am_v872 : am_u872 ∈ am_G := am_m4 152 rfl rfl
def am_u877 : Cond := (Cond.methodLink "UnlearnedHandLaw" (89 : Nat) ({ cls := "UnlearnedHand", name := "fault", desc := "(I)I" } : Jvm.MethodName))
set_option maxRecDepth 100000 in
theorem am_v877 : am_u877 ∈ am_G := am_m4 157 rfl rfl
def am_u881 : Cond := (Cond.methodLink "UnlearnedHandLaw" (93 : Nat) ({ cls := "UnlearnedHand", name := "by", desc := "(I)Z" } : Jvm.MethodName))
set_option maxRecDepth 100000 in
theorem am_v881 : am_u881 ∈ am_G := am_m4 161 rfl rfl
def am_u885 : Cond := (Cond.methodLink "UnlearnedHand" (235 : Nat) ({ cls := "UnlearnedHand$Guild", name := "tellsText", desc := "(I)Z" } : Jvm.MethodName))
set_option maxRecDepth 100000 in
theorem am_v885 : am_u885 ∈ am_G := am_m4 165 rfl rfl
def am_u889 : Cond := (Cond.methodLink "UnlearnedHandLaw" (97 : Nat) ({ cls := "UnlearnedHand", name := "played", desc := "(I)I" } : Jvm.MethodName))
set_option maxRecDepth 100000 in
theorem am_v889 : am_u889 ∈ am_G := am_m4 169 rfl rfl
def am_u893 : Cond := (Cond.methodLink "UnlearnedHand" (244 : Nat) ({ cls := "UnlearnedHand$Script", name := "kindOf", desc := "(I)I" } : Jvm.MethodName))
set_option maxRecDepth 100000 in
theorem am_v893 : am_u893 ∈ am_G := am_m4 173 rfl rfl
def am_u897 : Cond := (Cond.methodLink "UnlearnedHand" (247 : Nat) ({ cls := "UnlearnedHand$Script", name := "numberOf", desc := "(II)I" } : Jvm.MethodName))
set_option maxRecDepth 100000 in
theorem am_v897 : am_u897 ∈ am_G := am_m4 177 rfl rfl
def am_u901 : Cond := (Cond.methodLink "UnlearnedHand" (250 : Nat) ({ cls := "UnlearnedHand", name := "playDeed", desc := "(LUnlearnedHand$Script;I)Z" } : Jvm.MethodName))
set_option maxRecDepth 100000 in
theorem am_v901 : am_u901 ∈ am_G := am_m4 181 rfl rfl
def am_u905 : Cond := (Cond.methodLink "UnlearnedHand" (254 : Nat) ({ cls := "UnlearnedHand", name := "teach", desc := "(III)I" } : Jvm.MethodName))
set_option maxRecDepth 100000 in
theorem am_v905 : am_u905 ∈ am_G := am_m4 185 rfl rfl
def am_u906 : Cond := (Cond.methodLink "UnlearnedHand" (258 : Nat) ({ cls := "UnlearnedHand", name := "mislead", desc := "(III)I" } : Jvm.MethodName))
set_option maxRecDepth 100000 in
theorem am_v906 : am_u906 ∈ am_G := am_m4 186 rfl rfl
def am_u907 : Cond := (Cond.methodLink "UnlearnedHand" (261 : Nat) ({ cls := "UnlearnedHand", name := "drink", desc := "(I)Z" } : Jvm.MethodName))
set_option maxRecDepth 100000 in
theorem am_v907 : am_u907 ∈ am_G := am_m4 187 rfl rfl
def am_u908 : Cond := (Cond.methodLink "UnlearnedHand" (264 : Nat) ({ cls := "UnlearnedHand", name := "sing", desc := "(IIZ)Z" } : Jvm.MethodName))
set_option maxRecDepth 100000 in
theorem am_v908 : am_u908 ∈ am_G := am_m4 188 rfl rfl
def am_u909 : Cond := (Cond.methodLink "UnlearnedHand" (268 : Nat) ({ cls := "UnlearnedHand", name := "tie", desc := "(II)Z" } : Jvm.MethodName))
set_option maxRecDepth 100000 in
theorem am_v909 : am_u909 ∈ am_G := am_m4 189 rfl rfl
def am_u910 : Cond := (Cond.methodLink "UnlearnedHand" (271 : Nat) ({ cls := "UnlearnedHand", name := "smelt", desc := "(II)I" } : Jvm.MethodName))
set_option maxRecDepth 100000 in
theorem am_v910 : am_u910 ∈ am_G := am_m4 190 rfl rfl
def am_u911 : Cond := (Cond.methodLink "UnlearnedHand" (274 : Nat) ({ cls := "UnlearnedHand", name := "tried", desc := "(I)I" } : Jvm.MethodName))
set_option maxRecDepth 100000 in
theorem am_v911 : am_u911 ∈ am_G := am_m4 191 rfl rfl
def am_u912 : Cond := (Cond.methodLink "UnlearnedHandLaw" (101 : Nat) ({ cls := "UnlearnedHand", name := "undo", desc := "()I" } : Jvm.MethodName))
set_option maxRecDepth 100000 in
theorem am_v912 : am_u912 ∈ am_G := am_m4 192 rfl rfl
def am_u916 : Cond := (Cond.methodLink "UnlearnedHand" (277 : Nat) ({ cls := "UnlearnedHand$Steps", name := "takeBack", desc := "(LUnlearnedHand$Hands;)I" } : Jvm.MethodName))
set_option maxRecDepth 100000 in
theorem am_v916 : am_u916 ∈ am_G := am_m4 196 rfl rfl
def am_u920 : Cond := (Cond.methodLink "UnlearnedHandLaw" (105 : Nat) ({ cls := "UnlearnedHand", name := "of", desc := "(II)I" } : Jvm.MethodName))
set_option maxRecDepth 100000 in
theorem am_v920 : am_u920 ∈ am_G := am_m4 200 rfl rfl
def am_u924 : Cond := (Cond.methodLink "UnlearnedHand" (281 : Nat) ({ cls := "UnlearnedHand$Guild", name := "prideOf", desc := "(I)I" } : Jvm.MethodName))
set_option maxRecDepth 100000 in
theorem am_v924 : am_u924 ∈ am_G := am_m4 204 rfl rfl
def am_u928 : Cond := (Cond.methodLink "UnlearnedHand" (284 : Nat) ({ cls := "UnlearnedHand$Laws", name := "turnsOf", desc := "(LUnlearnedHand$Hands;I)I" } : Jvm.MethodName))
set_option maxRecDepth 100000 in
theorem am_v928 : am_u928 ∈ am_G := am_m4 208 rfl rfl
def am_u929 : Cond := (Cond.methodLink "UnlearnedHand" (287 : Nat) ({ cls := "UnlearnedHand$Hands", name := "songsOf", desc := "(I)I" } : Jvm.MethodName))
set_option maxRecDepth 100000 in
theorem am_v929 : am_u929 ∈ am_G := am_m4 209 rfl rfl
def am_u933 : Cond := (Cond.methodLink "UnlearnedHandLaw" (109 : Nat) ({ cls := "UnlearnedHand", name := "hand", desc := "(III)I" } : Jvm.MethodName))
set_option maxRecDepth 100000 in
theorem am_v933 : am_u933 ∈ am_G := am_m4 213 rfl rfl
def am_u937 : Cond := (Cond.methodLink "UnlearnedHand" (290 : Nat) ({ cls := "UnlearnedHand$Hands", name := "wrongOf", desc := "(II)I" } : Jvm.MethodName))
set_option maxRecDepth 100000 in
theorem am_v937 : am_u937 ∈ am_G := am_m4 217 rfl rfl
def am_u938 : Cond := (Cond.methodLink "UnlearnedHand" (293 : Nat) ({ cls := "UnlearnedHand$Hands", name := "bestOf", desc := "(II)I" } : Jvm.MethodName))
set_option maxRecDepth 100000 in
theorem am_v938 : am_u938 ∈ am_G := am_m4 218 rfl rfl
def am_u939 : Cond := (Cond.methodLink "UnlearnedHand" (296 : Nat) ({ cls := "UnlearnedHand$Laws", name := "valueOf", desc := "(ILUnlearnedHand$Hands;III)I" } : Jvm.MethodName))
set_option maxRecDepth 100000 in
theorem am_v939 : am_u939 ∈ am_G := am_m4 219 rfl rfl
def am_u940 : Cond := (Cond.methodLink "UnlearnedHandLaw" (113 : Nat) ({ cls := "UnlearnedHand", name := "ofTurn", desc := "(II)I" } : Jvm.MethodName))
set_option maxRecDepth 100000 in
theorem am_v940 : am_u940 ∈ am_G := am_m4 220 rfl rfl
def am_u944 : Cond := (Cond.methodLink "UnlearnedHand" (300 : Nat) ({ cls := "UnlearnedHand$Guild", name := "tellsTurn", desc := "(I)Z" } : Jvm.MethodName))
set_option maxRecDepth 100000 in
theorem am_v944 : am_u944 ∈ am_G := am_m4 224 rfl rfl
def am_u945 : Cond := (Cond.methodLink "UnlearnedHand" (303 : Nat) ({ cls := "UnlearnedHand$Guild", name := "worthOf", desc := "(I)I" } : Jvm.MethodName))
set_option maxRecDepth 100000 in
theorem am_v945 : am_u945 ∈ am_G := am_m4 225 rfl rfl
def am_u949 : Cond := (Cond.methodLink "UnlearnedHand" (306 : Nat) ({ cls := "UnlearnedHand$Guild", name := "leadsOf", desc := "(I)I" } : Jvm.MethodName))
set_option maxRecDepth 100000 in
theorem am_v949 : am_u949 ∈ am_G := am_m4 229 rfl rfl
def am_u953 : Cond := (Cond.methodLink "UnlearnedHandLaw" (117 : Nat) ({ cls := "UnlearnedHand", name := "foretold", desc := "(II)I" } : Jvm.MethodName))
set_option maxRecDepth 100000 in
theorem am_v953 : am_u953 ∈ am_G := am_m4 233 rfl rfl
def am_u957 : Cond := (Cond.methodLink "UnlearnedHand" (309 : Nat) ({ cls := "UnlearnedHand$Foresight", name := "turnsThen", desc := "(II)I" } : Jvm.MethodName))
set_option maxRecDepth 100000 in
theorem am_v957 : am_u957 ∈ am_G := am_m4 237 rfl rfl
def am_u961 : Cond := (Cond.methodLink "UnlearnedHand$Foresight" (45 : Nat) ({ cls := "UnlearnedHand$Hands", name := "copyFrom", desc := "(LUnlearnedHand$Hands;)V" } : Jvm.MethodName))
set_option maxRecDepth 100000 in
theorem am_v961 : am_u961 ∈ am_G := am_m5 1 rfl rfl
def am_u962 : Cond := (Cond.methodLink "UnlearnedHand$Foresight" (49 : Nat) ({ cls := "UnlearnedHand$Deeds", name := "passNight", desc := "(LUnlearnedHand$Hands;II)V" } : Jvm.MethodName))
set_option maxRecDepth 100000 in
theorem am_v962 : am_u962 ∈ am_G := am_m5 2 rfl rfl
def am_u963 : Cond := (Cond.methodLink "UnlearnedHand$Foresight" (55 : Nat) ({ cls := "UnlearnedHand$Laws", name := "turnsOf", desc := "(LUnlearnedHand$Hands;I)I" } : Jvm.MethodName))
set_option maxRecDepth 100000 in
theorem am_v963 : am_u963 ∈ am_G := am_m5 3 rfl rfl
def am_u964 : Cond := (Cond.methodLink "UnlearnedHandLaw" (121 : Nat) ({ cls := "UnlearnedHand", name := "free", desc := "(II)I" } : Jvm.MethodName))
set_option maxRecDepth 100000 in
theorem am_v964 : am_u964 ∈ am_G := am_m5 4 rfl rfl
def am_u968 : Cond := (Cond.methodLink "UnlearnedHand" (312 : Nat) ({ cls := "UnlearnedHand$Foresight", name := "nightsToFree", desc := "(II)I" } : Jvm.MethodName))
set_option maxRecDepth 100000 in
theorem am_v968 : am_u968 ∈ am_G := am_m5 8 rfl rfl
def am_u972 : Cond := (Cond.methodLink "UnlearnedHand$Foresight" (61 : Nat) ({ cls := "UnlearnedHand$Hands", name := "isFree", desc := "(I)Z" } : Jvm.MethodName))
set_option maxRecDepth 100000 in
theorem am_v972 : am_u972 ∈ am_G := am_m5 12 rfl rfl
def am_u973 : Cond := (Cond.methodLink "UnlearnedHandLaw" (125 : Nat) ({ cls := "UnlearnedHand", name := "lasts", desc := "(II)I" } : Jvm.MethodName))
set_option maxRecDepth 100000 in
theorem am_v973 : am_u973 ∈ am_G := am_m5 13 rfl rfl
def am_u977 : Cond := (Cond.methodLink "UnlearnedHand" (315 : Nat) ({ cls := "UnlearnedHand$Foresight", name := "nightsOf", desc := "(II)I" } : Jvm.MethodName))
set_option maxRecDepth 100000 in
theorem am_v977 : am_u977 ∈ am_G := am_m5 17 rfl rfl
def am_u981 : Cond := (Cond.methodLink "UnlearnedHand$Foresight" (65 : Nat) ({ cls := "UnlearnedHand$Laws", name := "valueOf", desc := "(ILUnlearnedHand$Hands;III)I" } : Jvm.MethodName))
set_option maxRecDepth 100000 in
theorem am_v981 : am_u981 ∈ am_G := am_m5 21 rfl rfl
def am_u982 : Cond := (Cond.methodLink "UnlearnedHandLaw" (129 : Nat) ({ cls := "UnlearnedHand", name := "wrongs", desc := "(IIIII)I" } : Jvm.MethodName))
set_option maxRecDepth 100000 in
theorem am_v982 : am_u982 ∈ am_G := am_m5 22 rfl rfl
def am_u986 : Cond := (Cond.methodLink "UnlearnedHand" (318 : Nat) ({ cls := "UnlearnedHand$Foresight", name := "weighLessons", desc := "(III)V" } : Jvm.MethodName))
set_option maxRecDepth 100000 in
theorem am_v986 : am_u986 ∈ am_G := am_m5 26 rfl rfl
def am_u990 : Cond := (Cond.methodLink "UnlearnedHand$Foresight" (75 : Nat) ({ cls := "UnlearnedHand$Deeds", name := "misleadMan", desc := "(LUnlearnedHand$Hands;III)V" } : Jvm.MethodName))
set_option maxRecDepth 100000 in
theorem am_v990 : am_u990 ∈ am_G := am_m5 30 rfl rfl
def am_u991 : Cond := (Cond.methodLink "UnlearnedHand$Foresight" (79 : Nat) ({ cls := "UnlearnedHand$Deeds", name := "fade", desc := "(LUnlearnedHand$Hands;II)V" } : Jvm.MethodName))
set_option maxRecDepth 100000 in
theorem am_v991 : am_u991 ∈ am_G := am_m5 31 rfl rfl
def am_u992 : Cond := (Cond.methodLink "UnlearnedHand" (321 : Nat) ({ cls := "UnlearnedHand$Foresight", name := "fewLessons", desc := "(III)I" } : Jvm.MethodName))
set_option maxRecDepth 100000 in
theorem am_v992 : am_u992 ∈ am_G := am_m5 32 rfl rfl
def am_u996 : Cond := (Cond.methodLink "UnlearnedHand$Foresight" (85 : Nat) ({ cls := "UnlearnedHand$Foresight", name := "countLessons", desc := "(I)I" } : Jvm.MethodName))
set_option maxRecDepth 100000 in
theorem am_v996 : am_u996 ∈ am_G := am_m5 36 rfl rfl
def am_u1000 : Cond := (Cond.methodLink "UnlearnedHand$Foresight" (89 : Nat) ({ cls := "UnlearnedHand$Foresight", name := "countKept", desc := "(I)I" } : Jvm.MethodName))
set_option maxRecDepth 100000 in
theorem am_v1000 : am_u1000 ∈ am_G := am_m5 40 rfl rfl
def am_u1004 : Cond := (Cond.methodLink "UnlearnedHand$Foresight" (92 : Nat) ({ cls := "java/lang/System", name := "arraycopy", desc := "(Ljava/lang/Object;ILjava/lang/Object;II)V" } : Jvm.MethodName))
set_option maxRecDepth 100000 in
theorem am_v1004 : am_u1004 ∈ am_G := am_m5 44 rfl rfl
def am_u1005 : Cond := (Cond.methodLink "UnlearnedHand$Foresight" (98 : Nat) ({ cls := "UnlearnedHand$Foresight", name := "nextPlan", desc := "(II)V" } : Jvm.MethodName))
set_option maxRecDepth 100000 in
theorem am_v1005 : am_u1005 ∈ am_G := am_m5 45 rfl rfl
def am_u1009 : Cond := (Cond.methodLink "UnlearnedHand$Foresight" (102 : Nat) ({ cls := "java/lang/Math", name := "min", desc := "(II)I" } : Jvm.MethodName))
set_option maxRecDepth 100000 in
theorem am_v1009 : am_u1009 ∈ am_G := am_m5 49 rfl rfl
def am_u1010 : Cond := (Cond.methodLink "UnlearnedHandLaw" (133 : Nat) ({ cls := "UnlearnedHand", name := "done", desc := "(IZ)I" } : Jvm.MethodName))
set_option maxRecDepth 100000 in
theorem am_v1010 : am_u1010 ∈ am_G := am_m5 50 rfl rfl
def am_u1014 : Cond := (Cond.methodLink "UnlearnedHand" (327 : Nat) ({ cls := "UnlearnedHand$Guild", name := "addDone", desc := "(IZ)Z" } : Jvm.MethodName))
set_option maxRecDepth 100000 in
theorem am_v1014 : am_u1014 ∈ am_G := am_m5 54 rfl rfl
def am_u1018 : Cond := (Cond.methodLink "UnlearnedHandLaw" (138 : Nat) ({ cls := "UnlearnedHand", name := "sets", desc := "(ZI)I" } : Jvm.MethodName))
set_option maxRecDepth 100000 in
theorem am_v1018 : am_u1018 ∈ am_G := am_m5 58 rfl rfl
def am_u1022 : Cond := (Cond.methodLink "UnlearnedHand" (331 : Nat) ({ cls := "UnlearnedHand$Reckoning", name := "setsByDone", desc := "(ZI)I" } : Jvm.MethodName))
set_option maxRecDepth 100000 in
theorem am_v1022 : am_u1022 ∈ am_G := am_m5 62 rfl rfl
def am_u1026 : Cond := (Cond.methodLink "UnlearnedHand$Reckoning" (27 : Nat) ({ cls := "UnlearnedHand$Guild", name := "doneAs", desc := "(Z)I" } : Jvm.MethodName))
set_option maxRecDepth 100000 in
theorem am_v1026 : am_u1026 ∈ am_G := am_m5 66 rfl rfl
def am_u1030 : Cond := (Cond.methodLink "UnlearnedHand$Guild" (69 : Nat) ({ cls := "UnlearnedHand$Guild", name := "wasDoneRight", desc := "(I)Z" } : Jvm.MethodName))
set_option maxRecDepth 100000 in
theorem am_v1030 : am_u1030 ∈ am_G := am_m5 70 rfl rfl
def am_u1034 : Cond := (Cond.methodLink "UnlearnedHand$Reckoning" (33 : Nat) ({ cls := "UnlearnedHand$Guild", name := "allTurns", desc := "()I" } : Jvm.MethodName))
set_option maxRecDepth 100000 in
theorem am_v1034 : am_u1034 ∈ am_G := am_m5 74 rfl rfl
def am_u1035 : Cond := (Cond.methodLink "UnlearnedHand$Reckoning" (37 : Nat) ({ cls := "UnlearnedHand$Reckoning", name := "isLedTo", desc := "(I)Z" } : Jvm.MethodName))
set_option maxRecDepth 100000 in
theorem am_v1035 : am_u1035 ∈ am_G := am_m5 75 rfl rfl
def am_u1039 : Cond := (Cond.methodLink "UnlearnedHand$Reckoning" (45 : Nat) ({ cls := "UnlearnedHand$Guild", name := "leadersOf", desc := "(I)I" } : Jvm.MethodName))
set_option maxRecDepth 100000 in
theorem am_v1039 : am_u1039 ∈ am_G := am_m5 79 rfl rfl
def am_u1043 : Cond := (Cond.methodLink "UnlearnedHandLaw" (143 : Nat) ({ cls := "UnlearnedHand", name := "shammed", desc := "(IIIZ)J" } : Jvm.MethodName))
set_option maxRecDepth 100000 in
theorem am_v1043 : am_u1043 ∈ am_G := am_m5 83 rfl rfl
def am_u1047 : Cond := (Cond.constantLong "UnlearnedHand" (335 : Nat) (-1 : Int64))
set_option maxRecDepth 100000 in
theorem am_v1047 : am_u1047 ∈ am_G := am_m5 87 rfl rfl
def am_u1048 : Cond := (Cond.methodLink "UnlearnedHand" (337 : Nat) ({ cls := "UnlearnedHand$Reckoning", name := "shamOdds", desc := "(IIIZ)J" } : Jvm.MethodName))
set_option maxRecDepth 100000 in
theorem am_v1048 : am_u1048 ∈ am_G := am_m5 88 rfl rfl
def am_u1052 : Cond := (Cond.methodLink "UnlearnedHand$Reckoning" (49 : Nat) ({ cls := "UnlearnedHand$Laws", name := "turnsOf", desc := "(LUnlearnedHand$Hands;I)I" } : Jvm.MethodName))
set_option maxRecDepth 100000 in
theorem am_v1052 : am_u1052 ∈ am_G := am_m5 92 rfl rfl
def am_u1053 : Cond := (Cond.methodLink "UnlearnedHand$Reckoning" (61 : Nat) ({ cls := "UnlearnedHand$Guild", name := "wasDoneRight", desc := "(I)Z" } : Jvm.MethodName))
set_option maxRecDepth 100000 in
theorem am_v1053 : am_u1053 ∈ am_G := am_m5 93 rfl rfl
def am_u1054 : Cond := (Cond.constantLong "UnlearnedHand$Reckoning" (64 : Nat) (9 : Int64))
set_option maxRecDepth 100000 in
theorem am_v1054 : am_u1054 ∈ am_G := am_m5 94 rfl rfl
def am_u1055 : Cond := (Cond.methodLink "UnlearnedHand$Reckoning" (66 : Nat) ({ cls := "UnlearnedHand$Orders", name := "commonDivisor", desc := "(JJ)J" } : Jvm.MethodName))
set_option maxRecDepth 100000 in
theorem am_v1055 : am_u1055 ∈ am_G := am_m5 95 rfl rfl
def am_u1058 : Cond := (Cond.methodLink "UnlearnedHandLaw" (148 : Nat) ({ cls := "UnlearnedHand", name := "halves", desc := "(III)I" } : Jvm.MethodName))
set_option maxRecDepth 100000 in
theorem am_v1058 : am_u1058 ∈ am_G := am_m5 98 rfl rfl
def am_u1062 : Cond := (Cond.methodLink "UnlearnedHand" (341 : Nat) ({ cls := "UnlearnedHand$Guild", name := "allTurns", desc := "()I" } : Jvm.MethodName))
set_option maxRecDepth 100000 in
theorem am_v1062 : am_u1062 ∈ am_G := am_m5 102 rfl rfl
def am_u1063 : Cond := (Cond.methodLink "UnlearnedHandLaw" (152 : Nat) ({ cls := "UnlearnedHand", name := "back", desc := "(I)I" } : Jvm.MethodName))
set_option maxRecDepth 100000 in
theorem am_v1063 : am_u1063 ∈ am_G := am_m5 103 rfl rfl
def am_u1067 : Cond := (Cond.methodLink "UnlearnedHand" (345 : Nat) ({ cls := "UnlearnedHand$Guild", name := "tellsSmells", desc := "(I)Z" } : Jvm.MethodName))
set_option maxRecDepth 100000 in
theorem am_v1067 : am_u1067 ∈ am_G := am_m5 107 rfl rfl
def am_u1071 : Cond := (Cond.methodLink "UnlearnedHandLaw" (156 : Nat) ({ cls := "UnlearnedHand", name := "fewSmells", desc := "(I)I" } : Jvm.MethodName))
set_option maxRecDepth 100000 in
theorem am_v1071 : am_u1071 ∈ am_G := am_m5 111 rfl rfl
def am_u1075 : Cond := (Cond.methodLink "UnlearnedHand" (348 : Nat) ({ cls := "UnlearnedHand$Reckoning", name := "fewestSmells", desc := "(I)I" } : Jvm.MethodName))
set_option maxRecDepth 100000 in
theorem am_v1075 : am_u1075 ∈ am_G := am_m5 115 rfl rfl
def am_u1079 : Cond := (Cond.methodLink "UnlearnedHand$Reckoning" (75 : Nat) ({ cls := "java/lang/Integer", name := "bitCount", desc := "(I)I" } : Jvm.MethodName))
set_option maxRecDepth 100000 in
theorem am_v1079 : am_u1079 ∈ am_G := am_m5 119 rfl rfl
def am_u1080 : Cond := (Cond.methodLink "UnlearnedHand$Reckoning" (80 : Nat) ({ cls := "UnlearnedHand$Guild", name := "comesBack", desc := "(I)I" } : Jvm.MethodName))
set_option maxRecDepth 100000 in
theorem am_v1080 : am_u1080 ∈ am_G := am_m5 120 rfl rfl
def am_u1081 : Cond := (Cond.methodLink "UnlearnedHandLaw" (160 : Nat) ({ cls := "UnlearnedHand", name := "trial", desc := "(III)J" } : Jvm.MethodName))
set_option maxRecDepth 100000 in
theorem am_v1081 : am_u1081 ∈ am_G := am_m5 121 rfl rfl
def am_u1085 : Cond := (Cond.methodLink "UnlearnedHand" (351 : Nat) ({ cls := "java/lang/Integer", name := "bitCount", desc := "(I)I" } : Jvm.MethodName))
set_option maxRecDepth 100000 in
theorem am_v1085 : am_u1085 ∈ am_G := am_m5 125 rfl rfl
def am_u1086 : Cond := (Cond.constantLong "UnlearnedHand" (356 : Nat) (-100 : Int64))
set_option maxRecDepth 100000 in
theorem am_v1086 : am_u1086 ∈ am_G := am_m5 126 rfl rfl
def am_u1087 : Cond := (Cond.methodLink "UnlearnedHand" (358 : Nat) ({ cls := "UnlearnedHand$Orders", name := "cheapestTrial", desc := "(III)J" } : Jvm.MethodName))
set_option maxRecDepth 100000 in
theorem am_v1087 : am_u1087 ∈ am_G := am_m5 127 rfl rfl
def am_u1091 : Cond := (Cond.constantLong "UnlearnedHand$Orders" (26 : Nat) (-1 : Int64))
set_option maxRecDepth 100000 in
theorem am_v1091 : am_u1091 ∈ am_G := am_m5 131 rfl rfl
def am_u1092 : Cond := (Cond.methodLink "UnlearnedHand$Orders" (28 : Nat) ({ cls := "UnlearnedHand$Orders", name := "firstOrder", desc := "(I)Z" } : Jvm.MethodName))
set_option maxRecDepth 100000 in
theorem am_v1092 : am_u1092 ∈ am_G := am_m5 132 rfl rfl
def am_u1096 : Cond := (Cond.methodLink "UnlearnedHand$Orders" (32 : Nat) ({ cls := "UnlearnedHand$Orders", name := "costOf", desc := "(I)J" } : Jvm.MethodName))
set_option maxRecDepth 100000 in
theorem am_v1096 : am_u1096 ∈ am_G := am_m5 136 rfl rfl
def am_u1100 : Cond := (Cond.methodLink "UnlearnedHand$Orders" (58 : Nat) ({ cls := "java/lang/Math", name := "min", desc := "(II)I" } : Jvm.MethodName))
set_option maxRecDepth 100000 in
theorem am_v1100 : am_u1100 ∈ am_G := am_m5 140 rfl rfl
def am_u1101 : Cond := (Cond.methodLink "UnlearnedHand$Orders" (64 : Nat) ({ cls := "UnlearnedHand$Hands", name := "rightOf", desc := "(II)I" } : Jvm.MethodName))
set_option maxRecDepth 100000 in
theorem am_v1101 : am_u1101 ∈ am_G := am_m5 141 rfl rfl
def am_u1102 : Cond := (Cond.methodLink "UnlearnedHand$Orders" (69 : Nat) ({ cls := "UnlearnedHand$Guild", name := "worthOf", desc := "(I)I" } : Jvm.MethodName))
set_option maxRecDepth 100000 in
theorem am_v1102 : am_u1102 ∈ am_G := am_m5 142 rfl rfl
def am_u1103 : Cond := (Cond.constantLong "UnlearnedHand$Orders" (52 : Nat) (100 : Int64))
set_option maxRecDepth 100000 in
theorem am_v1103 : am_u1103 ∈ am_G := am_m5 143 rfl rfl
def am_u1104 : Cond := (Cond.methodLink "UnlearnedHand$Orders" (36 : Nat) ({ cls := "java/lang/System", name := "arraycopy", desc := "(Ljava/lang/Object;ILjava/lang/Object;II)V" } : Jvm.MethodName))
set_option maxRecDepth 100000 in
theorem am_v1104 : am_u1104 ∈ am_G := am_m5 144 rfl rfl
def am_u1105 : Cond := (Cond.methodLink "UnlearnedHand$Orders" (42 : Nat) ({ cls := "UnlearnedHand$Orders", name := "nextOrder", desc := "()Z" } : Jvm.MethodName))
set_option maxRecDepth 100000 in
theorem am_v1105 : am_u1105 ∈ am_G := am_m5 145 rfl rfl
def am_u1109 : Cond := (Cond.methodLink "UnlearnedHand$Orders" (81 : Nat) ({ cls := "UnlearnedHand$Orders", name := "swap", desc := "(II)V" } : Jvm.MethodName))
set_option maxRecDepth 100000 in
theorem am_v1109 : am_u1109 ∈ am_G := am_m5 149 rfl rfl
def am_u1113 : Cond := (Cond.constantLong "UnlearnedHand$Orders" (50 : Nat) (-100 : Int64))
set_option maxRecDepth 100000 in
theorem am_v1113 : am_u1113 ∈ am_G := am_m5 153 rfl rfl
def am_u1114 : Cond := (Cond.methodLink "UnlearnedHand$Orders" (54 : Nat) ({ cls := "UnlearnedHand$Orders", name := "commonDivisor", desc := "(JJ)J" } : Jvm.MethodName))
set_option maxRecDepth 100000 in
theorem am_v1114 : am_u1114 ∈ am_G := am_m5 154 rfl rfl
def am_u1115 : Cond := (Cond.methodLink "UnlearnedHandLaw" (165 : Nat) ({ cls := "UnlearnedHand", name := "told", desc := "(II)I" } : Jvm.MethodName))
set_option maxRecDepth 100000 in
theorem am_v1115 : am_u1115 ∈ am_G := am_m5 155 rfl rfl
def am_u1119 : Cond := (Cond.methodLink "UnlearnedHand" (362 : Nat) ({ cls := "UnlearnedHand$Orders", name := "tellings", desc := "(II)I" } : Jvm.MethodName))
set_option maxRecDepth 100000 in
theorem am_v1119 : am_u1119 ∈ am_G := am_m5 159 rfl rfl
def am_u1123 : Cond := (Cond.methodLink "UnlearnedHand$Orders" (75 : Nat) ({ cls := "UnlearnedHand$Orders", name := "isTelling", desc := "(I)Z" } : Jvm.MethodName))
set_option maxRecDepth 100000 in
theorem am_v1123 : am_u1123 ∈ am_G := am_m5 163 rfl rfl
def am_u1127 : Cond := (Cond.methodLink "UnlearnedHand$Orders" (78 : Nat) ({ cls := "UnlearnedHand$Guild", name := "leadersOf", desc := "(I)I" } : Jvm.MethodName))
set_option maxRecDepth 100000 in
theorem am_v1127 : am_u1127 ∈ am_G := am_m5 167 rfl rfl
def am_u1128 : Cond := (Cond.methodLink "UnlearnedHandLaw" (169 : Nat) ({ cls := "UnlearnedHand", name := "spies", desc := "(I)I" } : Jvm.MethodName))
set_option maxRecDepth 100000 in
theorem am_v1128 : am_u1128 ∈ am_G := am_m5 168 rfl rfl
def am_u1132 : Cond := (Cond.methodLink "UnlearnedHand" (365 : Nat) ({ cls := "UnlearnedHand$Reckoning", name := "fewestSpies", desc := "(I)I" } : Jvm.MethodName))
set_option maxRecDepth 100000 in
theorem am_v1132 : am_u1132 ∈ am_G := am_m5 172 rfl rfl
def am_u1136 : Cond := (Cond.methodLink "UnlearnedHand$Reckoning" (83 : Nat) ({ cls := "UnlearnedHand$Reckoning", name := "findTurnsHad", desc := "()V" } : Jvm.MethodName))
set_option maxRecDepth 100000 in
theorem am_v1136 : am_u1136 ∈ am_G := am_m5 176 rfl rfl
def am_u1140 : Cond := (Cond.methodLink "UnlearnedHand$Reckoning" (89 : Nat) ({ cls := "UnlearnedHand$Reckoning", name := "hadTogether", desc := "(I)I" } : Jvm.MethodName))
set_option maxRecDepth 100000 in
theorem am_v1140 : am_u1140 ∈ am_G := am_m5 180 rfl rfl
def am_u1144 : Cond := (Cond.methodLink "UnlearnedHand$Reckoning" (92 : Nat) ({ cls := "UnlearnedHand$Reckoning", name := "isBetter", desc := "(II)Z" } : Jvm.MethodName))
set_option maxRecDepth 100000 in
theorem am_v1144 : am_u1144 ∈ am_G := am_m5 184 rfl rfl
def am_u1148 : Cond := (Cond.methodLink "UnlearnedHand$Reckoning" (96 : Nat) ({ cls := "UnlearnedHand$Reckoning", name := "worthOfEach", desc := "(I)I" } : Jvm.MethodName))
set_option maxRecDepth 100000 in
theorem am_v1148 : am_u1148 ∈ am_G := am_m5 188 rfl rfl
def am_u1152 : Cond := (Cond.methodLink "UnlearnedHand$Reckoning" (99 : Nat) ({ cls := "UnlearnedHand$Guild", name := "worthOfAll", desc := "(I)I" } : Jvm.MethodName))
set_option maxRecDepth 100000 in
theorem am_v1152 : am_u1152 ∈ am_G := am_m5 192 rfl rfl
def am_u1156 : Cond := (Cond.methodLink "UnlearnedHandLaw" (173 : Nat) ({ cls := "UnlearnedHand", name := "sold", desc := "(I)I" } : Jvm.MethodName))
set_option maxRecDepth 100000 in
theorem am_v1156 : am_u1156 ∈ am_G := am_m5 196 rfl rfl
def am_u1160 : Cond := (Cond.methodLink "UnlearnedHand" (368 : Nat) ({ cls := "UnlearnedHand$Reckoning", name := "mostSold", desc := "(I)I" } : Jvm.MethodName))
set_option maxRecDepth 100000 in
theorem am_v1160 : am_u1160 ∈ am_G := am_m5 200 rfl rfl
def am_u1164 : Cond := (Cond.methodLink "UnlearnedHand$Reckoning" (102 : Nat) ({ cls := "java/lang/Math", name := "max", desc := "(II)I" } : Jvm.MethodName))
set_option maxRecDepth 100000 in
theorem am_v1164 : am_u1164 ∈ am_G := am_m5 204 rfl rfl
def am_u1165 : Cond := (Cond.methodLink "UnlearnedHandLaw" (177 : Nat) ({ cls := "UnlearnedHand", name := "image", desc := "()I" } : Jvm.MethodName))
set_option maxRecDepth 100000 in
theorem am_v1165 : am_u1165 ∈ am_G := am_m5 205 rfl rfl
def am_u1169 : Cond := (Cond.methodLink "UnlearnedHand" (371 : Nat) ({ cls := "UnlearnedHand$Guild", name := "copyFrom", desc := "(LUnlearnedHand$Guild;)V" } : Jvm.MethodName))
set_option maxRecDepth 100000 in
theorem am_v1169 : am_u1169 ∈ am_G := am_m5 209 rfl rfl
def am_u1173 : Cond := (Cond.methodLink "UnlearnedHand$Guild" (31 : Nat) ({ cls := "java/lang/System", name := "arraycopy", desc := "(Ljava/lang/Object;ILjava/lang/Object;II)V" } : Jvm.MethodName))
set_option maxRecDepth 100000 in
theorem am_v1173 : am_u1173 ∈ am_G := am_m5 213 rfl rfl
def am_u1174 : Cond := (Cond.methodLink "UnlearnedHand" (375 : Nat) ({ cls := "UnlearnedHand$Hands", name := "copyFrom", desc := "(LUnlearnedHand$Hands;)V" } : Jvm.MethodName))
set_option maxRecDepth 100000 in
theorem am_v1174 : am_u1174 ∈ am_G := am_m5 214 rfl rfl
def am_u1175 : Cond := (Cond.methodLink "UnlearnedHand" (377 : Nat) ({ cls := "UnlearnedHand$Steps", name := "copyFrom", desc := "(LUnlearnedHand$Steps;)V" } : Jvm.MethodName))
set_option maxRecDepth 100000 in
theorem am_v1175 : am_u1175 ∈ am_G := am_m5 215 rfl rfl
def am_u1179 : Cond := (Cond.methodLink "UnlearnedHandLaw" (181 : Nat) ({ cls := "UnlearnedHand", name := "again", desc := "()I" } : Jvm.MethodName))
set_option maxRecDepth 100000 in
theorem am_v1179 : am_u1179 ∈ am_G := am_m5 219 rfl rfl
def am_u1183 : Cond := (Cond.methodLink "UnlearnedHandLaw" (185 : Nat) ({ cls := "UnlearnedHand", name := "about", desc := "(I)I" } : Jvm.MethodName))
set_option maxRecDepth 100000 in
theorem am_v1183 : am_u1183 ∈ am_G := am_m5 223 rfl rfl
def am_u1187 : Cond := (Cond.classLink "UnlearnedHandLaw" (10 : Nat) "UnlearnedHandModel")
set_option maxRecDepth 100000 in
theorem am_v1187 : am_u1187 ∈ am_G := am_m5 227 rfl rfl
def am_u1189 : Cond := (Cond.methodLink "UnlearnedHandLaw" (12 : Nat) ({ cls := "UnlearnedHandModel", name := "<init>", desc := "()V" } : Jvm.MethodName))
set_option maxRecDepth 100000 in
theorem am_v1189 : am_u1189 ∈ am_G := am_m5 229 rfl rfl
def am_u1192 : Cond := (Cond.methodLink "UnlearnedHandModel" (1 : Nat) ({ cls := "java/lang/Object", name := "<init>", desc := "()V" } : Jvm.MethodName))
set_option maxRecDepth 100000 in
theorem am_v1192 : am_u1192 ∈ am_G := am_m5 232 rfl rfl
def am_u1193 : Cond := (Cond.methodLink "UnlearnedHandModel" (127 : Nat) ({ cls := "UnlearnedHandModel", name := "copies", desc := "(Z)V" } : Jvm.MethodName))
set_option maxRecDepth 100000 in
theorem am_v1193 : am_u1193 ∈ am_G := am_m5 233 rfl rfl
def am_u1197 : Cond := (Cond.fieldLink "UnlearnedHandModel" (7 : Nat) "UnlearnedHandModel" "a" "[I")
set_option maxRecDepth 100000 in
theorem am_v1197 : am_u1197 ∈ am_G := am_m5 237 rfl rfl
def am_u1198 : Cond := (Cond.fieldLink "UnlearnedHandModel" (13 : Nat) "UnlearnedHandModel" "image" "[I")
set_option maxRecDepth 100000 in
theorem am_v1198 : am_u1198 ∈ am_G := am_m5 238 rfl rfl
def am_u1199 : Cond := (Cond.fieldLink "UnlearnedHandModel" (16 : Nat) "UnlearnedHandModel" "tape" "[B")
set_option maxRecDepth 100000 in
theorem am_v1199 : am_u1199 ∈ am_G := am_m5 239 rfl rfl
def am_u1200 : Cond := (Cond.fieldLink "UnlearnedHandModel" (146 : Nat) "UnlearnedHandModel" "taped" "I")
set_option maxRecDepth 100000 in
theorem am_v1200 : am_u1200 ∈ am_G := am_m6 0 rfl rfl
def am_u1201 : Cond := (Cond.fieldLink "UnlearnedHandModel" (20 : Nat) "UnlearnedHandModel" "fault" "I")
set_option maxRecDepth 100000 in
theorem am_v1201 : am_u1201 ∈ am_G := am_m6 1 rfl rfl
def am_u1202 : Cond := (Cond.fieldLink "UnlearnedHandModel" (24 : Nat) "UnlearnedHandModel" "faultAt" "I")
set_option maxRecDepth 100000 in
theorem am_v1202 : am_u1202 ∈ am_G := am_m6 2 rfl rfl
def am_u1203 : Cond := (Cond.fieldLink "UnlearnedHandModel" (27 : Nat) "UnlearnedHandModel" "clauses" "[I")
set_option maxRecDepth 100000 in
theorem am_v1203 : am_u1203 ∈ am_G := am_m6 3 rfl rfl
def am_u1204 : Cond := (Cond.fieldLink "UnlearnedHandModel" (30 : Nat) "UnlearnedHandModel" "clauseWord" "[I")
set_option maxRecDepth 100000 in
theorem am_v1204 : am_u1204 ∈ am_G := am_m6 4 rfl rfl
def am_u1205 : Cond := (Cond.fieldLink "UnlearnedHandModel" (33 : Nat) "UnlearnedHandModel" "clauseAt" "[I")
set_option maxRecDepth 100000 in
theorem am_v1205 : am_u1205 ∈ am_G := am_m6 5 rfl rfl
def am_u1206 : Cond := (Cond.fieldLink "UnlearnedHandModel" (36 : Nat) "UnlearnedHandModel" "clauseOne" "[I")
set_option maxRecDepth 100000 in
theorem am_v1206 : am_u1206 ∈ am_G := am_m6 6 rfl rfl
def am_u1207 : Cond := (Cond.fieldLink "UnlearnedHandModel" (39 : Nat) "UnlearnedHandModel" "clauseTwo" "[I")
set_option maxRecDepth 100000 in
theorem am_v1207 : am_u1207 ∈ am_G := am_m6 7 rfl rfl
def am_u1208 : Cond := (Cond.fieldLink "UnlearnedHandModel" (42 : Nat) "UnlearnedHandModel" "clauseThree" "[I")
set_option maxRecDepth 100000 in
theorem am_v1208 : am_u1208 ∈ am_G := am_m6 8 rfl rfl
def am_u1209 : Cond := (Cond.fieldLink "UnlearnedHandModel" (45 : Nat) "UnlearnedHandModel" "order" "[I")
set_option maxRecDepth 100000 in
theorem am_v1209 : am_u1209 ∈ am_G := am_m6 9 rfl rfl
def am_u1210 : Cond := (Cond.fieldLink "UnlearnedHandModel" (48 : Nat) "UnlearnedHandModel" "value" "[I")
set_option maxRecDepth 100000 in
theorem am_v1210 : am_u1210 ∈ am_G := am_m6 10 rfl rfl
def am_u1211 : Cond := (Cond.fieldLink "UnlearnedHandModel" (214 : Nat) "UnlearnedHandModel" "textLength" "I")
set_option maxRecDepth 100000 in
theorem am_v1211 : am_u1211 ∈ am_G := am_m6 11 rfl rfl
def am_u1212 : Cond := (Cond.fieldLink "UnlearnedHandModel" (211 : Nat) "UnlearnedHandModel" "at" "I")
set_option maxRecDepth 100000 in
theorem am_v1212 : am_u1212 ∈ am_G := am_m6 12 rfl rfl
def am_u1213 : Cond := (Cond.fieldLink "UnlearnedHandModel" (217 : Nat) "UnlearnedHandModel" "token" "I")
set_option maxRecDepth 100000 in
theorem am_v1213 : am_u1213 ∈ am_G := am_m6 13 rfl rfl
def am_u1214 : Cond := (Cond.fieldLink "UnlearnedHandModel" (220 : Nat) "UnlearnedHandModel" "sort" "I")
set_option maxRecDepth 100000 in
theorem am_v1214 : am_u1214 ∈ am_G := am_m6 14 rfl rfl
def am_u1215 : Cond := (Cond.fieldLink "UnlearnedHandModel" (232 : Nat) "UnlearnedHandModel" "tokenIs" "I")
set_option maxRecDepth 100000 in
theorem am_v1215 : am_u1215 ∈ am_G := am_m6 15 rfl rfl
def am_u1216 : Cond := (Cond.fieldLink "UnlearnedHandModel" (236 : Nat) "UnlearnedHandModel" "wrong" "I")
set_option maxRecDepth 100000 in
theorem am_v1216 : am_u1216 ∈ am_G := am_m6 16 rfl rfl
def am_u1217 : Cond := (Cond.fieldLink "UnlearnedHandModel" (239 : Nat) "UnlearnedHandModel" "wrongAt" "I")
set_option maxRecDepth 100000 in
theorem am_v1217 : am_u1217 ∈ am_G := am_m6 17 rfl rfl
def am_u1218 : Cond := (Cond.fieldLink "UnlearnedHandModel" (248 : Nat) "UnlearnedHandModel" "open" "I")
set_option maxRecDepth 100000 in
theorem am_v1218 : am_u1218 ∈ am_G := am_m6 18 rfl rfl
def am_u1219 : Cond := (Cond.fieldLink "UnlearnedHandModel" (245 : Nat) "UnlearnedHandModel" "frames" "I")
set_option maxRecDepth 100000 in
theorem am_v1219 : am_u1219 ∈ am_G := am_m6 19 rfl rfl
def am_u1220 : Cond := (Cond.fieldLink "UnlearnedHandModel" (51 : Nat) "UnlearnedHandModel" "frame" "[I")
set_option maxRecDepth 100000 in
theorem am_v1220 : am_u1220 ∈ am_G := am_m6 20 rfl rfl
def am_u1221 : Cond := (Cond.fieldLink "UnlearnedHandModel" (54 : Nat) "UnlearnedHandModel" "compare" "[I")
set_option maxRecDepth 100000 in
theorem am_v1221 : am_u1221 ∈ am_G := am_m6 21 rfl rfl
def am_u1222 : Cond := (Cond.fieldLink "UnlearnedHandModel" (260 : Nat) "UnlearnedHandModel" "waits" "I")
set_option maxRecDepth 100000 in
theorem am_v1222 : am_u1222 ∈ am_G := am_m6 22 rfl rfl
def am_u1223 : Cond := (Cond.fieldLink "UnlearnedHandModel" (57 : Nat) "UnlearnedHandModel" "wait" "[I")
set_option maxRecDepth 100000 in
theorem am_v1223 : am_u1223 ∈ am_G := am_m6 23 rfl rfl
def am_u1224 : Cond := (Cond.fieldLink "UnlearnedHandModel" (60 : Nat) "UnlearnedHandModel" "waitFrame" "[I")
set_option maxRecDepth 100000 in
theorem am_v1224 : am_u1224 ∈ am_G := am_m6 24 rfl rfl
def am_u1225 : Cond := (Cond.fieldLink "UnlearnedHandModel" (280 : Nat) "UnlearnedHandModel" "state" "I")
set_option maxRecDepth 100000 in
theorem am_v1225 : am_u1225 ∈ am_G := am_m6 25 rfl rfl
def am_u1226 : Cond := (Cond.fieldLink "UnlearnedHandModel" (314 : Nat) "UnlearnedHandModel" "newClauses" "I")
set_option maxRecDepth 100000 in
theorem am_v1226 : am_u1226 ∈ am_G := am_m6 26 rfl rfl
def am_u1227 : Cond := (Cond.fieldLink "UnlearnedHandModel" (290 : Nat) "UnlearnedHandModel" "newKind" "I")
set_option maxRecDepth 100000 in
theorem am_v1227 : am_u1227 ∈ am_G := am_m6 27 rfl rfl
def am_u1228 : Cond := (Cond.fieldLink "UnlearnedHandModel" (63 : Nat) "UnlearnedHandModel" "newWord" "[I")
set_option maxRecDepth 100000 in
theorem am_v1228 : am_u1228 ∈ am_G := am_m6 28 rfl rfl
def am_u1229 : Cond := (Cond.fieldLink "UnlearnedHandModel" (66 : Nat) "UnlearnedHandModel" "newAt" "[I")
set_option maxRecDepth 100000 in
theorem am_v1229 : am_u1229 ∈ am_G := am_m6 29 rfl rfl
def am_u1230 : Cond := (Cond.fieldLink "UnlearnedHandModel" (69 : Nat) "UnlearnedHandModel" "newOne" "[I")
set_option maxRecDepth 100000 in
theorem am_v1230 : am_u1230 ∈ am_G := am_m6 30 rfl rfl
def am_u1231 : Cond := (Cond.fieldLink "UnlearnedHandModel" (72 : Nat) "UnlearnedHandModel" "newTwo" "[I")
set_option maxRecDepth 100000 in
theorem am_v1231 : am_u1231 ∈ am_G := am_m6 31 rfl rfl
def am_u1232 : Cond := (Cond.fieldLink "UnlearnedHandModel" (75 : Nat) "UnlearnedHandModel" "newThree" "[I")
set_option maxRecDepth 100000 in
theorem am_v1232 : am_u1232 ∈ am_G := am_m6 32 rfl rfl
def am_u1233 : Cond := (Cond.fieldLink "UnlearnedHandModel" (242 : Nat) "UnlearnedHandModel" "newOrders" "I")
set_option maxRecDepth 100000 in
theorem am_v1233 : am_u1233 ∈ am_G := am_m6 33 rfl rfl
def am_u1234 : Cond := (Cond.fieldLink "UnlearnedHandModel" (78 : Nat) "UnlearnedHandModel" "newOrder" "[I")
set_option maxRecDepth 100000 in
theorem am_v1234 : am_u1234 ∈ am_G := am_m6 34 rfl rfl
def am_u1235 : Cond := (Cond.fieldLink "UnlearnedHandModel" (81 : Nat) "UnlearnedHandModel" "newValue" "[I")
set_option maxRecDepth 100000 in
theorem am_v1235 : am_u1235 ∈ am_G := am_m6 35 rfl rfl
def am_u1236 : Cond := (Cond.fieldLink "UnlearnedHandModel" (84 : Nat) "UnlearnedHandModel" "name" "[I")
set_option maxRecDepth 100000 in
theorem am_v1236 : am_u1236 ∈ am_G := am_m6 36 rfl rfl
def am_u1237 : Cond := (Cond.fieldLink "UnlearnedHandModel" (87 : Nat) "UnlearnedHandModel" "pile" "[J")
set_option maxRecDepth 100000 in
theorem am_v1237 : am_u1237 ∈ am_G := am_m6 37 rfl rfl
def am_u1238 : Cond := (Cond.fieldLink "UnlearnedHandModel" (91 : Nat) "UnlearnedHandModel" "rights" "[I")
set_option maxRecDepth 100000 in
theorem am_v1238 : am_u1238 ∈ am_G := am_m6 38 rfl rfl
def am_u1239 : Cond := (Cond.fieldLink "UnlearnedHandModel" (94 : Nat) "UnlearnedHandModel" "wrongNow" "[I")
set_option maxRecDepth 100000 in
theorem am_v1239 : am_u1239 ∈ am_G := am_m6 39 rfl rfl
def am_u1240 : Cond := (Cond.fieldLink "UnlearnedHandModel" (97 : Nat) "UnlearnedHandModel" "bests" "[I")
set_option maxRecDepth 100000 in
theorem am_v1240 : am_u1240 ∈ am_G := am_m6 40 rfl rfl
def am_u1241 : Cond := (Cond.fieldLink "UnlearnedHandModel" (100 : Nat) "UnlearnedHandModel" "sungs" "[I")
set_option maxRecDepth 100000 in
theorem am_v1241 : am_u1241 ∈ am_G := am_m6 41 rfl rfl
def am_u1242 : Cond := (Cond.fieldLink "UnlearnedHandModel" (103 : Nat) "UnlearnedHandModel" "ties" "[I")
set_option maxRecDepth 100000 in
theorem am_v1242 : am_u1242 ∈ am_G := am_m6 42 rfl rfl
def am_u1243 : Cond := (Cond.fieldLink "UnlearnedHandModel" (106 : Nat) "UnlearnedHandModel" "frees" "[I")
set_option maxRecDepth 100000 in
theorem am_v1243 : am_u1243 ∈ am_G := am_m6 43 rfl rfl
def am_u1244 : Cond := (Cond.fieldLink "UnlearnedHandModel" (365 : Nat) "UnlearnedHandModel" "dayNow" "I")
set_option maxRecDepth 100000 in
theorem am_v1244 : am_u1244 ∈ am_G := am_m6 44 rfl rfl
def am_u1245 : Cond := (Cond.fieldLink "UnlearnedHandModel" (109 : Nat) "UnlearnedHandModel" "lesson" "[I")
set_option maxRecDepth 100000 in
theorem am_v1245 : am_u1245 ∈ am_G := am_m6 45 rfl rfl
def am_u1246 : Cond := (Cond.fieldLink "UnlearnedHandModel" (112 : Nat) "UnlearnedHandModel" "bestLesson" "[I")
set_option maxRecDepth 100000 in
theorem am_v1246 : am_u1246 ∈ am_G := am_m6 46 rfl rfl
def am_u1247 : Cond := (Cond.fieldLink "UnlearnedHandModel" (115 : Nat) "UnlearnedHandModel" "asked" "[I")
set_option maxRecDepth 100000 in
theorem am_v1247 : am_u1247 ∈ am_G := am_m6 47 rfl rfl
def am_u1248 : Cond := (Cond.fieldLink "UnlearnedHandModel" (118 : Nat) "UnlearnedHandModel" "stands" "[I")
set_option maxRecDepth 100000 in
theorem am_v1248 : am_u1248 ∈ am_G := am_m6 48 rfl rfl
def am_u1249 : Cond := (Cond.fieldLink "UnlearnedHandModel" (121 : Nat) "UnlearnedHandModel" "firstOrder" "[I")
set_option maxRecDepth 100000 in
theorem am_v1249 : am_u1249 ∈ am_G := am_m6 49 rfl rfl
def am_u1250 : Cond := (Cond.fieldLink "UnlearnedHandModel" (124 : Nat) "UnlearnedHandModel" "had" "[I")
set_option maxRecDepth 100000 in
theorem am_v1250 : am_u1250 ∈ am_G := am_m6 50 rfl rfl
def am_u1361 : Cond := (Cond.methodLink "UnlearnedHandLaw" (17 : Nat) ({ cls := "UnlearnedHandModel", name := "turn", desc := "(I)I" } : Jvm.MethodName))
set_option maxRecDepth 100000 in
theorem am_v1361 : am_u1361 ∈ am_G := am_m6 161 rfl rfl
def am_u1365 : Cond := (Cond.methodLink "UnlearnedHandModel" (131 : Nat) ({ cls := "UnlearnedHandModel", name := "in", desc := "(III)Z" } : Jvm.MethodName))
set_option maxRecDepth 100000 in
theorem am_v1365 : am_u1365 ∈ am_G := am_m6 165 rfl rfl
def am_u1368 : Cond := (Cond.methodLink "UnlearnedHandLaw" (22 : Nat) ({ cls := "UnlearnedHandModel", name := "leads", desc := "(II)Z" } : Jvm.MethodName))
set_option maxRecDepth 100000 in
theorem am_v1368 : am_u1368 ∈ am_G := am_m6 168 rfl rfl
def am_u1372 : Cond := (Cond.methodLink "UnlearnedHandModel" (135 : Nat) ({ cls := "UnlearnedHandModel", name := "isTurn", desc := "(I)Z" } : Jvm.MethodName))
set_option maxRecDepth 100000 in
theorem am_v1372 : am_u1372 ∈ am_G := am_m6 172 rfl rfl
def am_u1376 : Cond := (Cond.methodLink "UnlearnedHandModel" (139 : Nat) ({ cls := "UnlearnedHandModel", name := "has", desc := "(II)Z" } : Jvm.MethodName))
set_option maxRecDepth 100000 in
theorem am_v1376 : am_u1376 ∈ am_G := am_m6 176 rfl rfl
def am_u1379 : Cond := (Cond.methodLink "UnlearnedHandLaw" (26 : Nat) ({ cls := "UnlearnedHandModel", name := "man", desc := "(I)I" } : Jvm.MethodName))
set_option maxRecDepth 100000 in
theorem am_v1379 : am_u1379 ∈ am_G := am_m6 179 rfl rfl
def am_u1383 : Cond := (Cond.methodLink "UnlearnedHandLaw" (30 : Nat) ({ cls := "UnlearnedHandModel", name := "smell", desc := "(I)I" } : Jvm.MethodName))
set_option maxRecDepth 100000 in
theorem am_v1383 : am_u1383 ∈ am_G := am_m6 183 rfl rfl
def am_u1387 : Cond := (Cond.methodLink "UnlearnedHandModel" (143 : Nat) ({ cls := "UnlearnedHandModel", name := "areTurns", desc := "(I)Z" } : Jvm.MethodName))
set_option maxRecDepth 100000 in
theorem am_v1387 : am_u1387 ∈ am_G := am_m6 187 rfl rfl
def am_u1391 : Cond := (Cond.methodLink "UnlearnedHandLaw" (35 : Nat) ({ cls := "UnlearnedHandModel", name := "allow", desc := "(I)Z" } : Jvm.MethodName))
set_option maxRecDepth 100000 in
theorem am_v1391 : am_u1391 ∈ am_G := am_m6 191 rfl rfl
def am_u1395 : Cond := (Cond.methodLink "UnlearnedHandLaw" (104 : Nat) ({ cls := "UnlearnedHandModel", name := "undo", desc := "()I" } : Jvm.MethodName))
set_option maxRecDepth 100000 in
theorem am_v1395 : am_u1395 ∈ am_G := am_m6 195 rfl rfl
def am_u1399 : Cond := (Cond.methodLink "UnlearnedHandLaw" (79 : Nat) ({ cls := "UnlearnedHandModel", name := "feed", desc := "(IIIII)I" } : Jvm.MethodName))
set_option maxRecDepth 100000 in
theorem am_v1399 : am_u1399 ∈ am_G := am_m6 199 rfl rfl
def am_u1403 : Cond := (Cond.methodLink "UnlearnedHandModel" (149 : Nat) ({ cls := "UnlearnedHandModel", name := "put", desc := "(I)V" } : Jvm.MethodName))
set_option maxRecDepth 100000 in
theorem am_v1403 : am_u1403 ∈ am_G := am_m6 203 rfl rfl
def am_u1407 : Cond := (Cond.methodLink "UnlearnedHandLaw" (83 : Nat) ({ cls := "UnlearnedHandModel", name := "end", desc := "(I)I" } : Jvm.MethodName))
set_option maxRecDepth 100000 in
theorem am_v1407 : am_u1407 ∈ am_G := am_m6 207 rfl rfl
def am_u1411 : Cond := (Cond.methodLink "UnlearnedHandLaw" (88 : Nat) ({ cls := "UnlearnedHandModel", name := "text", desc := "()I" } : Jvm.MethodName))
set_option maxRecDepth 100000 in
theorem am_v1411 : am_u1411 ∈ am_G := am_m6 211 rfl rfl
def am_u1415 : Cond := (Cond.methodLink "UnlearnedHandModel" (257 : Nat) ({ cls := "UnlearnedHandModel", name := "next", desc := "()V" } : Jvm.MethodName))
set_option maxRecDepth 100000 in
theorem am_v1415 : am_u1415 ∈ am_G := am_m6 215 rfl rfl
def am_u1419 : Cond := (Cond.methodLink "UnlearnedHandModel" (223 : Nat) ({ cls := "UnlearnedHandModel", name := "isLetter", desc := "(I)Z" } : Jvm.MethodName))
set_option maxRecDepth 100000 in
theorem am_v1419 : am_u1419 ∈ am_G := am_m6 219 rfl rfl
def am_u1422 : Cond := (Cond.constantLong "UnlearnedHandModel" (226 : Nat) (64 : Int64))
set_option maxRecDepth 100000 in
theorem am_v1422 : am_u1422 ∈ am_G := am_m6 222 rfl rfl
def am_u1423 : Cond := (Cond.methodLink "UnlearnedHandModel" (228 : Nat) ({ cls := "UnlearnedHandModel", name := "wordOf", desc := "(J)I" } : Jvm.MethodName))
set_option maxRecDepth 100000 in
theorem am_v1423 : am_u1423 ∈ am_G := am_m6 223 rfl rfl
def am_u1426 : Cond := (Cond.constantLong "UnlearnedHandModel" (153 : Nat) (166003 : Int64))
set_option maxRecDepth 100000 in
theorem am_v1426 : am_u1426 ∈ am_G := am_m6 226 rfl rfl
def am_u1427 : Cond := (Cond.constantLong "UnlearnedHandModel" (155 : Nat) (646334835 : Int64))
set_option maxRecDepth 100000 in
theorem am_v1427 : am_u1427 ∈ am_G := am_m6 227 rfl rfl
def am_u1428 : Cond := (Cond.constantLong "UnlearnedHandModel" (157 : Nat) (617282611 : Int64))
set_option maxRecDepth 100000 in
theorem am_v1428 : am_u1428 ∈ am_G := am_m6 228 rfl rfl
def am_u1429 : Cond := (Cond.constantLong "UnlearnedHandModel" (159 : Nat) (52442335603 : Int64))
set_option maxRecDepth 100000 in
theorem am_v1429 : am_u1429 ∈ am_G := am_m6 229 rfl rfl
def am_u1430 : Cond := (Cond.constantLong "UnlearnedHandModel" (161 : Nat) (882252008 : Int64))
set_option maxRecDepth 100000 in
theorem am_v1430 : am_u1430 ∈ am_G := am_m6 230 rfl rfl
def am_u1431 : Cond := (Cond.constantLong "UnlearnedHandModel" (163 : Nat) (3137267193956 : Int64))
set_option maxRecDepth 100000 in
theorem am_v1431 : am_u1431 ∈ am_G := am_m6 231 rfl rfl
def am_u1432 : Cond := (Cond.constantLong "UnlearnedHandModel" (165 : Nat) (617257899 : Int64))
set_option maxRecDepth 100000 in
theorem am_v1432 : am_u1432 ∈ am_G := am_m6 232 rfl rfl
def am_u1433 : Cond := (Cond.constantLong "UnlearnedHandModel" (167 : Nat) (13540263 : Int64))
set_option maxRecDepth 100000 in
theorem am_v1433 : am_u1433 ∈ am_G := am_m6 233 rfl rfl
def am_u1434 : Cond := (Cond.constantLong "UnlearnedHandModel" (169 : Nat) (215653 : Int64))
set_option maxRecDepth 100000 in
theorem am_v1434 : am_u1434 ∈ am_G := am_m6 234 rfl rfl
def am_u1435 : Cond := (Cond.constantLong "UnlearnedHandModel" (171 : Nat) (867588908 : Int64))
set_option maxRecDepth 100000 in
theorem am_v1435 : am_u1435 ∈ am_G := am_m6 235 rfl rfl
def am_u1436 : Cond := (Cond.constantLong "UnlearnedHandModel" (173 : Nat) (216249 : Int64))
set_option maxRecDepth 100000 in
theorem am_v1436 : am_u1436 ∈ am_G := am_m6 236 rfl rfl
def am_u1437 : Cond := (Cond.constantLong "UnlearnedHandModel" (175 : Nat) (782662196 : Int64))
set_option maxRecDepth 100000 in
theorem am_v1437 : am_u1437 ∈ am_G := am_m6 237 rfl rfl
def am_u1438 : Cond := (Cond.constantLong "UnlearnedHandModel" (177 : Nat) (2670 : Int64))
set_option maxRecDepth 100000 in
theorem am_v1438 : am_u1438 ∈ am_G := am_m6 238 rfl rfl
def am_u1439 : Cond := (Cond.constantLong "UnlearnedHandModel" (179 : Nat) (2233 : Int64))
set_option maxRecDepth 100000 in
theorem am_v1439 : am_u1439 ∈ am_G := am_m6 239 rfl rfl
def am_u1440 : Cond := (Cond.constantLong "UnlearnedHandModel" (181 : Nat) (3046 : Int64))
set_option maxRecDepth 100000 in
theorem am_v1440 : am_u1440 ∈ am_G := am_m7 0 rfl rfl
def am_u1441 : Cond := (Cond.constantLong "UnlearnedHandModel" (183 : Nat) (2164 : Int64))
set_option maxRecDepth 100000 in
theorem am_v1441 : am_u1441 ∈ am_G := am_m7 1 rfl rfl
def am_u1442 : Cond := (Cond.constantLong "UnlearnedHandModel" (185 : Nat) (3058 : Int64))
set_option maxRecDepth 100000 in
theorem am_v1442 : am_u1442 ∈ am_G := am_m7 2 rfl rfl
def am_u1443 : Cond := (Cond.constantLong "UnlearnedHandModel" (187 : Nat) (138148 : Int64))
set_option maxRecDepth 100000 in
theorem am_v1443 : am_u1443 ∈ am_G := am_m7 3 rfl rfl
def am_u1444 : Cond := (Cond.constantLong "UnlearnedHandModel" (189 : Nat) (191476 : Int64))
set_option maxRecDepth 100000 in
theorem am_v1444 : am_u1444 ∈ am_G := am_m7 4 rfl rfl
def am_u1445 : Cond := (Cond.constantLong "UnlearnedHandModel" (191 : Nat) (13302772 : Int64))
set_option maxRecDepth 100000 in
theorem am_v1445 : am_u1445 ∈ am_G := am_m7 5 rfl rfl
def am_u1446 : Cond := (Cond.constantLong "UnlearnedHandModel" (193 : Nat) (13851822 : Int64))
set_option maxRecDepth 100000 in
theorem am_v1446 : am_u1446 ∈ am_G := am_m7 6 rfl rfl
def am_u1447 : Cond := (Cond.constantLong "UnlearnedHandModel" (195 : Nat) (818583845 : Int64))
set_option maxRecDepth 100000 in
theorem am_v1447 : am_u1447 ∈ am_G := am_m7 7 rfl rfl
def am_u1448 : Cond := (Cond.constantLong "UnlearnedHandModel" (197 : Nat) (849771060 : Int64))
set_option maxRecDepth 100000 in
theorem am_v1448 : am_u1448 ∈ am_G := am_m7 8 rfl rfl
def am_u1449 : Cond := (Cond.constantLong "UnlearnedHandModel" (199 : Nat) (936049575 : Int64))
set_option maxRecDepth 100000 in
theorem am_v1449 : am_u1449 ∈ am_G := am_m7 9 rfl rfl
def am_u1450 : Cond := (Cond.constantLong "UnlearnedHandModel" (201 : Nat) (935275816 : Int64))
set_option maxRecDepth 100000 in
theorem am_v1450 : am_u1450 ∈ am_G := am_m7 10 rfl rfl
def am_u1451 : Cond := (Cond.constantLong "UnlearnedHandModel" (203 : Nat) (149625 : Int64))
set_option maxRecDepth 100000 in
theorem am_v1451 : am_u1451 ∈ am_G := am_m7 11 rfl rfl
def am_u1452 : Cond := (Cond.constantLong "UnlearnedHandModel" (205 : Nat) (13589415 : Int64))
set_option maxRecDepth 100000 in
theorem am_v1452 : am_u1452 ∈ am_G := am_m7 12 rfl rfl
def am_u1453 : Cond := (Cond.constantLong "UnlearnedHandModel" (207 : Nat) (13801828 : Int64))
set_option maxRecDepth 100000 in
theorem am_v1453 : am_u1453 ∈ am_G := am_m7 13 rfl rfl
def am_u1454 : Cond := (Cond.constantLong "UnlearnedHandModel" (209 : Nat) (12015848 : Int64))
set_option maxRecDepth 100000 in
theorem am_v1454 : am_u1454 ∈ am_G := am_m7 14 rfl rfl
def am_u1455 : Cond := (Cond.constant "UnlearnedHandModel" (235 : Nat) (99999 : Int32))
set_option maxRecDepth 100000 in
theorem am_v1455 : am_u1455 ∈ am_G := am_m7 15 rfl rfl
def am_u1456 : Cond := (Cond.methodLink "UnlearnedHandModel" (331 : Nat) ({ cls := "UnlearnedHandModel", name := "asks", desc := "()V" } : Jvm.MethodName))
set_option maxRecDepth 100000 in
theorem am_v1456 : am_u1456 ∈ am_G := am_m7 16 rfl rfl
def am_u1460 : Cond := (Cond.methodLink "UnlearnedHandModel" (274 : Nat) ({ cls := "UnlearnedHandModel", name := "isWord", desc := "(I)Z" } : Jvm.MethodName))
set_option maxRecDepth 100000 in
theorem am_v1460 : am_u1460 ∈ am_G := am_m7 20 rfl rfl
def am_u1464 : Cond := (Cond.methodLink "UnlearnedHandModel" (277 : Nat) ({ cls := "UnlearnedHandModel", name := "opensSign", desc := "(I)Z" } : Jvm.MethodName))
set_option maxRecDepth 100000 in
theorem am_v1464 : am_u1464 ∈ am_G := am_m7 24 rfl rfl
def am_u1468 : Cond := (Cond.methodLink "UnlearnedHandModel" (251 : Nat) ({ cls := "UnlearnedHandModel", name := "errs", desc := "(I)V" } : Jvm.MethodName))
set_option maxRecDepth 100000 in
theorem am_v1468 : am_u1468 ∈ am_G := am_m7 28 rfl rfl
def am_u1472 : Cond := (Cond.methodLink "UnlearnedHandModel" (254 : Nat) ({ cls := "UnlearnedHandModel", name := "opensFrame", desc := "(I)V" } : Jvm.MethodName))
set_option maxRecDepth 100000 in
theorem am_v1472 : am_u1472 ∈ am_G := am_m7 32 rfl rfl
def am_u1476 : Cond := (Cond.methodLink "UnlearnedHandModel" (334 : Nat) ({ cls := "UnlearnedHandModel", name := "begins", desc := "()V" } : Jvm.MethodName))
set_option maxRecDepth 100000 in
theorem am_v1476 : am_u1476 ∈ am_G := am_m7 36 rfl rfl
def am_u1480 : Cond := (Cond.methodLink "UnlearnedHandModel" (283 : Nat) ({ cls := "UnlearnedHandModel", name := "nameNow", desc := "()I" } : Jvm.MethodName))
set_option maxRecDepth 100000 in
theorem am_v1480 : am_u1480 ∈ am_G := am_m7 40 rfl rfl
def am_u1484 : Cond := (Cond.methodLink "UnlearnedHandModel" (267 : Nat) ({ cls := "UnlearnedHandModel", name := "emits", desc := "(II)V" } : Jvm.MethodName))
set_option maxRecDepth 100000 in
theorem am_v1484 : am_u1484 ∈ am_G := am_m7 44 rfl rfl
def am_u1488 : Cond := (Cond.methodLink "UnlearnedHandModel" (287 : Nat) ({ cls := "UnlearnedHandModel", name := "oneIsOver", desc := "()V" } : Jvm.MethodName))
set_option maxRecDepth 100000 in
theorem am_v1488 : am_u1488 ∈ am_G := am_m7 48 rfl rfl
def am_u1492 : Cond := (Cond.methodLink "UnlearnedHandModel" (299 : Nat) ({ cls := "UnlearnedHandModel", name := "top", desc := "()I" } : Jvm.MethodName))
set_option maxRecDepth 100000 in
theorem am_v1492 : am_u1492 ∈ am_G := am_m7 52 rfl rfl
def am_u1496 : Cond := (Cond.methodLink "UnlearnedHandModel" (293 : Nat) ({ cls := "UnlearnedHandModel", name := "mayName", desc := "(II)Z" } : Jvm.MethodName))
set_option maxRecDepth 100000 in
theorem am_v1496 : am_u1496 ∈ am_G := am_m7 56 rfl rfl
def am_u1499 : Cond := (Cond.methodLink "UnlearnedHandModel" (296 : Nat) ({ cls := "UnlearnedHandModel", name := "isSign", desc := "(I)Z" } : Jvm.MethodName))
set_option maxRecDepth 100000 in
theorem am_v1499 : am_u1499 ∈ am_G := am_m7 59 rfl rfl
def am_u1503 : Cond := (Cond.methodLink "UnlearnedHandModel" (337 : Nat) ({ cls := "UnlearnedHandModel", name := "goesOn", desc := "()V" } : Jvm.MethodName))
set_option maxRecDepth 100000 in
theorem am_v1503 : am_u1503 ∈ am_G := am_m7 63 rfl rfl
def am_u1507 : Cond := (Cond.methodLink "UnlearnedHandModel" (302 : Nat) ({ cls := "UnlearnedHandModel", name := "waitsFor", desc := "(I)V" } : Jvm.MethodName))
set_option maxRecDepth 100000 in
theorem am_v1507 : am_u1507 ∈ am_G := am_m7 67 rfl rfl
def am_u1511 : Cond := (Cond.methodLink "UnlearnedHandModel" (263 : Nat) ({ cls := "UnlearnedHandModel", name := "rank", desc := "(I)I" } : Jvm.MethodName))
set_option maxRecDepth 100000 in
theorem am_v1511 : am_u1511 ∈ am_G := am_m7 71 rfl rfl
def am_u1514 : Cond := (Cond.methodLink "UnlearnedHandModel" (271 : Nat) ({ cls := "UnlearnedHandModel", name := "works", desc := "(I)V" } : Jvm.MethodName))
set_option maxRecDepth 100000 in
theorem am_v1514 : am_u1514 ∈ am_G := am_m7 74 rfl rfl
def am_u1518 : Cond := (Cond.methodLink "UnlearnedHandModel" (305 : Nat) ({ cls := "UnlearnedHandModel", name := "isAsking", desc := "(I)Z" } : Jvm.MethodName))
set_option maxRecDepth 100000 in
theorem am_v1518 : am_u1518 ∈ am_G := am_m7 78 rfl rfl
def am_u1521 : Cond := (Cond.methodLink "UnlearnedHandModel" (308 : Nat) ({ cls := "UnlearnedHandModel", name := "askIsOver", desc := "()V" } : Jvm.MethodName))
set_option maxRecDepth 100000 in
theorem am_v1521 : am_u1521 ∈ am_G := am_m7 81 rfl rfl
def am_u1525 : Cond := (Cond.methodLink "UnlearnedHandModel" (311 : Nat) ({ cls := "UnlearnedHandModel", name := "clauseIsOver", desc := "()V" } : Jvm.MethodName))
set_option maxRecDepth 100000 in
theorem am_v1525 : am_u1525 ∈ am_G := am_m7 85 rfl rfl
def am_u1529 : Cond := (Cond.methodLink "UnlearnedHandModel" (340 : Nat) ({ cls := "UnlearnedHandModel", name := "asksOn", desc := "()V" } : Jvm.MethodName))
set_option maxRecDepth 100000 in
theorem am_v1529 : am_u1529 ∈ am_G := am_m7 89 rfl rfl
def am_u1533 : Cond := (Cond.methodLink "UnlearnedHandModel" (343 : Nat) ({ cls := "UnlearnedHandModel", name := "clause", desc := "()V" } : Jvm.MethodName))
set_option maxRecDepth 100000 in
theorem am_v1533 : am_u1533 ∈ am_G := am_m7 93 rfl rfl
def am_u1537 : Cond := (Cond.methodLink "UnlearnedHandModel" (325 : Nat) ({ cls := "UnlearnedHandModel", name := "wasTold", desc := "(I)Z" } : Jvm.MethodName))
set_option maxRecDepth 100000 in
theorem am_v1537 : am_u1537 ∈ am_G := am_m7 97 rfl rfl
def am_u1541 : Cond := (Cond.methodLink "UnlearnedHandModel" (328 : Nat) ({ cls := "UnlearnedHandModel", name := "doing", desc := "()V" } : Jvm.MethodName))
set_option maxRecDepth 100000 in
theorem am_v1541 : am_u1541 ∈ am_G := am_m7 101 rfl rfl
def am_u1545 : Cond := (Cond.methodLink "UnlearnedHandModel" (317 : Nat) ({ cls := "UnlearnedHandModel", name := "number", desc := "(II)I" } : Jvm.MethodName))
set_option maxRecDepth 100000 in
theorem am_v1545 : am_u1545 ∈ am_G := am_m7 105 rfl rfl
def am_u1549 : Cond := (Cond.methodLink "UnlearnedHandModel" (321 : Nat) ({ cls := "UnlearnedHandModel", name := "numberBehind", desc := "(III)I" } : Jvm.MethodName))
set_option maxRecDepth 100000 in
theorem am_v1549 : am_u1549 ∈ am_G := am_m7 109 rfl rfl
def am_u1553 : Cond := (Cond.methodLink "UnlearnedHandLaw" (92 : Nat) ({ cls := "UnlearnedHandModel", name := "fault", desc := "(I)I" } : Jvm.MethodName))
set_option maxRecDepth 100000 in
theorem am_v1553 : am_u1553 ∈ am_G := am_m7 113 rfl rfl
def am_u1557 : Cond := (Cond.methodLink "UnlearnedHandLaw" (96 : Nat) ({ cls := "UnlearnedHandModel", name := "by", desc := "(I)Z" } : Jvm.MethodName))
set_option maxRecDepth 100000 in
theorem am_v1557 : am_u1557 ∈ am_G := am_m7 117 rfl rfl
def am_u1561 : Cond := (Cond.methodLink "UnlearnedHandLaw" (70 : Nat) ({ cls := "UnlearnedHandModel", name := "night", desc := "(I)I" } : Jvm.MethodName))
set_option maxRecDepth 100000 in
theorem am_v1561 : am_u1561 ∈ am_G := am_m7 121 rfl rfl
def am_u1565 : Cond := (Cond.methodLink "UnlearnedHandModel" (416 : Nat) ({ cls := "UnlearnedHandModel", name := "keepsStep", desc := "()V" } : Jvm.MethodName))
set_option maxRecDepth 100000 in
theorem am_v1565 : am_u1565 ∈ am_G := am_m7 125 rfl rfl
def am_u1569 : Cond := (Cond.methodLink "UnlearnedHandModel" (419 : Nat) ({ cls := "UnlearnedHandModel", name := "nightDone", desc := "()V" } : Jvm.MethodName))
set_option maxRecDepth 100000 in
theorem am_v1569 : am_u1569 ∈ am_G := am_m7 129 rfl rfl
def am_u1573 : Cond := (Cond.methodLink "UnlearnedHandModel" (407 : Nat) ({ cls := "UnlearnedHandModel", name := "laysNow", desc := "()V" } : Jvm.MethodName))
set_option maxRecDepth 100000 in
theorem am_v1573 : am_u1573 ∈ am_G := am_m7 133 rfl rfl
def am_u1577 : Cond := (Cond.methodLink "UnlearnedHandModel" (410 : Nat) ({ cls := "UnlearnedHandModel", name := "nightGoes", desc := "(Z)V" } : Jvm.MethodName))
set_option maxRecDepth 100000 in
theorem am_v1577 : am_u1577 ∈ am_G := am_m7 137 rfl rfl
def am_u1581 : Cond := (Cond.methodLink "UnlearnedHandModel" (401 : Nat) ({ cls := "UnlearnedHandModel", name := "nightOf", desc := "(I)V" } : Jvm.MethodName))
set_option maxRecDepth 100000 in
theorem am_v1581 : am_u1581 ∈ am_G := am_m7 141 rfl rfl
def am_u1585 : Cond := (Cond.methodLink "UnlearnedHandModel" (385 : Nat) ({ cls := "UnlearnedHandModel", name := "fadesOf", desc := "(II)I" } : Jvm.MethodName))
set_option maxRecDepth 100000 in
theorem am_v1585 : am_u1585 ∈ am_G := am_m7 145 rfl rfl
def am_u1589 : Cond := (Cond.methodLink "UnlearnedHandModel" (368 : Nat) ({ cls := "UnlearnedHandModel", name := "ordersOf", desc := "(I)I" } : Jvm.MethodName))
set_option maxRecDepth 100000 in
theorem am_v1589 : am_u1589 ∈ am_G := am_m7 149 rfl rfl
def am_u1593 : Cond := (Cond.methodLink "UnlearnedHandModel" (371 : Nat) ({ cls := "UnlearnedHandModel", name := "names", desc := "(II)V" } : Jvm.MethodName))
set_option maxRecDepth 100000 in
theorem am_v1593 : am_u1593 ∈ am_G := am_m7 153 rfl rfl
def am_u1597 : Cond := (Cond.methodLink "UnlearnedHandModel" (374 : Nat) ({ cls := "UnlearnedHandModel", name := "saysOf", desc := "(I)J" } : Jvm.MethodName))
set_option maxRecDepth 100000 in
theorem am_v1597 : am_u1597 ∈ am_G := am_m7 157 rfl rfl
def am_u1601 : Cond := (Cond.methodLink "UnlearnedHandModel" (358 : Nat) ({ cls := "UnlearnedHandModel", name := "root", desc := "(J)J" } : Jvm.MethodName))
set_option maxRecDepth 100000 in
theorem am_v1601 : am_u1601 ∈ am_G := am_m7 161 rfl rfl
def am_u1604 : Cond := (Cond.constantLong "UnlearnedHandModel" (354 : Nat) (1024 : Int64))
set_option maxRecDepth 100000 in
theorem am_v1604 : am_u1604 ∈ am_G := am_m7 164 rfl rfl
def am_u1605 : Cond := (Cond.constantLong "UnlearnedHandModel" (356 : Nat) (2 : Int64))
set_option maxRecDepth 100000 in
theorem am_v1605 : am_u1605 ∈ am_G := am_m7 165 rfl rfl
def am_u1606 : Cond := (Cond.methodLink "UnlearnedHandModel" (361 : Nat) ({ cls := "UnlearnedHandModel", name := "worked", desc := "(IJJ)J" } : Jvm.MethodName))
set_option maxRecDepth 100000 in
theorem am_v1606 : am_u1606 ∈ am_G := am_m7 166 rfl rfl
def am_u1609 : Cond := (Cond.methodLink "UnlearnedHandModel" (350 : Nat) ({ cls := "UnlearnedHandModel", name := "bound", desc := "(J)J" } : Jvm.MethodName))
set_option maxRecDepth 100000 in
theorem am_v1609 : am_u1609 ∈ am_G := am_m7 169 rfl rfl
def am_u1612 : Cond := (Cond.constantLong "UnlearnedHandModel" (346 : Nat) (1000000 : Int64))
set_option maxRecDepth 100000 in
theorem am_v1612 : am_u1612 ∈ am_G := am_m7 172 rfl rfl
def am_u1613 : Cond := (Cond.constantLong "UnlearnedHandModel" (348 : Nat) (-1000000 : Int64))
set_option maxRecDepth 100000 in
theorem am_v1613 : am_u1613 ∈ am_G := am_m7 173 rfl rfl
def am_u1614 : Cond := (Cond.methodLink "UnlearnedHandModel" (381 : Nat) ({ cls := "UnlearnedHandModel", name := "held", desc := "(JII)I" } : Jvm.MethodName))
set_option maxRecDepth 100000 in
theorem am_v1614 : am_u1614 ∈ am_G := am_m7 174 rfl rfl
def am_u1617 : Cond := (Cond.methodLink "UnlearnedHandModel" (388 : Nat) ({ cls := "UnlearnedHandModel", name := "dropsOf", desc := "(II)I" } : Jvm.MethodName))
set_option maxRecDepth 100000 in
theorem am_v1617 : am_u1617 ∈ am_G := am_m7 177 rfl rfl
def am_u1621 : Cond := (Cond.methodLink "UnlearnedHandModel" (391 : Nat) ({ cls := "UnlearnedHandModel", name := "setsRight", desc := "(III)V" } : Jvm.MethodName))
set_option maxRecDepth 100000 in
theorem am_v1621 : am_u1621 ∈ am_G := am_m7 181 rfl rfl
def am_u1625 : Cond := (Cond.methodLink "UnlearnedHandModel" (404 : Nat) ({ cls := "UnlearnedHandModel", name := "triesNow", desc := "(I)I" } : Jvm.MethodName))
set_option maxRecDepth 100000 in
theorem am_v1625 : am_u1625 ∈ am_G := am_m7 185 rfl rfl
def am_u1629 : Cond := (Cond.methodLink "UnlearnedHandModel" (395 : Nat) ({ cls := "UnlearnedHandModel", name := "hadBy", desc := "(I)I" } : Jvm.MethodName))
set_option maxRecDepth 100000 in
theorem am_v1629 : am_u1629 ∈ am_G := am_m7 189 rfl rfl
def am_u1633 : Cond := (Cond.methodLink "UnlearnedHandModel" (378 : Nat) ({ cls := "UnlearnedHandModel", name := "isHad", desc := "(II)Z" } : Jvm.MethodName))
set_option maxRecDepth 100000 in
theorem am_v1633 : am_u1633 ∈ am_G := am_m7 193 rfl rfl
def am_u1637 : Cond := (Cond.methodLink "UnlearnedHandModel" (398 : Nat) ({ cls := "UnlearnedHandModel", name := "many", desc := "(I)I" } : Jvm.MethodName))
set_option maxRecDepth 100000 in
theorem am_v1637 : am_u1637 ∈ am_G := am_m7 197 rfl rfl
def am_u1640 : Cond := (Cond.methodLink "UnlearnedHandModel" (413 : Nat) ({ cls := "UnlearnedHandModel", name := "keepsNow", desc := "()V" } : Jvm.MethodName))
set_option maxRecDepth 100000 in
theorem am_v1640 : am_u1640 ∈ am_G := am_m7 200 rfl rfl
def am_u1644 : Cond := (Cond.methodLink "UnlearnedHandModel" (422 : Nat) ({ cls := "UnlearnedHandModel", name := "freeMen", desc := "()I" } : Jvm.MethodName))
set_option maxRecDepth 100000 in
theorem am_v1644 : am_u1644 ∈ am_G := am_m7 204 rfl rfl
def am_u1648 : Cond := (Cond.methodLink "UnlearnedHandLaw" (40 : Nat) ({ cls := "UnlearnedHandModel", name := "teach", desc := "(III)I" } : Jvm.MethodName))
set_option maxRecDepth 100000 in
theorem am_v1648 : am_u1648 ∈ am_G := am_m7 208 rfl rfl
def am_u1652 : Cond := (Cond.methodLink "UnlearnedHandModel" (431 : Nat) ({ cls := "UnlearnedHandModel", name := "mayTeach", desc := "(II)Z" } : Jvm.MethodName))
set_option maxRecDepth 100000 in
theorem am_v1652 : am_u1652 ∈ am_G := am_m7 212 rfl rfl
def am_u1656 : Cond := (Cond.methodLink "UnlearnedHandModel" (428 : Nat) ({ cls := "UnlearnedHandModel", name := "isBound", desc := "(I)Z" } : Jvm.MethodName))
set_option maxRecDepth 100000 in
theorem am_v1656 : am_u1656 ∈ am_G := am_m7 216 rfl rfl
def am_u1660 : Cond := (Cond.methodLink "UnlearnedHandModel" (425 : Nat) ({ cls := "UnlearnedHandModel", name := "isMan", desc := "(I)Z" } : Jvm.MethodName))
set_option maxRecDepth 100000 in
theorem am_v1660 : am_u1660 ∈ am_G := am_m7 220 rfl rfl
def am_u1664 : Cond := (Cond.methodLink "UnlearnedHandModel" (434 : Nat) ({ cls := "UnlearnedHandModel", name := "teaches", desc := "(III)V" } : Jvm.MethodName))
set_option maxRecDepth 100000 in
theorem am_v1664 : am_u1664 ∈ am_G := am_m7 224 rfl rfl
def am_u1668 : Cond := (Cond.methodLink "UnlearnedHandLaw" (44 : Nat) ({ cls := "UnlearnedHandModel", name := "mislead", desc := "(III)I" } : Jvm.MethodName))
set_option maxRecDepth 100000 in
theorem am_v1668 : am_u1668 ∈ am_G := am_m7 228 rfl rfl
def am_u1672 : Cond := (Cond.methodLink "UnlearnedHandModel" (443 : Nat) ({ cls := "UnlearnedHandModel", name := "misleads", desc := "(III)V" } : Jvm.MethodName))
set_option maxRecDepth 100000 in
theorem am_v1672 : am_u1672 ∈ am_G := am_m7 232 rfl rfl
def am_u1676 : Cond := (Cond.methodLink "UnlearnedHandModel" (440 : Nat) ({ cls := "UnlearnedHandModel", name := "misleadsNow", desc := "(III)V" } : Jvm.MethodName))
set_option maxRecDepth 100000 in
theorem am_v1676 : am_u1676 ∈ am_G := am_m7 236 rfl rfl
def am_u1680 : Cond := (Cond.methodLink "UnlearnedHandModel" (437 : Nat) ({ cls := "UnlearnedHandModel", name := "pushesOf", desc := "(III)I" } : Jvm.MethodName))
set_option maxRecDepth 100000 in
theorem am_v1680 : am_u1680 ∈ am_G := am_m8 0 rfl rfl
def am_u1684 : Cond := (Cond.methodLink "UnlearnedHandLaw" (48 : Nat) ({ cls := "UnlearnedHandModel", name := "drink", desc := "(I)Z" } : Jvm.MethodName))
set_option maxRecDepth 100000 in
theorem am_v1684 : am_u1684 ∈ am_G := am_m8 4 rfl rfl
def am_u1688 : Cond := (Cond.methodLink "UnlearnedHandModel" (446 : Nat) ({ cls := "UnlearnedHandModel", name := "drinks", desc := "(I)V" } : Jvm.MethodName))
set_option maxRecDepth 100000 in
theorem am_v1688 : am_u1688 ∈ am_G := am_m8 8 rfl rfl
def am_u1692 : Cond := (Cond.methodLink "UnlearnedHandLaw" (53 : Nat) ({ cls := "UnlearnedHandModel", name := "sing", desc := "(IIZ)Z" } : Jvm.MethodName))
set_option maxRecDepth 100000 in
theorem am_v1692 : am_u1692 ∈ am_G := am_m8 12 rfl rfl
def am_u1696 : Cond := (Cond.methodLink "UnlearnedHandLaw" (57 : Nat) ({ cls := "UnlearnedHandModel", name := "tie", desc := "(II)Z" } : Jvm.MethodName))
set_option maxRecDepth 100000 in
theorem am_v1696 : am_u1696 ∈ am_G := am_m8 16 rfl rfl
def am_u1700 : Cond := (Cond.methodLink "UnlearnedHandLaw" (62 : Nat) ({ cls := "UnlearnedHandModel", name := "smelt", desc := "(II)I" } : Jvm.MethodName))
set_option maxRecDepth 100000 in
theorem am_v1700 : am_u1700 ∈ am_G := am_m8 20 rfl rfl
def am_u1704 : Cond := (Cond.methodLink "UnlearnedHandModel" (449 : Nat) ({ cls := "UnlearnedHandModel", name := "comesBack", desc := "(I)I" } : Jvm.MethodName))
set_option maxRecDepth 100000 in
theorem am_v1704 : am_u1704 ∈ am_G := am_m8 24 rfl rfl
def am_u1708 : Cond := (Cond.methodLink "UnlearnedHandLaw" (66 : Nat) ({ cls := "UnlearnedHandModel", name := "tried", desc := "(I)I" } : Jvm.MethodName))
set_option maxRecDepth 100000 in
theorem am_v1708 : am_u1708 ∈ am_G := am_m8 28 rfl rfl
def am_u1712 : Cond := (Cond.methodLink "UnlearnedHandLaw" (74 : Nat) ({ cls := "UnlearnedHandModel", name := "winters", desc := "(II)I" } : Jvm.MethodName))
set_option maxRecDepth 100000 in
theorem am_v1712 : am_u1712 ∈ am_G := am_m8 32 rfl rfl
def am_u1716 : Cond := (Cond.methodLink "UnlearnedHandModel" (455 : Nat) ({ cls := "UnlearnedHandModel", name := "happens", desc := "()V" } : Jvm.MethodName))
set_option maxRecDepth 100000 in
theorem am_v1716 : am_u1716 ∈ am_G := am_m8 36 rfl rfl
def am_u1720 : Cond := (Cond.methodLink "UnlearnedHandModel" (452 : Nat) ({ cls := "UnlearnedHandModel", name := "draw", desc := "(I)I" } : Jvm.MethodName))
set_option maxRecDepth 100000 in
theorem am_v1720 : am_u1720 ∈ am_G := am_m8 40 rfl rfl
def am_u1724 : Cond := (Cond.methodLink "UnlearnedHandLaw" (100 : Nat) ({ cls := "UnlearnedHandModel", name := "played", desc := "(I)I" } : Jvm.MethodName))
set_option maxRecDepth 100000 in
theorem am_v1724 : am_u1724 ∈ am_G := am_m8 44 rfl rfl
def am_u1728 : Cond := (Cond.methodLink "UnlearnedHandModel" (461 : Nat) ({ cls := "UnlearnedHandModel", name := "teach", desc := "(III)I" } : Jvm.MethodName))
set_option maxRecDepth 100000 in
theorem am_v1728 : am_u1728 ∈ am_G := am_m8 48 rfl rfl
def am_u1729 : Cond := (Cond.methodLink "UnlearnedHandModel" (464 : Nat) ({ cls := "UnlearnedHandModel", name := "mislead", desc := "(III)I" } : Jvm.MethodName))
set_option maxRecDepth 100000 in
theorem am_v1729 : am_u1729 ∈ am_G := am_m8 49 rfl rfl
def am_u1730 : Cond := (Cond.methodLink "UnlearnedHandModel" (467 : Nat) ({ cls := "UnlearnedHandModel", name := "drink", desc := "(I)Z" } : Jvm.MethodName))
set_option maxRecDepth 100000 in
theorem am_v1730 : am_u1730 ∈ am_G := am_m8 50 rfl rfl
def am_u1731 : Cond := (Cond.methodLink "UnlearnedHandModel" (470 : Nat) ({ cls := "UnlearnedHandModel", name := "sing", desc := "(IIZ)Z" } : Jvm.MethodName))
set_option maxRecDepth 100000 in
theorem am_v1731 : am_u1731 ∈ am_G := am_m8 51 rfl rfl
def am_u1732 : Cond := (Cond.methodLink "UnlearnedHandModel" (474 : Nat) ({ cls := "UnlearnedHandModel", name := "tie", desc := "(II)Z" } : Jvm.MethodName))
set_option maxRecDepth 100000 in
theorem am_v1732 : am_u1732 ∈ am_G := am_m8 52 rfl rfl
def am_u1733 : Cond := (Cond.methodLink "UnlearnedHandModel" (477 : Nat) ({ cls := "UnlearnedHandModel", name := "smelt", desc := "(II)I" } : Jvm.MethodName))
set_option maxRecDepth 100000 in
theorem am_v1733 : am_u1733 ∈ am_G := am_m8 53 rfl rfl
def am_u1734 : Cond := (Cond.methodLink "UnlearnedHandModel" (480 : Nat) ({ cls := "UnlearnedHandModel", name := "tried", desc := "(I)I" } : Jvm.MethodName))
set_option maxRecDepth 100000 in
theorem am_v1734 : am_u1734 ∈ am_G := am_m8 54 rfl rfl
def am_u1735 : Cond := (Cond.methodLink "UnlearnedHandModel" (483 : Nat) ({ cls := "UnlearnedHandModel", name := "nights", desc := "(I)Z" } : Jvm.MethodName))
set_option maxRecDepth 100000 in
theorem am_v1735 : am_u1735 ∈ am_G := am_m8 55 rfl rfl
def am_u1739 : Cond := (Cond.methodLink "UnlearnedHandModel" (458 : Nat) ({ cls := "UnlearnedHandModel", name := "night", desc := "(I)I" } : Jvm.MethodName))
set_option maxRecDepth 100000 in
theorem am_v1739 : am_u1739 ∈ am_G := am_m8 59 rfl rfl
def am_u1740 : Cond := (Cond.methodLink "UnlearnedHandLaw" (108 : Nat) ({ cls := "UnlearnedHandModel", name := "of", desc := "(II)I" } : Jvm.MethodName))
set_option maxRecDepth 100000 in
theorem am_v1740 : am_u1740 ∈ am_G := am_m8 60 rfl rfl
def am_u1744 : Cond := (Cond.methodLink "UnlearnedHandLaw" (112 : Nat) ({ cls := "UnlearnedHandModel", name := "hand", desc := "(III)I" } : Jvm.MethodName))
set_option maxRecDepth 100000 in
theorem am_v1744 : am_u1744 ∈ am_G := am_m8 64 rfl rfl
def am_u1748 : Cond := (Cond.methodLink "UnlearnedHandLaw" (116 : Nat) ({ cls := "UnlearnedHandModel", name := "ofTurn", desc := "(II)I" } : Jvm.MethodName))
set_option maxRecDepth 100000 in
theorem am_v1748 : am_u1748 ∈ am_G := am_m8 68 rfl rfl
def am_u1752 : Cond := (Cond.methodLink "UnlearnedHandLaw" (120 : Nat) ({ cls := "UnlearnedHandModel", name := "foretold", desc := "(II)I" } : Jvm.MethodName))
set_option maxRecDepth 100000 in
theorem am_v1752 : am_u1752 ∈ am_G := am_m8 72 rfl rfl
def am_u1756 : Cond := (Cond.methodLink "UnlearnedHandLaw" (124 : Nat) ({ cls := "UnlearnedHandModel", name := "free", desc := "(II)I" } : Jvm.MethodName))
set_option maxRecDepth 100000 in
theorem am_v1756 : am_u1756 ∈ am_G := am_m8 76 rfl rfl
def am_u1760 : Cond := (Cond.methodLink "UnlearnedHandLaw" (128 : Nat) ({ cls := "UnlearnedHandModel", name := "lasts", desc := "(II)I" } : Jvm.MethodName))
set_option maxRecDepth 100000 in
theorem am_v1760 : am_u1760 ∈ am_G := am_m8 80 rfl rfl
def am_u1764 : Cond := (Cond.methodLink "UnlearnedHandLaw" (132 : Nat) ({ cls := "UnlearnedHandModel", name := "wrongs", desc := "(IIIII)I" } : Jvm.MethodName))
set_option maxRecDepth 100000 in
theorem am_v1764 : am_u1764 ∈ am_G := am_m8 84 rfl rfl
def am_u1768 : Cond := (Cond.methodLink "UnlearnedHandModel" (486 : Nat) ({ cls := "UnlearnedHandModel", name := "laysLessons", desc := "(II)I" } : Jvm.MethodName))
set_option maxRecDepth 100000 in
theorem am_v1768 : am_u1768 ∈ am_G := am_m8 88 rfl rfl
def am_u1772 : Cond := (Cond.methodLink "UnlearnedHandModel" (489 : Nat) ({ cls := "UnlearnedHandModel", name := "leftBy", desc := "(III)I" } : Jvm.MethodName))
set_option maxRecDepth 100000 in
theorem am_v1772 : am_u1772 ∈ am_G := am_m8 92 rfl rfl
def am_u1776 : Cond := (Cond.methodLink "UnlearnedHandLaw" (137 : Nat) ({ cls := "UnlearnedHandModel", name := "done", desc := "(IZ)I" } : Jvm.MethodName))
set_option maxRecDepth 100000 in
theorem am_v1776 : am_u1776 ∈ am_G := am_m8 96 rfl rfl
def am_u1780 : Cond := (Cond.methodLink "UnlearnedHandLaw" (142 : Nat) ({ cls := "UnlearnedHandModel", name := "sets", desc := "(ZI)I" } : Jvm.MethodName))
set_option maxRecDepth 100000 in
theorem am_v1780 : am_u1780 ∈ am_G := am_m8 100 rfl rfl
def am_u1784 : Cond := (Cond.methodLink "UnlearnedHandModel" (495 : Nat) ({ cls := "UnlearnedHandModel", name := "maySet", desc := "(IZ)Z" } : Jvm.MethodName))
set_option maxRecDepth 100000 in
theorem am_v1784 : am_u1784 ∈ am_G := am_m8 104 rfl rfl
def am_u1788 : Cond := (Cond.methodLink "UnlearnedHandModel" (492 : Nat) ({ cls := "UnlearnedHandModel", name := "isLedTo", desc := "(II)Z" } : Jvm.MethodName))
set_option maxRecDepth 100000 in
theorem am_v1788 : am_u1788 ∈ am_G := am_m8 108 rfl rfl
def am_u1792 : Cond := (Cond.methodLink "UnlearnedHandLaw" (147 : Nat) ({ cls := "UnlearnedHandModel", name := "shammed", desc := "(IIIZ)J" } : Jvm.MethodName))
set_option maxRecDepth 100000 in
theorem am_v1792 : am_u1792 ∈ am_G := am_m8 112 rfl rfl
def am_u1796 : Cond := (Cond.constantLong "UnlearnedHandModel" (503 : Nat) (-1 : Int64))
set_option maxRecDepth 100000 in
theorem am_v1796 : am_u1796 ∈ am_G := am_m8 116 rfl rfl
def am_u1797 : Cond := (Cond.constantLong "UnlearnedHandModel" (505 : Nat) (10 : Int64))
set_option maxRecDepth 100000 in
theorem am_v1797 : am_u1797 ∈ am_G := am_m8 117 rfl rfl
def am_u1798 : Cond := (Cond.methodLink "UnlearnedHandModel" (507 : Nat) ({ cls := "UnlearnedHandModel", name := "inLowest", desc := "(JJZ)J" } : Jvm.MethodName))
set_option maxRecDepth 100000 in
theorem am_v1798 : am_u1798 ∈ am_G := am_m8 118 rfl rfl
def am_u1801 : Cond := (Cond.methodLink "UnlearnedHandModel" (499 : Nat) ({ cls := "UnlearnedHandModel", name := "common", desc := "(JJ)J" } : Jvm.MethodName))
set_option maxRecDepth 100000 in
theorem am_v1801 : am_u1801 ∈ am_G := am_m8 121 rfl rfl
def am_u1804 : Cond := (Cond.methodLink "UnlearnedHandLaw" (151 : Nat) ({ cls := "UnlearnedHandModel", name := "halves", desc := "(III)I" } : Jvm.MethodName))
set_option maxRecDepth 100000 in
theorem am_v1804 : am_u1804 ∈ am_G := am_m8 124 rfl rfl
def am_u1808 : Cond := (Cond.methodLink "UnlearnedHandLaw" (155 : Nat) ({ cls := "UnlearnedHandModel", name := "back", desc := "(I)I" } : Jvm.MethodName))
set_option maxRecDepth 100000 in
theorem am_v1808 : am_u1808 ∈ am_G := am_m8 128 rfl rfl
def am_u1812 : Cond := (Cond.methodLink "UnlearnedHandModel" (511 : Nat) ({ cls := "UnlearnedHandModel", name := "comesBackBy", desc := "(I)I" } : Jvm.MethodName))
set_option maxRecDepth 100000 in
theorem am_v1812 : am_u1812 ∈ am_G := am_m8 132 rfl rfl
def am_u1816 : Cond := (Cond.methodLink "UnlearnedHandLaw" (159 : Nat) ({ cls := "UnlearnedHandModel", name := "fewSmells", desc := "(I)I" } : Jvm.MethodName))
set_option maxRecDepth 100000 in
theorem am_v1816 : am_u1816 ∈ am_G := am_m8 136 rfl rfl
def am_u1820 : Cond := (Cond.methodLink "UnlearnedHandLaw" (164 : Nat) ({ cls := "UnlearnedHandModel", name := "trial", desc := "(III)J" } : Jvm.MethodName))
set_option maxRecDepth 100000 in
theorem am_v1820 : am_u1820 ∈ am_G := am_m8 140 rfl rfl
def am_u1824 : Cond := (Cond.constantLong "UnlearnedHandModel" (519 : Nat) (-100 : Int64))
set_option maxRecDepth 100000 in
theorem am_v1824 : am_u1824 ∈ am_G := am_m8 144 rfl rfl
def am_u1825 : Cond := (Cond.methodLink "UnlearnedHandModel" (521 : Nat) ({ cls := "UnlearnedHandModel", name := "laysTurns", desc := "(I)I" } : Jvm.MethodName))
set_option maxRecDepth 100000 in
theorem am_v1825 : am_u1825 ∈ am_G := am_m8 145 rfl rfl
def am_u1829 : Cond := (Cond.methodLink "UnlearnedHandModel" (514 : Nat) ({ cls := "UnlearnedHandModel", name := "waysOf", desc := "(I)I" } : Jvm.MethodName))
set_option maxRecDepth 100000 in
theorem am_v1829 : am_u1829 ∈ am_G := am_m8 149 rfl rfl
def am_u1832 : Cond := (Cond.methodLink "UnlearnedHandModel" (524 : Nat) ({ cls := "UnlearnedHandModel", name := "laysOrder", desc := "(II)V" } : Jvm.MethodName))
set_option maxRecDepth 100000 in
theorem am_v1832 : am_u1832 ∈ am_G := am_m8 152 rfl rfl
def am_u1836 : Cond := (Cond.methodLink "UnlearnedHandModel" (527 : Nat) ({ cls := "UnlearnedHandModel", name := "costOf", desc := "(II)J" } : Jvm.MethodName))
set_option maxRecDepth 100000 in
theorem am_v1836 : am_u1836 ∈ am_G := am_m8 156 rfl rfl
def am_u1840 : Cond := (Cond.constantLong "UnlearnedHandModel" (517 : Nat) (100 : Int64))
set_option maxRecDepth 100000 in
theorem am_v1840 : am_u1840 ∈ am_G := am_m8 160 rfl rfl
def am_u1841 : Cond := (Cond.methodLink "UnlearnedHandModel" (531 : Nat) ({ cls := "UnlearnedHandModel", name := "keepsOrder", desc := "(I)V" } : Jvm.MethodName))
set_option maxRecDepth 100000 in
theorem am_v1841 : am_u1841 ∈ am_G := am_m8 161 rfl rfl
def am_u1845 : Cond := (Cond.methodLink "UnlearnedHandLaw" (168 : Nat) ({ cls := "UnlearnedHandModel", name := "told", desc := "(II)I" } : Jvm.MethodName))
set_option maxRecDepth 100000 in
theorem am_v1845 : am_u1845 ∈ am_G := am_m8 165 rfl rfl
def am_u1849 : Cond := (Cond.methodLink "UnlearnedHandModel" (534 : Nat) ({ cls := "UnlearnedHandModel", name := "isOrder", desc := "(II)Z" } : Jvm.MethodName))
set_option maxRecDepth 100000 in
theorem am_v1849 : am_u1849 ∈ am_G := am_m8 169 rfl rfl
def am_u1853 : Cond := (Cond.methodLink "UnlearnedHandLaw" (172 : Nat) ({ cls := "UnlearnedHandModel", name := "spies", desc := "(I)I" } : Jvm.MethodName))
set_option maxRecDepth 100000 in
theorem am_v1853 : am_u1853 ∈ am_G := am_m8 173 rfl rfl
def am_u1857 : Cond := (Cond.methodLink "UnlearnedHandModel" (540 : Nat) ({ cls := "UnlearnedHandModel", name := "laysHad", desc := "()V" } : Jvm.MethodName))
set_option maxRecDepth 100000 in
theorem am_v1857 : am_u1857 ∈ am_G := am_m8 177 rfl rfl
def am_u1861 : Cond := (Cond.methodLink "UnlearnedHandModel" (543 : Nat) ({ cls := "UnlearnedHandModel", name := "hadByAll", desc := "(I)I" } : Jvm.MethodName))
set_option maxRecDepth 100000 in
theorem am_v1861 : am_u1861 ∈ am_G := am_m8 181 rfl rfl
def am_u1865 : Cond := (Cond.methodLink "UnlearnedHandModel" (546 : Nat) ({ cls := "UnlearnedHandModel", name := "worthByEach", desc := "(I)I" } : Jvm.MethodName))
set_option maxRecDepth 100000 in
theorem am_v1865 : am_u1865 ∈ am_G := am_m8 185 rfl rfl
def am_u1869 : Cond := (Cond.methodLink "UnlearnedHandModel" (537 : Nat) ({ cls := "UnlearnedHandModel", name := "worthOf", desc := "(I)I" } : Jvm.MethodName))
set_option maxRecDepth 100000 in
theorem am_v1869 : am_u1869 ∈ am_G := am_m8 189 rfl rfl
def am_u1873 : Cond := (Cond.methodLink "UnlearnedHandLaw" (176 : Nat) ({ cls := "UnlearnedHandModel", name := "sold", desc := "(I)I" } : Jvm.MethodName))
set_option maxRecDepth 100000 in
theorem am_v1873 : am_u1873 ∈ am_G := am_m8 193 rfl rfl
def am_u1877 : Cond := (Cond.methodLink "UnlearnedHandLaw" (180 : Nat) ({ cls := "UnlearnedHandModel", name := "image", desc := "()I" } : Jvm.MethodName))
set_option maxRecDepth 100000 in
theorem am_v1877 : am_u1877 ∈ am_G := am_m8 197 rfl rfl
def am_u1881 : Cond := (Cond.methodLink "UnlearnedHandLaw" (184 : Nat) ({ cls := "UnlearnedHandModel", name := "again", desc := "()I" } : Jvm.MethodName))
set_option maxRecDepth 100000 in
theorem am_v1881 : am_u1881 ∈ am_G := am_m8 201 rfl rfl
def am_u1885 : Cond := (Cond.methodLink "UnlearnedHandLaw" (188 : Nat) ({ cls := "UnlearnedHandModel", name := "about", desc := "(I)I" } : Jvm.MethodName))
set_option maxRecDepth 100000 in
theorem am_v1885 : am_u1885 ∈ am_G := am_m8 205 rfl rfl
def am_u1889 : Cond := (Cond.fieldLink "java/lang/String" (9 : Nat) "java/lang/String" "value" "[B")
set_option maxRecDepth 100000 in
theorem am_v1889 : am_u1889 ∈ am_G := am_m8 209 rfl rfl
def am_u1890 : Cond := (Cond.fieldLink "java/lang/String" (15 : Nat) "java/lang/String" "coder" "B")
set_option maxRecDepth 100000 in
theorem am_v1890 : am_u1890 ∈ am_G := am_m8 210 rfl rfl
