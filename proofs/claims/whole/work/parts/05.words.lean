def tG : List Cond := lw_tbl.filter goodWord
theorem tG_in : ∀ w ∈ tG, w ∈ lw_tbl := fun w h => (List.mem_filter.mp h).1
theorem tG_good : ∀ w ∈ tG, goodWord w = true := fun w h => (List.mem_filter.mp h).2
theorem tG_of {w : Cond} (h : w ∈ tables_1) (g : goodWord w = true) : w ∈ tG := List.mem_filter.mpr ⟨List.mem_append_right _ h, g⟩
theorem tG_sel {q : MethodName × Nat} (h : q ∈ lw_privs) : Cond.selects q.1.cls q.1 q.1 ∈ tG := List.mem_filter.mpr ⟨List.mem_append_left _ (List.mem_map.mpr ⟨q, h, rfl⟩), by rfl⟩
set_option maxRecDepth 100000 in
theorem wd_0 : (Cond.initialized "TrainGuardLaw") ∈ tG := tG_of (List.mem_of_getElem? (i := 0) (by rfl)) (by rfl)
set_option maxRecDepth 100000 in
theorem wd_1 : (Cond.initialized "TrainGuard") ∈ tG := tG_of (List.mem_of_getElem? (i := 1) (by rfl)) (by rfl)
set_option maxRecDepth 100000 in
theorem wd_2 : (Cond.initialized "TrainGuard$Line") ∈ tG := tG_of (List.mem_of_getElem? (i := 2) (by rfl)) (by rfl)
set_option maxRecDepth 100000 in
theorem wd_3 : (Cond.initialized "TrainGuard$Train") ∈ tG := tG_of (List.mem_of_getElem? (i := 3) (by rfl)) (by rfl)
set_option maxRecDepth 100000 in
theorem wd_4 : (Cond.initialized "TrainGuard$Message") ∈ tG := tG_of (List.mem_of_getElem? (i := 4) (by rfl)) (by rfl)
set_option maxRecDepth 100000 in
theorem wd_5 : (Cond.initialized "TrainGuardModel") ∈ tG := tG_of (List.mem_of_getElem? (i := 5) (by rfl)) (by rfl)
set_option maxRecDepth 100000 in
theorem wd_6 : (Cond.initialized "java/lang/Throwable") ∈ tG := tG_of (List.mem_of_getElem? (i := 6) (by rfl)) (by rfl)
set_option maxRecDepth 100000 in
theorem wd_7 : (Cond.initialized "java/lang/Exception") ∈ tG := tG_of (List.mem_of_getElem? (i := 7) (by rfl)) (by rfl)
set_option maxRecDepth 100000 in
theorem wd_8 : (Cond.initialized "java/lang/RuntimeException") ∈ tG := tG_of (List.mem_of_getElem? (i := 8) (by rfl)) (by rfl)
set_option maxRecDepth 100000 in
theorem wd_9 : (Cond.initialized "java/lang/IllegalArgumentException") ∈ tG := tG_of (List.mem_of_getElem? (i := 9) (by rfl)) (by rfl)
set_option maxRecDepth 100000 in
theorem wd_10 : (Cond.initialized "java/lang/IllegalStateException") ∈ tG := tG_of (List.mem_of_getElem? (i := 10) (by rfl)) (by rfl)
set_option maxRecDepth 100000 in
theorem wd_11 : (Cond.initialized "java/lang/UnsupportedOperationException") ∈ tG := tG_of (List.mem_of_getElem? (i := 11) (by rfl)) (by rfl)
set_option maxRecDepth 100000 in
theorem wd_12 : (Cond.initialized "java/util/NoSuchElementException") ∈ tG := tG_of (List.mem_of_getElem? (i := 12) (by rfl)) (by rfl)
set_option maxRecDepth 100000 in
theorem wd_13 : (Cond.classLink "TrainGuardLaw" (8 : Nat) "TrainGuard") ∈ tG := tG_of (List.mem_of_getElem? (i := 13) (by rfl)) (by rfl)
set_option maxRecDepth 100000 in
theorem wd_14 : (Cond.instantiable "TrainGuard" (6 : Nat)) ∈ tG := tG_of (List.mem_of_getElem? (i := 14) (by rfl)) (by rfl)
set_option maxRecDepth 100000 in
theorem wd_15 : (Cond.methodLink "TrainGuardLaw" (74 : Nat) ({ cls := "TrainGuard", name := "<init>", desc := "()V" } : Jvm.MethodName)) ∈ tG := tG_of (List.mem_of_getElem? (i := 15) (by rfl)) (by rfl)
set_option maxRecDepth 100000 in
theorem wd_16 : (Cond.instanceMethod ({ cls := "TrainGuard", name := "<init>", desc := "()V" } : Jvm.MethodName)) ∈ tG := tG_of (List.mem_of_getElem? (i := 16) (by rfl)) (by rfl)
set_option maxRecDepth 100000 in
theorem wd_17 : (Cond.code ({ cls := "TrainGuard", name := "<init>", desc := "()V" } : Jvm.MethodName) prog_1_method_1_code (2 : Nat) (Option.none : Option Jvm.ClassFile.FieldType)) ∈ tG := tG_of (List.mem_of_getElem? (i := 17) (by rfl)) (by rfl)
set_option maxRecDepth 100000 in
theorem wd_18 : (Cond.methodLink "TrainGuard" (1 : Nat) ({ cls := "java/lang/Object", name := "<init>", desc := "()V" } : Jvm.MethodName)) ∈ tG := tG_of (List.mem_of_getElem? (i := 18) (by rfl)) (by rfl)
set_option maxRecDepth 100000 in
theorem wd_19 : (Cond.instanceMethod ({ cls := "java/lang/Object", name := "<init>", desc := "()V" } : Jvm.MethodName)) ∈ tG := tG_of (List.mem_of_getElem? (i := 19) (by rfl)) (by rfl)
set_option maxRecDepth 100000 in
theorem wd_20 : (Cond.code ({ cls := "java/lang/Object", name := "<init>", desc := "()V" } : Jvm.MethodName) object_method_1_code (1 : Nat) (Option.none : Option Jvm.ClassFile.FieldType)) ∈ tG := tG_of (List.mem_of_getElem? (i := 20) (by rfl)) (by rfl)
set_option maxRecDepth 100000 in
theorem wd_21 : (Cond.classLink "TrainGuard" (7 : Nat) "TrainGuard$Line") ∈ tG := tG_of (List.mem_of_getElem? (i := 21) (by rfl)) (by rfl)
set_option maxRecDepth 100000 in
theorem wd_22 : (Cond.instantiable "TrainGuard$Line" (8 : Nat)) ∈ tG := tG_of (List.mem_of_getElem? (i := 22) (by rfl)) (by rfl)
set_option maxRecDepth 100000 in
theorem wd_24 : (Cond.instanceMethod ({ cls := "TrainGuard$Line", name := "<init>", desc := "()V" } : Jvm.MethodName)) ∈ tG := tG_of (List.mem_of_getElem? (i := 24) (by rfl)) (by rfl)
set_option maxRecDepth 100000 in
theorem wd_25 : (Cond.code ({ cls := "TrainGuard$Line", name := "<init>", desc := "()V" } : Jvm.MethodName) prog_2_method_1_code (1 : Nat) (Option.none : Option Jvm.ClassFile.FieldType)) ∈ tG := tG_of (List.mem_of_getElem? (i := 25) (by rfl)) (by rfl)
set_option maxRecDepth 100000 in
theorem wd_26 : (Cond.methodLink "TrainGuard$Line" (3 : Nat) ({ cls := "java/lang/Object", name := "<init>", desc := "()V" } : Jvm.MethodName)) ∈ tG := tG_of (List.mem_of_getElem? (i := 26) (by rfl)) (by rfl)
set_option maxRecDepth 100000 in
theorem wd_27 : (Cond.fieldLink "TrainGuard$Line" (9 : Nat) "TrainGuard$Line" "begins" "[D") ∈ tG := tG_of (List.mem_of_getElem? (i := 27) (by rfl)) (by rfl)
set_option maxRecDepth 100000 in
theorem wd_28 : (Cond.fieldLink "TrainGuard$Line" (15 : Nat) "TrainGuard$Line" "speeds" "[D") ∈ tG := tG_of (List.mem_of_getElem? (i := 28) (by rfl)) (by rfl)
set_option maxRecDepth 100000 in
theorem wd_29 : (Cond.fieldLink "TrainGuard$Line" (18 : Nat) "TrainGuard$Line" "holders" "[I") ∈ tG := tG_of (List.mem_of_getElem? (i := 29) (by rfl)) (by rfl)
set_option maxRecDepth 100000 in
theorem wd_31 : (Cond.fieldLink "TrainGuard$Line" (22 : Nat) "TrainGuard$Line" "froms" "[D") ∈ tG := tG_of (List.mem_of_getElem? (i := 31) (by rfl)) (by rfl)
set_option maxRecDepth 100000 in
theorem wd_32 : (Cond.fieldLink "TrainGuard$Line" (25 : Nat) "TrainGuard$Line" "tos" "[D") ∈ tG := tG_of (List.mem_of_getElem? (i := 32) (by rfl)) (by rfl)
set_option maxRecDepth 100000 in
theorem wd_33 : (Cond.fieldLink "TrainGuard$Line" (28 : Nat) "TrainGuard$Line" "caps" "[D") ∈ tG := tG_of (List.mem_of_getElem? (i := 33) (by rfl)) (by rfl)
set_option maxRecDepth 100000 in
theorem wd_34 : (Cond.fieldLink "TrainGuard$Line" (31 : Nat) "TrainGuard$Line" "sectionCount" "I") ∈ tG := tG_of (List.mem_of_getElem? (i := 34) (by rfl)) (by rfl)
set_option maxRecDepth 100000 in
theorem wd_36 : (Cond.fieldLink "TrainGuard$Line" (35 : Nat) "TrainGuard$Line" "restrictionCount" "I") ∈ tG := tG_of (List.mem_of_getElem? (i := 36) (by rfl)) (by rfl)
set_option maxRecDepth 100000 in
theorem wd_38 : (Cond.laysFinal "TrainGuard$Line" "TrainGuard$Line" "begins" "[D") ∈ tG := tG_of (List.mem_of_getElem? (i := 38) (by rfl)) (by rfl)
set_option maxRecDepth 100000 in
theorem wd_40 : (Cond.laysFinal "TrainGuard$Line" "TrainGuard$Line" "speeds" "[D") ∈ tG := tG_of (List.mem_of_getElem? (i := 40) (by rfl)) (by rfl)
set_option maxRecDepth 100000 in
theorem wd_42 : (Cond.laysFinal "TrainGuard$Line" "TrainGuard$Line" "holders" "[I") ∈ tG := tG_of (List.mem_of_getElem? (i := 42) (by rfl)) (by rfl)
set_option maxRecDepth 100000 in
theorem wd_44 : (Cond.laysFinal "TrainGuard$Line" "TrainGuard$Line" "froms" "[D") ∈ tG := tG_of (List.mem_of_getElem? (i := 44) (by rfl)) (by rfl)
set_option maxRecDepth 100000 in
theorem wd_46 : (Cond.laysFinal "TrainGuard$Line" "TrainGuard$Line" "tos" "[D") ∈ tG := tG_of (List.mem_of_getElem? (i := 46) (by rfl)) (by rfl)
set_option maxRecDepth 100000 in
theorem wd_48 : (Cond.laysFinal "TrainGuard$Line" "TrainGuard$Line" "caps" "[D") ∈ tG := tG_of (List.mem_of_getElem? (i := 48) (by rfl)) (by rfl)
set_option maxRecDepth 100000 in
theorem wd_50 : (Cond.lays "TrainGuard$Line" "TrainGuard$Line" "sectionCount" "I") ∈ tG := tG_of (List.mem_of_getElem? (i := 50) (by rfl)) (by rfl)
set_option maxRecDepth 100000 in
theorem wd_52 : (Cond.lays "TrainGuard$Line" "TrainGuard$Line" "restrictionCount" "I") ∈ tG := tG_of (List.mem_of_getElem? (i := 52) (by rfl)) (by rfl)
set_option maxRecDepth 100000 in
theorem wd_55 : (Cond.arrayClass Jvm.ClassFile.FieldType.double) ∈ tG := tG_of (List.mem_of_getElem? (i := 55) (by rfl)) (by rfl)
set_option maxRecDepth 100000 in
theorem wd_56 : (Cond.arrayClass Jvm.ClassFile.FieldType.int) ∈ tG := tG_of (List.mem_of_getElem? (i := 56) (by rfl)) (by rfl)
set_option maxRecDepth 100000 in
theorem wd_57 : (Cond.classLink "TrainGuard" (16 : Nat) "TrainGuard$Train") ∈ tG := tG_of (List.mem_of_getElem? (i := 57) (by rfl)) (by rfl)
set_option maxRecDepth 100000 in
theorem wd_59 : (Cond.instantiable "TrainGuard$Train" (11 : Nat)) ∈ tG := tG_of (List.mem_of_getElem? (i := 59) (by rfl)) (by rfl)
set_option maxRecDepth 100000 in
theorem wd_61 : (Cond.instanceMethod ({ cls := "TrainGuard$Train", name := "<init>", desc := "()V" } : Jvm.MethodName)) ∈ tG := tG_of (List.mem_of_getElem? (i := 61) (by rfl)) (by rfl)
set_option maxRecDepth 100000 in
theorem wd_62 : (Cond.code ({ cls := "TrainGuard$Train", name := "<init>", desc := "()V" } : Jvm.MethodName) prog_4_method_1_code (1 : Nat) (Option.none : Option Jvm.ClassFile.FieldType)) ∈ tG := tG_of (List.mem_of_getElem? (i := 62) (by rfl)) (by rfl)
set_option maxRecDepth 100000 in
theorem wd_63 : (Cond.methodLink "TrainGuard$Train" (3 : Nat) ({ cls := "java/lang/Object", name := "<init>", desc := "()V" } : Jvm.MethodName)) ∈ tG := tG_of (List.mem_of_getElem? (i := 63) (by rfl)) (by rfl)
set_option maxRecDepth 100000 in
theorem wd_64 : (Cond.classLink "TrainGuard$Train" (9 : Nat) "TrainGuard$Message") ∈ tG := tG_of (List.mem_of_getElem? (i := 64) (by rfl)) (by rfl)
set_option maxRecDepth 100000 in
theorem wd_65 : (Cond.instantiable "TrainGuard$Message" (5 : Nat)) ∈ tG := tG_of (List.mem_of_getElem? (i := 65) (by rfl)) (by rfl)
set_option maxRecDepth 100000 in
theorem wd_67 : (Cond.instanceMethod ({ cls := "TrainGuard$Message", name := "<init>", desc := "()V" } : Jvm.MethodName)) ∈ tG := tG_of (List.mem_of_getElem? (i := 67) (by rfl)) (by rfl)
set_option maxRecDepth 100000 in
theorem wd_68 : (Cond.code ({ cls := "TrainGuard$Message", name := "<init>", desc := "()V" } : Jvm.MethodName) prog_3_method_1_code (1 : Nat) (Option.none : Option Jvm.ClassFile.FieldType)) ∈ tG := tG_of (List.mem_of_getElem? (i := 68) (by rfl)) (by rfl)
set_option maxRecDepth 100000 in
theorem wd_69 : (Cond.methodLink "TrainGuard$Message" (3 : Nat) ({ cls := "java/lang/Object", name := "<init>", desc := "()V" } : Jvm.MethodName)) ∈ tG := tG_of (List.mem_of_getElem? (i := 69) (by rfl)) (by rfl)
set_option maxRecDepth 100000 in
theorem wd_70 : (Cond.fieldLink "TrainGuard$Message" (9 : Nat) "TrainGuard$Message" "isWaiting" "Z") ∈ tG := tG_of (List.mem_of_getElem? (i := 70) (by rfl)) (by rfl)
set_option maxRecDepth 100000 in
theorem wd_72 : (Cond.fieldLink "TrainGuard$Message" (15 : Nat) "TrainGuard$Message" "isStop" "Z") ∈ tG := tG_of (List.mem_of_getElem? (i := 72) (by rfl)) (by rfl)
set_option maxRecDepth 100000 in
theorem wd_74 : (Cond.fieldLink "TrainGuard$Message" (18 : Nat) "TrainGuard$Message" "number" "I") ∈ tG := tG_of (List.mem_of_getElem? (i := 74) (by rfl)) (by rfl)
set_option maxRecDepth 100000 in
theorem wd_75 : (Cond.fieldLink "TrainGuard$Message" (22 : Nat) "TrainGuard$Message" "place" "D") ∈ tG := tG_of (List.mem_of_getElem? (i := 75) (by rfl)) (by rfl)
set_option maxRecDepth 100000 in
theorem wd_77 : (Cond.fieldLink "TrainGuard$Message" (30 : Nat) "TrainGuard$Message" "mark" "I") ∈ tG := tG_of (List.mem_of_getElem? (i := 77) (by rfl)) (by rfl)
set_option maxRecDepth 100000 in
theorem wd_78 : (Cond.lays "TrainGuard$Message" "TrainGuard$Message" "isWaiting" "Z") ∈ tG := tG_of (List.mem_of_getElem? (i := 78) (by rfl)) (by rfl)
set_option maxRecDepth 100000 in
theorem wd_80 : (Cond.lays "TrainGuard$Message" "TrainGuard$Message" "isStop" "Z") ∈ tG := tG_of (List.mem_of_getElem? (i := 80) (by rfl)) (by rfl)
set_option maxRecDepth 100000 in
theorem wd_82 : (Cond.lays "TrainGuard$Message" "TrainGuard$Message" "number" "I") ∈ tG := tG_of (List.mem_of_getElem? (i := 82) (by rfl)) (by rfl)
set_option maxRecDepth 100000 in
theorem wd_84 : (Cond.lays "TrainGuard$Message" "TrainGuard$Message" "place" "D") ∈ tG := tG_of (List.mem_of_getElem? (i := 84) (by rfl)) (by rfl)
set_option maxRecDepth 100000 in
theorem wd_86 : (Cond.lays "TrainGuard$Message" "TrainGuard$Message" "mark" "I") ∈ tG := tG_of (List.mem_of_getElem? (i := 86) (by rfl)) (by rfl)
set_option maxRecDepth 100000 in
theorem wd_89 : (Cond.fieldLink "TrainGuard$Train" (12 : Nat) "TrainGuard$Train" "message" "LTrainGuard$Message;") ∈ tG := tG_of (List.mem_of_getElem? (i := 89) (by rfl)) (by rfl)
set_option maxRecDepth 100000 in
theorem wd_91 : (Cond.fieldLink "TrainGuard$Train" (18 : Nat) "TrainGuard$Train" "length" "D") ∈ tG := tG_of (List.mem_of_getElem? (i := 91) (by rfl)) (by rfl)
set_option maxRecDepth 100000 in
theorem wd_92 : (Cond.fieldLink "TrainGuard$Train" (22 : Nat) "TrainGuard$Train" "brake" "D") ∈ tG := tG_of (List.mem_of_getElem? (i := 92) (by rfl)) (by rfl)
set_option maxRecDepth 100000 in
theorem wd_93 : (Cond.fieldLink "TrainGuard$Train" (31 : Nat) "TrainGuard$Train" "speed" "D") ∈ tG := tG_of (List.mem_of_getElem? (i := 93) (by rfl)) (by rfl)
set_option maxRecDepth 100000 in
theorem wd_95 : (Cond.fieldLink "TrainGuard$Train" (25 : Nat) "TrainGuard$Train" "real" "D") ∈ tG := tG_of (List.mem_of_getElem? (i := 95) (by rfl)) (by rfl)
set_option maxRecDepth 100000 in
theorem wd_97 : (Cond.fieldLink "TrainGuard$Train" (28 : Nat) "TrainGuard$Train" "measured" "D") ∈ tG := tG_of (List.mem_of_getElem? (i := 97) (by rfl)) (by rfl)
set_option maxRecDepth 100000 in
theorem wd_99 : (Cond.fieldLink "TrainGuard$Train" (53 : Nat) "TrainGuard$Train" "margin" "D") ∈ tG := tG_of (List.mem_of_getElem? (i := 99) (by rfl)) (by rfl)
set_option maxRecDepth 100000 in
theorem wd_101 : (Cond.fieldLink "TrainGuard$Train" (42 : Nat) "TrainGuard$Train" "authority" "D") ∈ tG := tG_of (List.mem_of_getElem? (i := 101) (by rfl)) (by rfl)
set_option maxRecDepth 100000 in
theorem wd_103 : (Cond.fieldLink "TrainGuard$Train" (34 : Nat) "TrainGuard$Train" "hasAuthority" "Z") ∈ tG := tG_of (List.mem_of_getElem? (i := 103) (by rfl)) (by rfl)
set_option maxRecDepth 100000 in
theorem wd_106 : (Cond.fieldLink "TrainGuard$Train" (84 : Nat) "TrainGuard$Train" "isWet" "Z") ∈ tG := tG_of (List.mem_of_getElem? (i := 106) (by rfl)) (by rfl)
set_option maxRecDepth 100000 in
theorem wd_107 : (Cond.fieldLink "TrainGuard$Train" (38 : Nat) "TrainGuard$Train" "mode" "I") ∈ tG := tG_of (List.mem_of_getElem? (i := 107) (by rfl)) (by rfl)
set_option maxRecDepth 100000 in
theorem wd_109 : (Cond.laysFinal "TrainGuard$Train" "TrainGuard$Train" "message" "LTrainGuard$Message;") ∈ tG := tG_of (List.mem_of_getElem? (i := 109) (by rfl)) (by rfl)
set_option maxRecDepth 100000 in
theorem wd_111 : (Cond.lays "TrainGuard$Train" "TrainGuard$Train" "length" "D") ∈ tG := tG_of (List.mem_of_getElem? (i := 111) (by rfl)) (by rfl)
set_option maxRecDepth 100000 in
theorem wd_113 : (Cond.lays "TrainGuard$Train" "TrainGuard$Train" "brake" "D") ∈ tG := tG_of (List.mem_of_getElem? (i := 113) (by rfl)) (by rfl)
set_option maxRecDepth 100000 in
theorem wd_115 : (Cond.lays "TrainGuard$Train" "TrainGuard$Train" "speed" "D") ∈ tG := tG_of (List.mem_of_getElem? (i := 115) (by rfl)) (by rfl)
set_option maxRecDepth 100000 in
theorem wd_117 : (Cond.lays "TrainGuard$Train" "TrainGuard$Train" "real" "D") ∈ tG := tG_of (List.mem_of_getElem? (i := 117) (by rfl)) (by rfl)
set_option maxRecDepth 100000 in
theorem wd_119 : (Cond.lays "TrainGuard$Train" "TrainGuard$Train" "measured" "D") ∈ tG := tG_of (List.mem_of_getElem? (i := 119) (by rfl)) (by rfl)
set_option maxRecDepth 100000 in
theorem wd_121 : (Cond.lays "TrainGuard$Train" "TrainGuard$Train" "margin" "D") ∈ tG := tG_of (List.mem_of_getElem? (i := 121) (by rfl)) (by rfl)
set_option maxRecDepth 100000 in
theorem wd_123 : (Cond.lays "TrainGuard$Train" "TrainGuard$Train" "authority" "D") ∈ tG := tG_of (List.mem_of_getElem? (i := 123) (by rfl)) (by rfl)
set_option maxRecDepth 100000 in
theorem wd_125 : (Cond.lays "TrainGuard$Train" "TrainGuard$Train" "hasAuthority" "Z") ∈ tG := tG_of (List.mem_of_getElem? (i := 125) (by rfl)) (by rfl)
set_option maxRecDepth 100000 in
theorem wd_127 : (Cond.lays "TrainGuard$Train" "TrainGuard$Train" "isWet" "Z") ∈ tG := tG_of (List.mem_of_getElem? (i := 127) (by rfl)) (by rfl)
set_option maxRecDepth 100000 in
theorem wd_129 : (Cond.lays "TrainGuard$Train" "TrainGuard$Train" "mode" "I") ∈ tG := tG_of (List.mem_of_getElem? (i := 129) (by rfl)) (by rfl)
set_option maxRecDepth 100000 in
theorem wd_132 : (Cond.fieldLink "TrainGuard" (10 : Nat) "TrainGuard" "line" "LTrainGuard$Line;") ∈ tG := tG_of (List.mem_of_getElem? (i := 132) (by rfl)) (by rfl)
set_option maxRecDepth 100000 in
theorem wd_133 : (Cond.fieldLink "TrainGuard" (18 : Nat) "TrainGuard" "trains" "[LTrainGuard$Train;") ∈ tG := tG_of (List.mem_of_getElem? (i := 133) (by rfl)) (by rfl)
set_option maxRecDepth 100000 in
theorem wd_134 : (Cond.fieldLink "TrainGuard" (39 : Nat) "TrainGuard" "trainCount" "I") ∈ tG := tG_of (List.mem_of_getElem? (i := 134) (by rfl)) (by rfl)
set_option maxRecDepth 100000 in
theorem wd_135 : (Cond.fieldLink "TrainGuard" (143 : Nat) "TrainGuard" "forgedCount" "I") ∈ tG := tG_of (List.mem_of_getElem? (i := 135) (by rfl)) (by rfl)
set_option maxRecDepth 100000 in
theorem wd_136 : (Cond.fieldLink "TrainGuard" (169 : Nat) "TrainGuard" "guardBrakings" "I") ∈ tG := tG_of (List.mem_of_getElem? (i := 136) (by rfl)) (by rfl)
set_option maxRecDepth 100000 in
theorem wd_137 : (Cond.fieldLink "TrainGuard" (172 : Nat) "TrainGuard" "overruns" "I") ∈ tG := tG_of (List.mem_of_getElem? (i := 137) (by rfl)) (by rfl)
set_option maxRecDepth 100000 in
theorem wd_138 : (Cond.laysFinal "TrainGuard" "TrainGuard" "line" "LTrainGuard$Line;") ∈ tG := tG_of (List.mem_of_getElem? (i := 138) (by rfl)) (by rfl)
set_option maxRecDepth 100000 in
theorem wd_140 : (Cond.laysFinal "TrainGuard" "TrainGuard" "trains" "[LTrainGuard$Train;") ∈ tG := tG_of (List.mem_of_getElem? (i := 140) (by rfl)) (by rfl)
set_option maxRecDepth 100000 in
theorem wd_142 : (Cond.lays "TrainGuard" "TrainGuard" "trainCount" "I") ∈ tG := tG_of (List.mem_of_getElem? (i := 142) (by rfl)) (by rfl)
set_option maxRecDepth 100000 in
theorem wd_144 : (Cond.lays "TrainGuard" "TrainGuard" "forgedCount" "I") ∈ tG := tG_of (List.mem_of_getElem? (i := 144) (by rfl)) (by rfl)
set_option maxRecDepth 100000 in
theorem wd_146 : (Cond.lays "TrainGuard" "TrainGuard" "guardBrakings" "I") ∈ tG := tG_of (List.mem_of_getElem? (i := 146) (by rfl)) (by rfl)
set_option maxRecDepth 100000 in
theorem wd_148 : (Cond.lays "TrainGuard" "TrainGuard" "overruns" "I") ∈ tG := tG_of (List.mem_of_getElem? (i := 148) (by rfl)) (by rfl)
set_option maxRecDepth 100000 in
theorem wd_151 : (Cond.methodLink "TrainGuardLaw" (143 : Nat) ({ cls := "TrainGuard", name := "count", desc := "(I)I" } : Jvm.MethodName)) ∈ tG := tG_of (List.mem_of_getElem? (i := 151) (by rfl)) (by rfl)
set_option maxRecDepth 100000 in
theorem wd_152 : (Cond.instanceMethod ({ cls := "TrainGuard", name := "count", desc := "(I)I" } : Jvm.MethodName)) ∈ tG := tG_of (List.mem_of_getElem? (i := 152) (by rfl)) (by rfl)
set_option maxRecDepth 100000 in
theorem wd_153 : (Cond.selects "TrainGuard" ({ cls := "TrainGuard", name := "count", desc := "(I)I" } : Jvm.MethodName) ({ cls := "TrainGuard", name := "count", desc := "(I)I" } : Jvm.MethodName)) ∈ tG := tG_of (List.mem_of_getElem? (i := 153) (by rfl)) (by rfl)
set_option maxRecDepth 100000 in
theorem wd_154 : (Cond.code ({ cls := "TrainGuard", name := "count", desc := "(I)I" } : Jvm.MethodName) prog_1_method_18_code (2 : Nat) (Option.some Jvm.ClassFile.FieldType.int)) ∈ tG := tG_of (List.mem_of_getElem? (i := 154) (by rfl)) (by rfl)
set_option maxRecDepth 100000 in
theorem wd_155 : (Cond.methodLink "TrainGuardLaw" (80 : Nat) ({ cls := "TrainGuardLaw", name := "section", desc := "(LTrainGuard;DD[J)I" } : Jvm.MethodName)) ∈ tG := tG_of (List.mem_of_getElem? (i := 155) (by rfl)) (by rfl)
set_option maxRecDepth 100000 in
theorem wd_156 : (Cond.static ({ cls := "TrainGuardLaw", name := "section", desc := "(LTrainGuard;DD[J)I" } : Jvm.MethodName)) ∈ tG := tG_of (List.mem_of_getElem? (i := 156) (by rfl)) (by rfl)
set_option maxRecDepth 100000 in
theorem wd_157 : (Cond.codeWith ({ cls := "TrainGuardLaw", name := "section", desc := "(LTrainGuard;DD[J)I" } : Jvm.MethodName) method_3_code (7 : Nat) (Option.some Jvm.ClassFile.FieldType.int) [((0 : Nat), (11 : Nat), (14 : Nat), (13 : Nat)), ((0 : Nat), (11 : Nat), (18 : Nat), (15 : Nat)), ((0 : Nat), (11 : Nat), (22 : Nat), (17 : Nat)), ((0 : Nat), (11 : Nat), (26 : Nat), (19 : Nat))]) ∈ tG := tG_of (List.mem_of_getElem? (i := 157) (by rfl)) (by rfl)
set_option maxRecDepth 100000 in
theorem wd_158 : (Cond.classLink "TrainGuardLaw" (13 : Nat) "java/lang/IllegalArgumentException") ∈ tG := tG_of (List.mem_of_getElem? (i := 158) (by rfl)) (by rfl)
set_option maxRecDepth 100000 in
theorem wd_159 : (Cond.classLink "TrainGuardLaw" (15 : Nat) "java/util/NoSuchElementException") ∈ tG := tG_of (List.mem_of_getElem? (i := 159) (by rfl)) (by rfl)
set_option maxRecDepth 100000 in
theorem wd_160 : (Cond.classLink "TrainGuardLaw" (17 : Nat) "java/lang/IllegalStateException") ∈ tG := tG_of (List.mem_of_getElem? (i := 160) (by rfl)) (by rfl)
set_option maxRecDepth 100000 in
theorem wd_161 : (Cond.classLink "TrainGuardLaw" (19 : Nat) "java/lang/UnsupportedOperationException") ∈ tG := tG_of (List.mem_of_getElem? (i := 161) (by rfl)) (by rfl)
set_option maxRecDepth 100000 in
theorem wd_162 : (Cond.methodLink "TrainGuardLaw" (7 : Nat) ({ cls := "TrainGuard", name := "section", desc := "(DD)I" } : Jvm.MethodName)) ∈ tG := tG_of (List.mem_of_getElem? (i := 162) (by rfl)) (by rfl)
set_option maxRecDepth 100000 in
theorem wd_163 : (Cond.instanceMethod ({ cls := "TrainGuard", name := "section", desc := "(DD)I" } : Jvm.MethodName)) ∈ tG := tG_of (List.mem_of_getElem? (i := 163) (by rfl)) (by rfl)
set_option maxRecDepth 100000 in
theorem wd_164 : (Cond.selects "TrainGuard" ({ cls := "TrainGuard", name := "section", desc := "(DD)I" } : Jvm.MethodName) ({ cls := "TrainGuard", name := "section", desc := "(DD)I" } : Jvm.MethodName)) ∈ tG := tG_of (List.mem_of_getElem? (i := 164) (by rfl)) (by rfl)
set_option maxRecDepth 100000 in
theorem wd_165 : (Cond.code ({ cls := "TrainGuard", name := "section", desc := "(DD)I" } : Jvm.MethodName) prog_1_method_2_code (5 : Nat) (Option.some Jvm.ClassFile.FieldType.int)) ∈ tG := tG_of (List.mem_of_getElem? (i := 165) (by rfl)) (by rfl)
set_option maxRecDepth 100000 in
theorem wd_166 : (Cond.constantDouble "TrainGuard" (23 : Nat) (4632233691727265792 : UInt64)) ∈ tG := tG_of (List.mem_of_getElem? (i := 166) (by rfl)) (by rfl)
set_option maxRecDepth 100000 in
theorem wd_167 : (Cond.constantDouble "TrainGuard" (25 : Nat) (4652007308841189376 : UInt64)) ∈ tG := tG_of (List.mem_of_getElem? (i := 167) (by rfl)) (by rfl)
set_option maxRecDepth 100000 in
theorem wd_168 : (Cond.methodLink "TrainGuard" (27 : Nat) ({ cls := "TrainGuard", name := "isWithin", desc := "(DDD)Z" } : Jvm.MethodName)) ∈ tG := tG_of (List.mem_of_getElem? (i := 168) (by rfl)) (by rfl)
set_option maxRecDepth 100000 in
theorem wd_169 : (Cond.static ({ cls := "TrainGuard", name := "isWithin", desc := "(DDD)Z" } : Jvm.MethodName)) ∈ tG := tG_of (List.mem_of_getElem? (i := 169) (by rfl)) (by rfl)
set_option maxRecDepth 100000 in
theorem wd_170 : (Cond.code ({ cls := "TrainGuard", name := "isWithin", desc := "(DDD)Z" } : Jvm.MethodName) prog_1_method_26_code (6 : Nat) (Option.some Jvm.ClassFile.FieldType.boolean)) ∈ tG := tG_of (List.mem_of_getElem? (i := 170) (by rfl)) (by rfl)
set_option maxRecDepth 100000 in
theorem wd_171 : (Cond.methodLink "TrainGuard" (31 : Nat) ({ cls := "TrainGuard", name := "isSpeed", desc := "(D)Z" } : Jvm.MethodName)) ∈ tG := tG_of (List.mem_of_getElem? (i := 171) (by rfl)) (by rfl)
set_option maxRecDepth 100000 in
theorem wd_172 : (Cond.static ({ cls := "TrainGuard", name := "isSpeed", desc := "(D)Z" } : Jvm.MethodName)) ∈ tG := tG_of (List.mem_of_getElem? (i := 172) (by rfl)) (by rfl)
set_option maxRecDepth 100000 in
theorem wd_173 : (Cond.code ({ cls := "TrainGuard", name := "isSpeed", desc := "(D)Z" } : Jvm.MethodName) prog_1_method_27_code (2 : Nat) (Option.some Jvm.ClassFile.FieldType.boolean)) ∈ tG := tG_of (List.mem_of_getElem? (i := 173) (by rfl)) (by rfl)
set_option maxRecDepth 100000 in
theorem wd_174 : (Cond.constantDouble "TrainGuard" (232 : Nat) (4633641066610819072 : UInt64)) ∈ tG := tG_of (List.mem_of_getElem? (i := 174) (by rfl)) (by rfl)
set_option maxRecDepth 100000 in
theorem wd_175 : (Cond.methodLink "TrainGuard" (35 : Nat) ({ cls := "TrainGuard", name := "demandArgument", desc := "(Z)V" } : Jvm.MethodName)) ∈ tG := tG_of (List.mem_of_getElem? (i := 175) (by rfl)) (by rfl)
set_option maxRecDepth 100000 in
theorem wd_176 : (Cond.static ({ cls := "TrainGuard", name := "demandArgument", desc := "(Z)V" } : Jvm.MethodName)) ∈ tG := tG_of (List.mem_of_getElem? (i := 176) (by rfl)) (by rfl)
set_option maxRecDepth 100000 in
theorem wd_177 : (Cond.code ({ cls := "TrainGuard", name := "demandArgument", desc := "(Z)V" } : Jvm.MethodName) prog_1_method_28_code (1 : Nat) (Option.none : Option Jvm.ClassFile.FieldType)) ∈ tG := tG_of (List.mem_of_getElem? (i := 177) (by rfl)) (by rfl)
set_option maxRecDepth 100000 in
theorem wd_178 : (Cond.classLink "TrainGuard" (234 : Nat) "java/lang/IllegalArgumentException") ∈ tG := tG_of (List.mem_of_getElem? (i := 178) (by rfl)) (by rfl)
set_option maxRecDepth 100000 in
theorem wd_179 : (Cond.instantiable "java/lang/IllegalArgumentException" (6 : Nat)) ∈ tG := tG_of (List.mem_of_getElem? (i := 179) (by rfl)) (by rfl)
set_option maxRecDepth 100000 in
theorem wd_187 : (Cond.selects "java/lang/IllegalArgumentException" ({ cls := "java/lang/Throwable", name := "fillInStackTrace", desc := "(I)Ljava/lang/Throwable;" } : Jvm.MethodName) ({ cls := "java/lang/Throwable", name := "fillInStackTrace", desc := "(I)Ljava/lang/Throwable;" } : Jvm.MethodName)) ∈ tG := tG_of (List.mem_of_getElem? (i := 187) (by rfl)) (by rfl)
set_option maxRecDepth 100000 in
theorem wd_188 : (Cond.selects "java/lang/IllegalArgumentException" ({ cls := "java/lang/Throwable", name := "fillInStackTrace", desc := "()Ljava/lang/Throwable;" } : Jvm.MethodName) ({ cls := "java/lang/Throwable", name := "fillInStackTrace", desc := "()Ljava/lang/Throwable;" } : Jvm.MethodName)) ∈ tG := tG_of (List.mem_of_getElem? (i := 188) (by rfl)) (by rfl)
set_option maxRecDepth 100000 in
theorem wd_189 : (Cond.lays "java/lang/IllegalArgumentException" "java/lang/Throwable" "cause" "Ljava/lang/Throwable;") ∈ tG := tG_of (List.mem_of_getElem? (i := 189) (by rfl)) (by rfl)
set_option maxRecDepth 100000 in
theorem wd_190 : (Cond.lays "java/lang/Throwable" "java/lang/Throwable" "cause" "Ljava/lang/Throwable;") ∈ tG := tG_of (List.mem_of_getElem? (i := 190) (by rfl)) (by rfl)
set_option maxRecDepth 100000 in
theorem wd_191 : (Cond.lays "java/lang/IllegalArgumentException" "java/lang/Throwable" "stackTrace" "[Ljava/lang/StackTraceElement;") ∈ tG := tG_of (List.mem_of_getElem? (i := 191) (by rfl)) (by rfl)
set_option maxRecDepth 100000 in
theorem wd_192 : (Cond.lays "java/lang/Throwable" "java/lang/Throwable" "stackTrace" "[Ljava/lang/StackTraceElement;") ∈ tG := tG_of (List.mem_of_getElem? (i := 192) (by rfl)) (by rfl)
set_option maxRecDepth 100000 in
theorem wd_193 : (Cond.lays "java/lang/IllegalArgumentException" "java/lang/Throwable" "suppressedExceptions" "Ljava/util/List;") ∈ tG := tG_of (List.mem_of_getElem? (i := 193) (by rfl)) (by rfl)
set_option maxRecDepth 100000 in
theorem wd_194 : (Cond.lays "java/lang/Throwable" "java/lang/Throwable" "suppressedExceptions" "Ljava/util/List;") ∈ tG := tG_of (List.mem_of_getElem? (i := 194) (by rfl)) (by rfl)
set_option maxRecDepth 100000 in
theorem wd_195 : (Cond.lays "java/lang/IllegalArgumentException" "java/lang/Throwable" "detailMessage" "Ljava/lang/String;") ∈ tG := tG_of (List.mem_of_getElem? (i := 195) (by rfl)) (by rfl)
set_option maxRecDepth 100000 in
theorem wd_196 : (Cond.lays "java/lang/Throwable" "java/lang/Throwable" "detailMessage" "Ljava/lang/String;") ∈ tG := tG_of (List.mem_of_getElem? (i := 196) (by rfl)) (by rfl)
set_option maxRecDepth 100000 in
theorem wd_197 : (Cond.lays "java/lang/IllegalArgumentException" "java/lang/Throwable" "backtrace" "Ljava/lang/Object;") ∈ tG := tG_of (List.mem_of_getElem? (i := 197) (by rfl)) (by rfl)
set_option maxRecDepth 100000 in
theorem wd_198 : (Cond.lays "java/lang/Throwable" "java/lang/Throwable" "backtrace" "Ljava/lang/Object;") ∈ tG := tG_of (List.mem_of_getElem? (i := 198) (by rfl)) (by rfl)
set_option maxRecDepth 100000 in
theorem wd_199 : (Cond.fieldLink "java/lang/Throwable" (198 : Nat) "java/lang/Throwable" "backtrace" "Ljava/lang/Object;") ∈ tG := tG_of (List.mem_of_getElem? (i := 199) (by rfl)) (by rfl)
set_option maxRecDepth 100000 in
theorem wd_201 : (Cond.instanceMethod ({ cls := "java/lang/Throwable", name := "<init>", desc := "()V" } : Jvm.MethodName)) ∈ tG := tG_of (List.mem_of_getElem? (i := 201) (by rfl)) (by rfl)
set_option maxRecDepth 100000 in
theorem wd_202 : (Cond.code ({ cls := "java/lang/Throwable", name := "<init>", desc := "()V" } : Jvm.MethodName) prog_11_method_1_code (1 : Nat) (Option.none : Option Jvm.ClassFile.FieldType)) ∈ tG := tG_of (List.mem_of_getElem? (i := 202) (by rfl)) (by rfl)
set_option maxRecDepth 100000 in
theorem wd_203 : (Cond.methodLink "java/lang/Throwable" (1 : Nat) ({ cls := "java/lang/Object", name := "<init>", desc := "()V" } : Jvm.MethodName)) ∈ tG := tG_of (List.mem_of_getElem? (i := 203) (by rfl)) (by rfl)
set_option maxRecDepth 100000 in
theorem wd_204 : (Cond.fieldLink "java/lang/Throwable" (13 : Nat) "java/lang/Throwable" "UNASSIGNED_STACK" "[Ljava/lang/StackTraceElement;") ∈ tG := tG_of (List.mem_of_getElem? (i := 204) (by rfl)) (by rfl)
set_option maxRecDepth 100000 in
theorem wd_206 : (Cond.fieldLink "java/lang/Throwable" (20 : Nat) "java/lang/Throwable" "SUPPRESSED_SENTINEL" "Ljava/util/List;") ∈ tG := tG_of (List.mem_of_getElem? (i := 206) (by rfl)) (by rfl)
set_option maxRecDepth 100000 in
theorem wd_208 : (Cond.methodLink "java/lang/Throwable" (27 : Nat) ({ cls := "java/lang/Throwable", name := "fillInStackTrace", desc := "()Ljava/lang/Throwable;" } : Jvm.MethodName)) ∈ tG := tG_of (List.mem_of_getElem? (i := 208) (by rfl)) (by rfl)
set_option maxRecDepth 100000 in
theorem wd_209 : (Cond.instanceMethod ({ cls := "java/lang/Throwable", name := "fillInStackTrace", desc := "()Ljava/lang/Throwable;" } : Jvm.MethodName)) ∈ tG := tG_of (List.mem_of_getElem? (i := 209) (by rfl)) (by rfl)
set_option maxRecDepth 100000 in
theorem wd_211 : (Cond.selects "java/lang/IllegalStateException" ({ cls := "java/lang/Throwable", name := "fillInStackTrace", desc := "()Ljava/lang/Throwable;" } : Jvm.MethodName) ({ cls := "java/lang/Throwable", name := "fillInStackTrace", desc := "()Ljava/lang/Throwable;" } : Jvm.MethodName)) ∈ tG := tG_of (List.mem_of_getElem? (i := 211) (by rfl)) (by rfl)
set_option maxRecDepth 100000 in
theorem wd_212 : (Cond.selects "java/lang/UnsupportedOperationException" ({ cls := "java/lang/Throwable", name := "fillInStackTrace", desc := "()Ljava/lang/Throwable;" } : Jvm.MethodName) ({ cls := "java/lang/Throwable", name := "fillInStackTrace", desc := "()Ljava/lang/Throwable;" } : Jvm.MethodName)) ∈ tG := tG_of (List.mem_of_getElem? (i := 212) (by rfl)) (by rfl)
set_option maxRecDepth 100000 in
theorem wd_213 : (Cond.selects "java/util/NoSuchElementException" ({ cls := "java/lang/Throwable", name := "fillInStackTrace", desc := "()Ljava/lang/Throwable;" } : Jvm.MethodName) ({ cls := "java/lang/Throwable", name := "fillInStackTrace", desc := "()Ljava/lang/Throwable;" } : Jvm.MethodName)) ∈ tG := tG_of (List.mem_of_getElem? (i := 213) (by rfl)) (by rfl)
set_option maxRecDepth 100000 in
theorem wd_215 : (Cond.methodLink "java/lang/Throwable" (202 : Nat) ({ cls := "java/lang/Throwable", name := "fillInStackTrace", desc := "(I)Ljava/lang/Throwable;" } : Jvm.MethodName)) ∈ tG := tG_of (List.mem_of_getElem? (i := 215) (by rfl)) (by rfl)
set_option maxRecDepth 100000 in
theorem wd_217 : (Cond.instanceMethod ({ cls := "java/lang/Throwable", name := "fillInStackTrace", desc := "(I)Ljava/lang/Throwable;" } : Jvm.MethodName)) ∈ tG := tG_of (List.mem_of_getElem? (i := 217) (by rfl)) (by rfl)
set_option maxRecDepth 100000 in
theorem wd_218 : (Cond.instantiable "java/lang/Throwable" (6 : Nat)) ∈ tG := tG_of (List.mem_of_getElem? (i := 218) (by rfl)) (by rfl)
set_option maxRecDepth 100000 in
theorem wd_220 : (Cond.methodLink "TrainGuard" (236 : Nat) ({ cls := "java/lang/IllegalArgumentException", name := "<init>", desc := "()V" } : Jvm.MethodName)) ∈ tG := tG_of (List.mem_of_getElem? (i := 220) (by rfl)) (by rfl)
set_option maxRecDepth 100000 in
theorem wd_221 : (Cond.instanceMethod ({ cls := "java/lang/IllegalArgumentException", name := "<init>", desc := "()V" } : Jvm.MethodName)) ∈ tG := tG_of (List.mem_of_getElem? (i := 221) (by rfl)) (by rfl)
set_option maxRecDepth 100000 in
theorem wd_222 : (Cond.code ({ cls := "java/lang/IllegalArgumentException", name := "<init>", desc := "()V" } : Jvm.MethodName) prog_8_method_1_code (1 : Nat) (Option.none : Option Jvm.ClassFile.FieldType)) ∈ tG := tG_of (List.mem_of_getElem? (i := 222) (by rfl)) (by rfl)
set_option maxRecDepth 100000 in
theorem wd_223 : (Cond.methodLink "java/lang/IllegalArgumentException" (1 : Nat) ({ cls := "java/lang/RuntimeException", name := "<init>", desc := "()V" } : Jvm.MethodName)) ∈ tG := tG_of (List.mem_of_getElem? (i := 223) (by rfl)) (by rfl)
set_option maxRecDepth 100000 in
theorem wd_224 : (Cond.instanceMethod ({ cls := "java/lang/RuntimeException", name := "<init>", desc := "()V" } : Jvm.MethodName)) ∈ tG := tG_of (List.mem_of_getElem? (i := 224) (by rfl)) (by rfl)
set_option maxRecDepth 100000 in
theorem wd_225 : (Cond.code ({ cls := "java/lang/RuntimeException", name := "<init>", desc := "()V" } : Jvm.MethodName) prog_10_method_1_code (1 : Nat) (Option.none : Option Jvm.ClassFile.FieldType)) ∈ tG := tG_of (List.mem_of_getElem? (i := 225) (by rfl)) (by rfl)
set_option maxRecDepth 100000 in
theorem wd_226 : (Cond.methodLink "java/lang/RuntimeException" (1 : Nat) ({ cls := "java/lang/Exception", name := "<init>", desc := "()V" } : Jvm.MethodName)) ∈ tG := tG_of (List.mem_of_getElem? (i := 226) (by rfl)) (by rfl)
set_option maxRecDepth 100000 in
theorem wd_227 : (Cond.instanceMethod ({ cls := "java/lang/Exception", name := "<init>", desc := "()V" } : Jvm.MethodName)) ∈ tG := tG_of (List.mem_of_getElem? (i := 227) (by rfl)) (by rfl)
set_option maxRecDepth 100000 in
theorem wd_228 : (Cond.code ({ cls := "java/lang/Exception", name := "<init>", desc := "()V" } : Jvm.MethodName) prog_7_method_1_code (1 : Nat) (Option.none : Option Jvm.ClassFile.FieldType)) ∈ tG := tG_of (List.mem_of_getElem? (i := 228) (by rfl)) (by rfl)
set_option maxRecDepth 100000 in
theorem wd_229 : (Cond.methodLink "java/lang/Exception" (1 : Nat) ({ cls := "java/lang/Throwable", name := "<init>", desc := "()V" } : Jvm.MethodName)) ∈ tG := tG_of (List.mem_of_getElem? (i := 229) (by rfl)) (by rfl)
set_option maxRecDepth 100000 in
theorem wd_230 : (Cond.fieldLink "java/lang/Throwable" (198 : Nat) "java/lang/Throwable" "backtrace" "Ljava/lang/Object;") ∈ tG := tG_of (List.mem_of_getElem? (i := 230) (by rfl)) (by rfl)
set_option maxRecDepth 100000 in
theorem wd_231 : (Cond.fieldLink "java/lang/Throwable" (7 : Nat) "java/lang/Throwable" "cause" "Ljava/lang/Throwable;") ∈ tG := tG_of (List.mem_of_getElem? (i := 231) (by rfl)) (by rfl)
set_option maxRecDepth 100000 in
theorem wd_232 : (Cond.fieldLink "java/lang/Throwable" (17 : Nat) "java/lang/Throwable" "stackTrace" "[Ljava/lang/StackTraceElement;") ∈ tG := tG_of (List.mem_of_getElem? (i := 232) (by rfl)) (by rfl)
set_option maxRecDepth 100000 in
theorem wd_233 : (Cond.fieldLink "java/lang/Throwable" (24 : Nat) "java/lang/Throwable" "suppressedExceptions" "Ljava/util/List;") ∈ tG := tG_of (List.mem_of_getElem? (i := 233) (by rfl)) (by rfl)
set_option maxRecDepth 100000 in
theorem wd_238 : (Cond.lays "java/lang/IllegalArgumentException" "java/lang/Throwable" "depth" "I") ∈ tG := tG_of (List.mem_of_getElem? (i := 238) (by rfl)) (by rfl)
set_option maxRecDepth 100000 in
theorem wd_242 : (Cond.methodLink "TrainGuard" (46 : Nat) ({ cls := "TrainGuard", name := "demandState", desc := "(Z)V" } : Jvm.MethodName)) ∈ tG := tG_of (List.mem_of_getElem? (i := 242) (by rfl)) (by rfl)
set_option maxRecDepth 100000 in
theorem wd_243 : (Cond.static ({ cls := "TrainGuard", name := "demandState", desc := "(Z)V" } : Jvm.MethodName)) ∈ tG := tG_of (List.mem_of_getElem? (i := 243) (by rfl)) (by rfl)
set_option maxRecDepth 100000 in
theorem wd_244 : (Cond.code ({ cls := "TrainGuard", name := "demandState", desc := "(Z)V" } : Jvm.MethodName) prog_1_method_30_code (1 : Nat) (Option.none : Option Jvm.ClassFile.FieldType)) ∈ tG := tG_of (List.mem_of_getElem? (i := 244) (by rfl)) (by rfl)
set_option maxRecDepth 100000 in
theorem wd_245 : (Cond.classLink "TrainGuard" (240 : Nat) "java/lang/IllegalStateException") ∈ tG := tG_of (List.mem_of_getElem? (i := 245) (by rfl)) (by rfl)
set_option maxRecDepth 100000 in
theorem wd_246 : (Cond.instantiable "java/lang/IllegalStateException" (6 : Nat)) ∈ tG := tG_of (List.mem_of_getElem? (i := 246) (by rfl)) (by rfl)
set_option maxRecDepth 100000 in
theorem wd_248 : (Cond.selects "java/lang/IllegalStateException" ({ cls := "java/lang/Throwable", name := "fillInStackTrace", desc := "(I)Ljava/lang/Throwable;" } : Jvm.MethodName) ({ cls := "java/lang/Throwable", name := "fillInStackTrace", desc := "(I)Ljava/lang/Throwable;" } : Jvm.MethodName)) ∈ tG := tG_of (List.mem_of_getElem? (i := 248) (by rfl)) (by rfl)
set_option maxRecDepth 100000 in
theorem wd_249 : (Cond.lays "java/lang/IllegalStateException" "java/lang/Throwable" "cause" "Ljava/lang/Throwable;") ∈ tG := tG_of (List.mem_of_getElem? (i := 249) (by rfl)) (by rfl)
set_option maxRecDepth 100000 in
theorem wd_250 : (Cond.lays "java/lang/IllegalStateException" "java/lang/Throwable" "stackTrace" "[Ljava/lang/StackTraceElement;") ∈ tG := tG_of (List.mem_of_getElem? (i := 250) (by rfl)) (by rfl)
set_option maxRecDepth 100000 in
theorem wd_251 : (Cond.lays "java/lang/IllegalStateException" "java/lang/Throwable" "suppressedExceptions" "Ljava/util/List;") ∈ tG := tG_of (List.mem_of_getElem? (i := 251) (by rfl)) (by rfl)
set_option maxRecDepth 100000 in
theorem wd_252 : (Cond.lays "java/lang/IllegalStateException" "java/lang/Throwable" "detailMessage" "Ljava/lang/String;") ∈ tG := tG_of (List.mem_of_getElem? (i := 252) (by rfl)) (by rfl)
set_option maxRecDepth 100000 in
theorem wd_253 : (Cond.lays "java/lang/IllegalStateException" "java/lang/Throwable" "backtrace" "Ljava/lang/Object;") ∈ tG := tG_of (List.mem_of_getElem? (i := 253) (by rfl)) (by rfl)
set_option maxRecDepth 100000 in
theorem wd_254 : (Cond.methodLink "TrainGuard" (242 : Nat) ({ cls := "java/lang/IllegalStateException", name := "<init>", desc := "()V" } : Jvm.MethodName)) ∈ tG := tG_of (List.mem_of_getElem? (i := 254) (by rfl)) (by rfl)
set_option maxRecDepth 100000 in
theorem wd_255 : (Cond.instanceMethod ({ cls := "java/lang/IllegalStateException", name := "<init>", desc := "()V" } : Jvm.MethodName)) ∈ tG := tG_of (List.mem_of_getElem? (i := 255) (by rfl)) (by rfl)
set_option maxRecDepth 100000 in
theorem wd_256 : (Cond.code ({ cls := "java/lang/IllegalStateException", name := "<init>", desc := "()V" } : Jvm.MethodName) prog_9_method_1_code (1 : Nat) (Option.none : Option Jvm.ClassFile.FieldType)) ∈ tG := tG_of (List.mem_of_getElem? (i := 256) (by rfl)) (by rfl)
set_option maxRecDepth 100000 in
theorem wd_257 : (Cond.methodLink "java/lang/IllegalStateException" (1 : Nat) ({ cls := "java/lang/RuntimeException", name := "<init>", desc := "()V" } : Jvm.MethodName)) ∈ tG := tG_of (List.mem_of_getElem? (i := 257) (by rfl)) (by rfl)
set_option maxRecDepth 100000 in
theorem wd_258 : (Cond.lays "java/lang/IllegalStateException" "java/lang/Throwable" "depth" "I") ∈ tG := tG_of (List.mem_of_getElem? (i := 258) (by rfl)) (by rfl)
set_option maxRecDepth 100000 in
theorem wd_260 : (Cond.methodLink "TrainGuard" (49 : Nat) ({ cls := "TrainGuard$Line", name := "addSection", desc := "(DD)I" } : Jvm.MethodName)) ∈ tG := tG_of (List.mem_of_getElem? (i := 260) (by rfl)) (by rfl)
set_option maxRecDepth 100000 in
theorem wd_261 : (Cond.instanceMethod ({ cls := "TrainGuard$Line", name := "addSection", desc := "(DD)I" } : Jvm.MethodName)) ∈ tG := tG_of (List.mem_of_getElem? (i := 261) (by rfl)) (by rfl)
set_option maxRecDepth 100000 in
theorem wd_262 : (Cond.selects "TrainGuard$Line" ({ cls := "TrainGuard$Line", name := "addSection", desc := "(DD)I" } : Jvm.MethodName) ({ cls := "TrainGuard$Line", name := "addSection", desc := "(DD)I" } : Jvm.MethodName)) ∈ tG := tG_of (List.mem_of_getElem? (i := 262) (by rfl)) (by rfl)
set_option maxRecDepth 100000 in
theorem wd_263 : (Cond.code ({ cls := "TrainGuard$Line", name := "addSection", desc := "(DD)I" } : Jvm.MethodName) prog_2_method_2_code (6 : Nat) (Option.some Jvm.ClassFile.FieldType.int)) ∈ tG := tG_of (List.mem_of_getElem? (i := 263) (by rfl)) (by rfl)
set_option maxRecDepth 100000 in
theorem wd_264 : (Cond.methodLink "TrainGuardLaw" (90 : Nat) ({ cls := "TrainGuardLaw", name := "restrict", desc := "(LTrainGuard;DDD[J)I" } : Jvm.MethodName)) ∈ tG := tG_of (List.mem_of_getElem? (i := 264) (by rfl)) (by rfl)
set_option maxRecDepth 100000 in
theorem wd_265 : (Cond.static ({ cls := "TrainGuardLaw", name := "restrict", desc := "(LTrainGuard;DDD[J)I" } : Jvm.MethodName)) ∈ tG := tG_of (List.mem_of_getElem? (i := 265) (by rfl)) (by rfl)
set_option maxRecDepth 100000 in
theorem wd_266 : (Cond.codeWith ({ cls := "TrainGuardLaw", name := "restrict", desc := "(LTrainGuard;DDD[J)I" } : Jvm.MethodName) method_4_code (9 : Nat) (Option.some Jvm.ClassFile.FieldType.int) [((0 : Nat), (13 : Nat), (16 : Nat), (13 : Nat)), ((0 : Nat), (13 : Nat), (20 : Nat), (15 : Nat)), ((0 : Nat), (13 : Nat), (24 : Nat), (17 : Nat)), ((0 : Nat), (13 : Nat), (28 : Nat), (19 : Nat))]) ∈ tG := tG_of (List.mem_of_getElem? (i := 266) (by rfl)) (by rfl)
set_option maxRecDepth 100000 in
theorem wd_267 : (Cond.methodLink "TrainGuardLaw" (21 : Nat) ({ cls := "TrainGuard", name := "restrict", desc := "(DDD)I" } : Jvm.MethodName)) ∈ tG := tG_of (List.mem_of_getElem? (i := 267) (by rfl)) (by rfl)
set_option maxRecDepth 100000 in
theorem wd_268 : (Cond.instanceMethod ({ cls := "TrainGuard", name := "restrict", desc := "(DDD)I" } : Jvm.MethodName)) ∈ tG := tG_of (List.mem_of_getElem? (i := 268) (by rfl)) (by rfl)
set_option maxRecDepth 100000 in
theorem wd_269 : (Cond.selects "TrainGuard" ({ cls := "TrainGuard", name := "restrict", desc := "(DDD)I" } : Jvm.MethodName) ({ cls := "TrainGuard", name := "restrict", desc := "(DDD)I" } : Jvm.MethodName)) ∈ tG := tG_of (List.mem_of_getElem? (i := 269) (by rfl)) (by rfl)
set_option maxRecDepth 100000 in
theorem wd_270 : (Cond.code ({ cls := "TrainGuard", name := "restrict", desc := "(DDD)I" } : Jvm.MethodName) prog_1_method_3_code (7 : Nat) (Option.some Jvm.ClassFile.FieldType.int)) ∈ tG := tG_of (List.mem_of_getElem? (i := 270) (by rfl)) (by rfl)
set_option maxRecDepth 100000 in
theorem wd_271 : (Cond.constantDouble "TrainGuard" (53 : Nat) (4666723172467343360 : UInt64)) ∈ tG := tG_of (List.mem_of_getElem? (i := 271) (by rfl)) (by rfl)
set_option maxRecDepth 100000 in
theorem wd_272 : (Cond.methodLink "TrainGuard" (58 : Nat) ({ cls := "TrainGuard", name := "allStandBy", desc := "()Z" } : Jvm.MethodName)) ∈ tG := tG_of (List.mem_of_getElem? (i := 272) (by rfl)) (by rfl)
set_option maxRecDepth 100000 in
theorem wd_274 : (Cond.instanceMethod ({ cls := "TrainGuard", name := "allStandBy", desc := "()Z" } : Jvm.MethodName)) ∈ tG := tG_of (List.mem_of_getElem? (i := 274) (by rfl)) (by rfl)
set_option maxRecDepth 100000 in
theorem wd_275 : (Cond.code ({ cls := "TrainGuard", name := "allStandBy", desc := "()Z" } : Jvm.MethodName) prog_1_method_20_code (2 : Nat) (Option.some Jvm.ClassFile.FieldType.boolean)) ∈ tG := tG_of (List.mem_of_getElem? (i := 275) (by rfl)) (by rfl)
set_option maxRecDepth 100000 in
theorem wd_276 : (Cond.methodLink "TrainGuard" (62 : Nat) ({ cls := "TrainGuard", name := "demandSafety", desc := "(Z)V" } : Jvm.MethodName)) ∈ tG := tG_of (List.mem_of_getElem? (i := 276) (by rfl)) (by rfl)
set_option maxRecDepth 100000 in
theorem wd_277 : (Cond.static ({ cls := "TrainGuard", name := "demandSafety", desc := "(Z)V" } : Jvm.MethodName)) ∈ tG := tG_of (List.mem_of_getElem? (i := 277) (by rfl)) (by rfl)
set_option maxRecDepth 100000 in
theorem wd_278 : (Cond.code ({ cls := "TrainGuard", name := "demandSafety", desc := "(Z)V" } : Jvm.MethodName) prog_1_method_31_code (1 : Nat) (Option.none : Option Jvm.ClassFile.FieldType)) ∈ tG := tG_of (List.mem_of_getElem? (i := 278) (by rfl)) (by rfl)
set_option maxRecDepth 100000 in
theorem wd_279 : (Cond.classLink "TrainGuard" (146 : Nat) "java/lang/UnsupportedOperationException") ∈ tG := tG_of (List.mem_of_getElem? (i := 279) (by rfl)) (by rfl)
set_option maxRecDepth 100000 in
theorem wd_280 : (Cond.instantiable "java/lang/UnsupportedOperationException" (6 : Nat)) ∈ tG := tG_of (List.mem_of_getElem? (i := 280) (by rfl)) (by rfl)
set_option maxRecDepth 100000 in
theorem wd_282 : (Cond.selects "java/lang/UnsupportedOperationException" ({ cls := "java/lang/Throwable", name := "fillInStackTrace", desc := "(I)Ljava/lang/Throwable;" } : Jvm.MethodName) ({ cls := "java/lang/Throwable", name := "fillInStackTrace", desc := "(I)Ljava/lang/Throwable;" } : Jvm.MethodName)) ∈ tG := tG_of (List.mem_of_getElem? (i := 282) (by rfl)) (by rfl)
set_option maxRecDepth 100000 in
theorem wd_283 : (Cond.lays "java/lang/UnsupportedOperationException" "java/lang/Throwable" "cause" "Ljava/lang/Throwable;") ∈ tG := tG_of (List.mem_of_getElem? (i := 283) (by rfl)) (by rfl)
set_option maxRecDepth 100000 in
theorem wd_284 : (Cond.lays "java/lang/UnsupportedOperationException" "java/lang/Throwable" "stackTrace" "[Ljava/lang/StackTraceElement;") ∈ tG := tG_of (List.mem_of_getElem? (i := 284) (by rfl)) (by rfl)
set_option maxRecDepth 100000 in
theorem wd_285 : (Cond.lays "java/lang/UnsupportedOperationException" "java/lang/Throwable" "suppressedExceptions" "Ljava/util/List;") ∈ tG := tG_of (List.mem_of_getElem? (i := 285) (by rfl)) (by rfl)
set_option maxRecDepth 100000 in
theorem wd_286 : (Cond.lays "java/lang/UnsupportedOperationException" "java/lang/Throwable" "detailMessage" "Ljava/lang/String;") ∈ tG := tG_of (List.mem_of_getElem? (i := 286) (by rfl)) (by rfl)
set_option maxRecDepth 100000 in
theorem wd_287 : (Cond.lays "java/lang/UnsupportedOperationException" "java/lang/Throwable" "backtrace" "Ljava/lang/Object;") ∈ tG := tG_of (List.mem_of_getElem? (i := 287) (by rfl)) (by rfl)
set_option maxRecDepth 100000 in
theorem wd_288 : (Cond.methodLink "TrainGuard" (148 : Nat) ({ cls := "java/lang/UnsupportedOperationException", name := "<init>", desc := "()V" } : Jvm.MethodName)) ∈ tG := tG_of (List.mem_of_getElem? (i := 288) (by rfl)) (by rfl)
set_option maxRecDepth 100000 in
theorem wd_289 : (Cond.instanceMethod ({ cls := "java/lang/UnsupportedOperationException", name := "<init>", desc := "()V" } : Jvm.MethodName)) ∈ tG := tG_of (List.mem_of_getElem? (i := 289) (by rfl)) (by rfl)
set_option maxRecDepth 100000 in
theorem wd_290 : (Cond.code ({ cls := "java/lang/UnsupportedOperationException", name := "<init>", desc := "()V" } : Jvm.MethodName) prog_12_method_1_code (1 : Nat) (Option.none : Option Jvm.ClassFile.FieldType)) ∈ tG := tG_of (List.mem_of_getElem? (i := 290) (by rfl)) (by rfl)
set_option maxRecDepth 100000 in
theorem wd_291 : (Cond.methodLink "java/lang/UnsupportedOperationException" (1 : Nat) ({ cls := "java/lang/RuntimeException", name := "<init>", desc := "()V" } : Jvm.MethodName)) ∈ tG := tG_of (List.mem_of_getElem? (i := 291) (by rfl)) (by rfl)
set_option maxRecDepth 100000 in
theorem wd_292 : (Cond.lays "java/lang/UnsupportedOperationException" "java/lang/Throwable" "depth" "I") ∈ tG := tG_of (List.mem_of_getElem? (i := 292) (by rfl)) (by rfl)
set_option maxRecDepth 100000 in
theorem wd_294 : (Cond.methodLink "TrainGuard" (65 : Nat) ({ cls := "TrainGuard$Line", name := "addRestriction", desc := "(DDD)I" } : Jvm.MethodName)) ∈ tG := tG_of (List.mem_of_getElem? (i := 294) (by rfl)) (by rfl)
set_option maxRecDepth 100000 in
theorem wd_295 : (Cond.instanceMethod ({ cls := "TrainGuard$Line", name := "addRestriction", desc := "(DDD)I" } : Jvm.MethodName)) ∈ tG := tG_of (List.mem_of_getElem? (i := 295) (by rfl)) (by rfl)
set_option maxRecDepth 100000 in
theorem wd_296 : (Cond.selects "TrainGuard$Line" ({ cls := "TrainGuard$Line", name := "addRestriction", desc := "(DDD)I" } : Jvm.MethodName) ({ cls := "TrainGuard$Line", name := "addRestriction", desc := "(DDD)I" } : Jvm.MethodName)) ∈ tG := tG_of (List.mem_of_getElem? (i := 296) (by rfl)) (by rfl)
set_option maxRecDepth 100000 in
theorem wd_297 : (Cond.code ({ cls := "TrainGuard$Line", name := "addRestriction", desc := "(DDD)I" } : Jvm.MethodName) prog_2_method_3_code (7 : Nat) (Option.some Jvm.ClassFile.FieldType.int)) ∈ tG := tG_of (List.mem_of_getElem? (i := 297) (by rfl)) (by rfl)
set_option maxRecDepth 100000 in
theorem wd_298 : (Cond.methodLink "TrainGuardLaw" (94 : Nat) ({ cls := "TrainGuardLaw", name := "release", desc := "(LTrainGuard;I[J)I" } : Jvm.MethodName)) ∈ tG := tG_of (List.mem_of_getElem? (i := 298) (by rfl)) (by rfl)
set_option maxRecDepth 100000 in
theorem wd_299 : (Cond.static ({ cls := "TrainGuardLaw", name := "release", desc := "(LTrainGuard;I[J)I" } : Jvm.MethodName)) ∈ tG := tG_of (List.mem_of_getElem? (i := 299) (by rfl)) (by rfl)
set_option maxRecDepth 100000 in
theorem wd_300 : (Cond.codeWith ({ cls := "TrainGuardLaw", name := "release", desc := "(LTrainGuard;I[J)I" } : Jvm.MethodName) method_5_code (4 : Nat) (Option.some Jvm.ClassFile.FieldType.int) [((0 : Nat), (9 : Nat), (12 : Nat), (13 : Nat)), ((0 : Nat), (9 : Nat), (15 : Nat), (15 : Nat)), ((0 : Nat), (9 : Nat), (18 : Nat), (17 : Nat)), ((0 : Nat), (9 : Nat), (21 : Nat), (19 : Nat))]) ∈ tG := tG_of (List.mem_of_getElem? (i := 300) (by rfl)) (by rfl)
set_option maxRecDepth 100000 in
theorem wd_301 : (Cond.methodLink "TrainGuardLaw" (25 : Nat) ({ cls := "TrainGuard", name := "release", desc := "(I)I" } : Jvm.MethodName)) ∈ tG := tG_of (List.mem_of_getElem? (i := 301) (by rfl)) (by rfl)
set_option maxRecDepth 100000 in
theorem wd_302 : (Cond.instanceMethod ({ cls := "TrainGuard", name := "release", desc := "(I)I" } : Jvm.MethodName)) ∈ tG := tG_of (List.mem_of_getElem? (i := 302) (by rfl)) (by rfl)
set_option maxRecDepth 100000 in
theorem wd_303 : (Cond.selects "TrainGuard" ({ cls := "TrainGuard", name := "release", desc := "(I)I" } : Jvm.MethodName) ({ cls := "TrainGuard", name := "release", desc := "(I)I" } : Jvm.MethodName)) ∈ tG := tG_of (List.mem_of_getElem? (i := 303) (by rfl)) (by rfl)
set_option maxRecDepth 100000 in
theorem wd_304 : (Cond.code ({ cls := "TrainGuard", name := "release", desc := "(I)I" } : Jvm.MethodName) prog_1_method_4_code (2 : Nat) (Option.some Jvm.ClassFile.FieldType.int)) ∈ tG := tG_of (List.mem_of_getElem? (i := 304) (by rfl)) (by rfl)
set_option maxRecDepth 100000 in
theorem wd_305 : (Cond.methodLink "TrainGuard" (69 : Nat) ({ cls := "TrainGuard$Line", name := "removeRestriction", desc := "(I)I" } : Jvm.MethodName)) ∈ tG := tG_of (List.mem_of_getElem? (i := 305) (by rfl)) (by rfl)
set_option maxRecDepth 100000 in
theorem wd_306 : (Cond.instanceMethod ({ cls := "TrainGuard$Line", name := "removeRestriction", desc := "(I)I" } : Jvm.MethodName)) ∈ tG := tG_of (List.mem_of_getElem? (i := 306) (by rfl)) (by rfl)
set_option maxRecDepth 100000 in
theorem wd_307 : (Cond.selects "TrainGuard$Line" ({ cls := "TrainGuard$Line", name := "removeRestriction", desc := "(I)I" } : Jvm.MethodName) ({ cls := "TrainGuard$Line", name := "removeRestriction", desc := "(I)I" } : Jvm.MethodName)) ∈ tG := tG_of (List.mem_of_getElem? (i := 307) (by rfl)) (by rfl)
set_option maxRecDepth 100000 in
theorem wd_308 : (Cond.code ({ cls := "TrainGuard$Line", name := "removeRestriction", desc := "(I)I" } : Jvm.MethodName) prog_2_method_4_code (3 : Nat) (Option.some Jvm.ClassFile.FieldType.int)) ∈ tG := tG_of (List.mem_of_getElem? (i := 308) (by rfl)) (by rfl)
set_option maxRecDepth 100000 in
theorem wd_309 : (Cond.methodLink "TrainGuardLaw" (98 : Nat) ({ cls := "TrainGuardLaw", name := "train", desc := "(LTrainGuard;IDD[J)I" } : Jvm.MethodName)) ∈ tG := tG_of (List.mem_of_getElem? (i := 309) (by rfl)) (by rfl)
set_option maxRecDepth 100000 in
theorem wd_310 : (Cond.static ({ cls := "TrainGuardLaw", name := "train", desc := "(LTrainGuard;IDD[J)I" } : Jvm.MethodName)) ∈ tG := tG_of (List.mem_of_getElem? (i := 310) (by rfl)) (by rfl)
set_option maxRecDepth 100000 in
theorem wd_311 : (Cond.codeWith ({ cls := "TrainGuardLaw", name := "train", desc := "(LTrainGuard;IDD[J)I" } : Jvm.MethodName) method_6_code (8 : Nat) (Option.some Jvm.ClassFile.FieldType.int) [((0 : Nat), (13 : Nat), (16 : Nat), (13 : Nat)), ((0 : Nat), (13 : Nat), (20 : Nat), (15 : Nat)), ((0 : Nat), (13 : Nat), (24 : Nat), (17 : Nat)), ((0 : Nat), (13 : Nat), (28 : Nat), (19 : Nat))]) ∈ tG := tG_of (List.mem_of_getElem? (i := 311) (by rfl)) (by rfl)
set_option maxRecDepth 100000 in
theorem wd_312 : (Cond.methodLink "TrainGuardLaw" (29 : Nat) ({ cls := "TrainGuard", name := "train", desc := "(IDD)I" } : Jvm.MethodName)) ∈ tG := tG_of (List.mem_of_getElem? (i := 312) (by rfl)) (by rfl)
set_option maxRecDepth 100000 in
theorem wd_313 : (Cond.instanceMethod ({ cls := "TrainGuard", name := "train", desc := "(IDD)I" } : Jvm.MethodName)) ∈ tG := tG_of (List.mem_of_getElem? (i := 313) (by rfl)) (by rfl)
set_option maxRecDepth 100000 in
theorem wd_314 : (Cond.selects "TrainGuard" ({ cls := "TrainGuard", name := "train", desc := "(IDD)I" } : Jvm.MethodName) ({ cls := "TrainGuard", name := "train", desc := "(IDD)I" } : Jvm.MethodName)) ∈ tG := tG_of (List.mem_of_getElem? (i := 314) (by rfl)) (by rfl)
set_option maxRecDepth 100000 in
theorem wd_315 : (Cond.code ({ cls := "TrainGuard", name := "train", desc := "(IDD)I" } : Jvm.MethodName) prog_1_method_5_code (7 : Nat) (Option.some Jvm.ClassFile.FieldType.int)) ∈ tG := tG_of (List.mem_of_getElem? (i := 315) (by rfl)) (by rfl)
set_option maxRecDepth 100000 in
theorem wd_316 : (Cond.methodLink "TrainGuard" (73 : Nat) ({ cls := "TrainGuard$Line", name := "hasSection", desc := "(I)Z" } : Jvm.MethodName)) ∈ tG := tG_of (List.mem_of_getElem? (i := 316) (by rfl)) (by rfl)
set_option maxRecDepth 100000 in
theorem wd_317 : (Cond.instanceMethod ({ cls := "TrainGuard$Line", name := "hasSection", desc := "(I)Z" } : Jvm.MethodName)) ∈ tG := tG_of (List.mem_of_getElem? (i := 317) (by rfl)) (by rfl)
set_option maxRecDepth 100000 in
theorem wd_318 : (Cond.selects "TrainGuard$Line" ({ cls := "TrainGuard$Line", name := "hasSection", desc := "(I)Z" } : Jvm.MethodName) ({ cls := "TrainGuard$Line", name := "hasSection", desc := "(I)Z" } : Jvm.MethodName)) ∈ tG := tG_of (List.mem_of_getElem? (i := 318) (by rfl)) (by rfl)
set_option maxRecDepth 100000 in
theorem wd_319 : (Cond.code ({ cls := "TrainGuard$Line", name := "hasSection", desc := "(I)Z" } : Jvm.MethodName) prog_2_method_5_code (2 : Nat) (Option.some Jvm.ClassFile.FieldType.boolean)) ∈ tG := tG_of (List.mem_of_getElem? (i := 319) (by rfl)) (by rfl)
set_option maxRecDepth 100000 in
theorem wd_320 : (Cond.constantDouble "TrainGuard" (77 : Nat) (4621819117588971520 : UInt64)) ∈ tG := tG_of (List.mem_of_getElem? (i := 320) (by rfl)) (by rfl)
set_option maxRecDepth 100000 in
theorem wd_321 : (Cond.constantDouble "TrainGuard" (79 : Nat) (4602678819172646912 : UInt64)) ∈ tG := tG_of (List.mem_of_getElem? (i := 321) (by rfl)) (by rfl)
set_option maxRecDepth 100000 in
theorem wd_322 : (Cond.constantDouble "TrainGuard" (81 : Nat) (4611686018427387904 : UInt64)) ∈ tG := tG_of (List.mem_of_getElem? (i := 322) (by rfl)) (by rfl)
set_option maxRecDepth 100000 in
theorem wd_323 : (Cond.methodLink "TrainGuard" (83 : Nat) ({ cls := "TrainGuard$Line", name := "lengthOf", desc := "(I)D" } : Jvm.MethodName)) ∈ tG := tG_of (List.mem_of_getElem? (i := 323) (by rfl)) (by rfl)
set_option maxRecDepth 100000 in
theorem wd_324 : (Cond.instanceMethod ({ cls := "TrainGuard$Line", name := "lengthOf", desc := "(I)D" } : Jvm.MethodName)) ∈ tG := tG_of (List.mem_of_getElem? (i := 324) (by rfl)) (by rfl)
set_option maxRecDepth 100000 in
theorem wd_325 : (Cond.selects "TrainGuard$Line" ({ cls := "TrainGuard$Line", name := "lengthOf", desc := "(I)D" } : Jvm.MethodName) ({ cls := "TrainGuard$Line", name := "lengthOf", desc := "(I)D" } : Jvm.MethodName)) ∈ tG := tG_of (List.mem_of_getElem? (i := 325) (by rfl)) (by rfl)
set_option maxRecDepth 100000 in
theorem wd_326 : (Cond.code ({ cls := "TrainGuard$Line", name := "lengthOf", desc := "(I)D" } : Jvm.MethodName) prog_2_method_8_code (2 : Nat) (Option.some Jvm.ClassFile.FieldType.double)) ∈ tG := tG_of (List.mem_of_getElem? (i := 326) (by rfl)) (by rfl)
set_option maxRecDepth 100000 in
theorem wd_327 : (Cond.methodLink "TrainGuard$Line" (38 : Nat) ({ cls := "TrainGuard$Line", name := "endOf", desc := "(I)D" } : Jvm.MethodName)) ∈ tG := tG_of (List.mem_of_getElem? (i := 327) (by rfl)) (by rfl)
set_option maxRecDepth 100000 in
theorem wd_328 : (Cond.instanceMethod ({ cls := "TrainGuard$Line", name := "endOf", desc := "(I)D" } : Jvm.MethodName)) ∈ tG := tG_of (List.mem_of_getElem? (i := 328) (by rfl)) (by rfl)
set_option maxRecDepth 100000 in
theorem wd_329 : (Cond.selects "TrainGuard$Line" ({ cls := "TrainGuard$Line", name := "endOf", desc := "(I)D" } : Jvm.MethodName) ({ cls := "TrainGuard$Line", name := "endOf", desc := "(I)D" } : Jvm.MethodName)) ∈ tG := tG_of (List.mem_of_getElem? (i := 329) (by rfl)) (by rfl)
set_option maxRecDepth 100000 in
theorem wd_330 : (Cond.code ({ cls := "TrainGuard$Line", name := "endOf", desc := "(I)D" } : Jvm.MethodName) prog_2_method_7_code (2 : Nat) (Option.some Jvm.ClassFile.FieldType.double)) ∈ tG := tG_of (List.mem_of_getElem? (i := 330) (by rfl)) (by rfl)
set_option maxRecDepth 100000 in
theorem wd_331 : (Cond.methodLink "TrainGuard$Line" (42 : Nat) ({ cls := "TrainGuard$Line", name := "beginOf", desc := "(I)D" } : Jvm.MethodName)) ∈ tG := tG_of (List.mem_of_getElem? (i := 331) (by rfl)) (by rfl)
set_option maxRecDepth 100000 in
theorem wd_332 : (Cond.instanceMethod ({ cls := "TrainGuard$Line", name := "beginOf", desc := "(I)D" } : Jvm.MethodName)) ∈ tG := tG_of (List.mem_of_getElem? (i := 332) (by rfl)) (by rfl)
set_option maxRecDepth 100000 in
theorem wd_333 : (Cond.selects "TrainGuard$Line" ({ cls := "TrainGuard$Line", name := "beginOf", desc := "(I)D" } : Jvm.MethodName) ({ cls := "TrainGuard$Line", name := "beginOf", desc := "(I)D" } : Jvm.MethodName)) ∈ tG := tG_of (List.mem_of_getElem? (i := 333) (by rfl)) (by rfl)
set_option maxRecDepth 100000 in
theorem wd_334 : (Cond.code ({ cls := "TrainGuard$Line", name := "beginOf", desc := "(I)D" } : Jvm.MethodName) prog_2_method_6_code (2 : Nat) (Option.some Jvm.ClassFile.FieldType.double)) ∈ tG := tG_of (List.mem_of_getElem? (i := 334) (by rfl)) (by rfl)
set_option maxRecDepth 100000 in
theorem wd_335 : (Cond.methodLink "TrainGuard" (87 : Nat) ({ cls := "TrainGuard", name := "isFreeFor", desc := "(II)Z" } : Jvm.MethodName)) ∈ tG := tG_of (List.mem_of_getElem? (i := 335) (by rfl)) (by rfl)
set_option maxRecDepth 100000 in
theorem wd_337 : (Cond.instanceMethod ({ cls := "TrainGuard", name := "isFreeFor", desc := "(II)Z" } : Jvm.MethodName)) ∈ tG := tG_of (List.mem_of_getElem? (i := 337) (by rfl)) (by rfl)
set_option maxRecDepth 100000 in
theorem wd_338 : (Cond.code ({ cls := "TrainGuard", name := "isFreeFor", desc := "(II)Z" } : Jvm.MethodName) prog_1_method_24_code (4 : Nat) (Option.some Jvm.ClassFile.FieldType.boolean)) ∈ tG := tG_of (List.mem_of_getElem? (i := 338) (by rfl)) (by rfl)
set_option maxRecDepth 100000 in
theorem wd_339 : (Cond.methodLink "TrainGuard" (224 : Nat) ({ cls := "TrainGuard", name := "firstTrainIn", desc := "(II)I" } : Jvm.MethodName)) ∈ tG := tG_of (List.mem_of_getElem? (i := 339) (by rfl)) (by rfl)
set_option maxRecDepth 100000 in
theorem wd_341 : (Cond.instanceMethod ({ cls := "TrainGuard", name := "firstTrainIn", desc := "(II)I" } : Jvm.MethodName)) ∈ tG := tG_of (List.mem_of_getElem? (i := 341) (by rfl)) (by rfl)
set_option maxRecDepth 100000 in
theorem wd_342 : (Cond.code ({ cls := "TrainGuard", name := "firstTrainIn", desc := "(II)I" } : Jvm.MethodName) prog_1_method_23_code (4 : Nat) (Option.some Jvm.ClassFile.FieldType.int)) ∈ tG := tG_of (List.mem_of_getElem? (i := 342) (by rfl)) (by rfl)
set_option maxRecDepth 100000 in
theorem wd_343 : (Cond.methodLink "TrainGuard" (228 : Nat) ({ cls := "TrainGuard", name := "isIn", desc := "(LTrainGuard$Train;I)Z" } : Jvm.MethodName)) ∈ tG := tG_of (List.mem_of_getElem? (i := 343) (by rfl)) (by rfl)
set_option maxRecDepth 100000 in
theorem wd_345 : (Cond.instanceMethod ({ cls := "TrainGuard", name := "isIn", desc := "(LTrainGuard$Train;I)Z" } : Jvm.MethodName)) ∈ tG := tG_of (List.mem_of_getElem? (i := 345) (by rfl)) (by rfl)
set_option maxRecDepth 100000 in
theorem wd_346 : (Cond.code ({ cls := "TrainGuard", name := "isIn", desc := "(LTrainGuard$Train;I)Z" } : Jvm.MethodName) prog_1_method_21_code (3 : Nat) (Option.some Jvm.ClassFile.FieldType.boolean)) ∈ tG := tG_of (List.mem_of_getElem? (i := 346) (by rfl)) (by rfl)
set_option maxRecDepth 100000 in
theorem wd_347 : (Cond.methodLink "TrainGuard" (91 : Nat) ({ cls := "TrainGuard$Line", name := "beginOf", desc := "(I)D" } : Jvm.MethodName)) ∈ tG := tG_of (List.mem_of_getElem? (i := 347) (by rfl)) (by rfl)
set_option maxRecDepth 100000 in
theorem wd_348 : (Cond.methodLink "TrainGuard" (121 : Nat) ({ cls := "TrainGuard$Line", name := "endOf", desc := "(I)D" } : Jvm.MethodName)) ∈ tG := tG_of (List.mem_of_getElem? (i := 348) (by rfl)) (by rfl)
set_option maxRecDepth 100000 in
theorem wd_349 : (Cond.methodLink "TrainGuard" (175 : Nat) ({ cls := "TrainGuard$Train", name := "rear", desc := "()D" } : Jvm.MethodName)) ∈ tG := tG_of (List.mem_of_getElem? (i := 349) (by rfl)) (by rfl)
set_option maxRecDepth 100000 in
theorem wd_350 : (Cond.instanceMethod ({ cls := "TrainGuard$Train", name := "rear", desc := "()D" } : Jvm.MethodName)) ∈ tG := tG_of (List.mem_of_getElem? (i := 350) (by rfl)) (by rfl)
set_option maxRecDepth 100000 in
theorem wd_351 : (Cond.selects "TrainGuard$Train" ({ cls := "TrainGuard$Train", name := "rear", desc := "()D" } : Jvm.MethodName) ({ cls := "TrainGuard$Train", name := "rear", desc := "()D" } : Jvm.MethodName)) ∈ tG := tG_of (List.mem_of_getElem? (i := 351) (by rfl)) (by rfl)
set_option maxRecDepth 100000 in
theorem wd_352 : (Cond.code ({ cls := "TrainGuard$Train", name := "rear", desc := "()D" } : Jvm.MethodName) prog_4_method_3_code (1 : Nat) (Option.some Jvm.ClassFile.FieldType.double)) ∈ tG := tG_of (List.mem_of_getElem? (i := 352) (by rfl)) (by rfl)
set_option maxRecDepth 100000 in
theorem wd_353 : (Cond.methodLink "TrainGuard" (94 : Nat) ({ cls := "TrainGuard$Train", name := "putAt", desc := "(DDD)V" } : Jvm.MethodName)) ∈ tG := tG_of (List.mem_of_getElem? (i := 353) (by rfl)) (by rfl)
set_option maxRecDepth 100000 in
theorem wd_354 : (Cond.instanceMethod ({ cls := "TrainGuard$Train", name := "putAt", desc := "(DDD)V" } : Jvm.MethodName)) ∈ tG := tG_of (List.mem_of_getElem? (i := 354) (by rfl)) (by rfl)
set_option maxRecDepth 100000 in
theorem wd_355 : (Cond.selects "TrainGuard$Train" ({ cls := "TrainGuard$Train", name := "putAt", desc := "(DDD)V" } : Jvm.MethodName) ({ cls := "TrainGuard$Train", name := "putAt", desc := "(DDD)V" } : Jvm.MethodName)) ∈ tG := tG_of (List.mem_of_getElem? (i := 355) (by rfl)) (by rfl)
set_option maxRecDepth 100000 in
theorem wd_356 : (Cond.code ({ cls := "TrainGuard$Train", name := "putAt", desc := "(DDD)V" } : Jvm.MethodName) prog_4_method_2_code (7 : Nat) (Option.none : Option Jvm.ClassFile.FieldType)) ∈ tG := tG_of (List.mem_of_getElem? (i := 356) (by rfl)) (by rfl)
set_option maxRecDepth 100000 in
theorem wd_357 : (Cond.methodLink "TrainGuardLaw" (102 : Nat) ({ cls := "TrainGuardLaw", name := "start", desc := "(LTrainGuard;I[J)I" } : Jvm.MethodName)) ∈ tG := tG_of (List.mem_of_getElem? (i := 357) (by rfl)) (by rfl)
set_option maxRecDepth 100000 in
theorem wd_358 : (Cond.static ({ cls := "TrainGuardLaw", name := "start", desc := "(LTrainGuard;I[J)I" } : Jvm.MethodName)) ∈ tG := tG_of (List.mem_of_getElem? (i := 358) (by rfl)) (by rfl)
set_option maxRecDepth 100000 in
theorem wd_359 : (Cond.codeWith ({ cls := "TrainGuardLaw", name := "start", desc := "(LTrainGuard;I[J)I" } : Jvm.MethodName) method_7_code (4 : Nat) (Option.some Jvm.ClassFile.FieldType.int) [((0 : Nat), (9 : Nat), (12 : Nat), (13 : Nat)), ((0 : Nat), (9 : Nat), (15 : Nat), (15 : Nat)), ((0 : Nat), (9 : Nat), (18 : Nat), (17 : Nat)), ((0 : Nat), (9 : Nat), (21 : Nat), (19 : Nat))]) ∈ tG := tG_of (List.mem_of_getElem? (i := 359) (by rfl)) (by rfl)
set_option maxRecDepth 100000 in
theorem wd_360 : (Cond.methodLink "TrainGuardLaw" (33 : Nat) ({ cls := "TrainGuard", name := "start", desc := "(I)I" } : Jvm.MethodName)) ∈ tG := tG_of (List.mem_of_getElem? (i := 360) (by rfl)) (by rfl)
set_option maxRecDepth 100000 in
theorem wd_361 : (Cond.instanceMethod ({ cls := "TrainGuard", name := "start", desc := "(I)I" } : Jvm.MethodName)) ∈ tG := tG_of (List.mem_of_getElem? (i := 361) (by rfl)) (by rfl)
set_option maxRecDepth 100000 in
theorem wd_362 : (Cond.selects "TrainGuard" ({ cls := "TrainGuard", name := "start", desc := "(I)I" } : Jvm.MethodName) ({ cls := "TrainGuard", name := "start", desc := "(I)I" } : Jvm.MethodName)) ∈ tG := tG_of (List.mem_of_getElem? (i := 362) (by rfl)) (by rfl)
set_option maxRecDepth 100000 in
theorem wd_363 : (Cond.code ({ cls := "TrainGuard", name := "start", desc := "(I)I" } : Jvm.MethodName) prog_1_method_6_code (3 : Nat) (Option.some Jvm.ClassFile.FieldType.int)) ∈ tG := tG_of (List.mem_of_getElem? (i := 363) (by rfl)) (by rfl)
set_option maxRecDepth 100000 in
theorem wd_364 : (Cond.methodLink "TrainGuard" (102 : Nat) ({ cls := "TrainGuard", name := "trainNumbered", desc := "(I)LTrainGuard$Train;" } : Jvm.MethodName)) ∈ tG := tG_of (List.mem_of_getElem? (i := 364) (by rfl)) (by rfl)
set_option maxRecDepth 100000 in
theorem wd_366 : (Cond.instanceMethod ({ cls := "TrainGuard", name := "trainNumbered", desc := "(I)LTrainGuard$Train;" } : Jvm.MethodName)) ∈ tG := tG_of (List.mem_of_getElem? (i := 366) (by rfl)) (by rfl)
set_option maxRecDepth 100000 in
theorem wd_367 : (Cond.code ({ cls := "TrainGuard", name := "trainNumbered", desc := "(I)LTrainGuard$Train;" } : Jvm.MethodName) prog_1_method_19_code (2 : Nat) (Option.some (Jvm.ClassFile.FieldType.object "TrainGuard$Train"))) ∈ tG := tG_of (List.mem_of_getElem? (i := 367) (by rfl)) (by rfl)
set_option maxRecDepth 100000 in
theorem wd_368 : (Cond.methodLink "TrainGuard" (109 : Nat) ({ cls := "TrainGuard$Train", name := "isSafeNow", desc := "(LTrainGuard$Line;)Z" } : Jvm.MethodName)) ∈ tG := tG_of (List.mem_of_getElem? (i := 368) (by rfl)) (by rfl)
set_option maxRecDepth 100000 in
theorem wd_369 : (Cond.instanceMethod ({ cls := "TrainGuard$Train", name := "isSafeNow", desc := "(LTrainGuard$Line;)Z" } : Jvm.MethodName)) ∈ tG := tG_of (List.mem_of_getElem? (i := 369) (by rfl)) (by rfl)
set_option maxRecDepth 100000 in
theorem wd_370 : (Cond.selects "TrainGuard$Train" ({ cls := "TrainGuard$Train", name := "isSafeNow", desc := "(LTrainGuard$Line;)Z" } : Jvm.MethodName) ({ cls := "TrainGuard$Train", name := "isSafeNow", desc := "(LTrainGuard$Line;)Z" } : Jvm.MethodName)) ∈ tG := tG_of (List.mem_of_getElem? (i := 370) (by rfl)) (by rfl)
set_option maxRecDepth 100000 in
theorem wd_371 : (Cond.code ({ cls := "TrainGuard$Train", name := "isSafeNow", desc := "(LTrainGuard$Line;)Z" } : Jvm.MethodName) prog_4_method_8_code (2 : Nat) (Option.some Jvm.ClassFile.FieldType.boolean)) ∈ tG := tG_of (List.mem_of_getElem? (i := 371) (by rfl)) (by rfl)
set_option maxRecDepth 100000 in
theorem wd_372 : (Cond.methodLink "TrainGuard$Train" (60 : Nat) ({ cls := "TrainGuard$Train", name := "isSafeState", desc := "(LTrainGuard$Line;DDD)Z" } : Jvm.MethodName)) ∈ tG := tG_of (List.mem_of_getElem? (i := 372) (by rfl)) (by rfl)
set_option maxRecDepth 100000 in
theorem wd_374 : (Cond.instanceMethod ({ cls := "TrainGuard$Train", name := "isSafeState", desc := "(LTrainGuard$Line;DDD)Z" } : Jvm.MethodName)) ∈ tG := tG_of (List.mem_of_getElem? (i := 374) (by rfl)) (by rfl)
set_option maxRecDepth 100000 in
theorem wd_375 : (Cond.code ({ cls := "TrainGuard$Train", name := "isSafeState", desc := "(LTrainGuard$Line;DDD)Z" } : Jvm.MethodName) prog_4_method_17_code (10 : Nat) (Option.some Jvm.ClassFile.FieldType.boolean)) ∈ tG := tG_of (List.mem_of_getElem? (i := 375) (by rfl)) (by rfl)
set_option maxRecDepth 100000 in
theorem wd_376 : (Cond.methodLink "TrainGuard$Train" (56 : Nat) ({ cls := "TrainGuard$Train", name := "isSafe", desc := "(DDDD)Z" } : Jvm.MethodName)) ∈ tG := tG_of (List.mem_of_getElem? (i := 376) (by rfl)) (by rfl)
set_option maxRecDepth 100000 in
theorem wd_378 : (Cond.instanceMethod ({ cls := "TrainGuard$Train", name := "isSafe", desc := "(DDDD)Z" } : Jvm.MethodName)) ∈ tG := tG_of (List.mem_of_getElem? (i := 378) (by rfl)) (by rfl)
set_option maxRecDepth 100000 in
theorem wd_379 : (Cond.code ({ cls := "TrainGuard$Train", name := "isSafe", desc := "(DDDD)Z" } : Jvm.MethodName) prog_4_method_16_code (9 : Nat) (Option.some Jvm.ClassFile.FieldType.boolean)) ∈ tG := tG_of (List.mem_of_getElem? (i := 379) (by rfl)) (by rfl)
set_option maxRecDepth 100000 in
theorem wd_380 : (Cond.constantDouble "TrainGuard$Train" (101 : Nat) (4607745368753438720 : UInt64)) ∈ tG := tG_of (List.mem_of_getElem? (i := 380) (by rfl)) (by rfl)
set_option maxRecDepth 100000 in
theorem wd_381 : (Cond.methodLink "TrainGuard$Train" (103 : Nat) ({ cls := "TrainGuard$Train", name := "brakingWay", desc := "(DD)D" } : Jvm.MethodName)) ∈ tG := tG_of (List.mem_of_getElem? (i := 381) (by rfl)) (by rfl)
set_option maxRecDepth 100000 in
theorem wd_382 : (Cond.instanceMethod ({ cls := "TrainGuard$Train", name := "brakingWay", desc := "(DD)D" } : Jvm.MethodName)) ∈ tG := tG_of (List.mem_of_getElem? (i := 382) (by rfl)) (by rfl)
set_option maxRecDepth 100000 in
theorem wd_383 : (Cond.selects "TrainGuard$Train" ({ cls := "TrainGuard$Train", name := "brakingWay", desc := "(DD)D" } : Jvm.MethodName) ({ cls := "TrainGuard$Train", name := "brakingWay", desc := "(DD)D" } : Jvm.MethodName)) ∈ tG := tG_of (List.mem_of_getElem? (i := 383) (by rfl)) (by rfl)
set_option maxRecDepth 100000 in
theorem wd_384 : (Cond.code ({ cls := "TrainGuard$Train", name := "brakingWay", desc := "(DD)D" } : Jvm.MethodName) prog_4_method_9_code (12 : Nat) (Option.some Jvm.ClassFile.FieldType.double)) ∈ tG := tG_of (List.mem_of_getElem? (i := 384) (by rfl)) (by rfl)
set_option maxRecDepth 100000 in
theorem wd_385 : (Cond.constantDouble "TrainGuard$Train" (64 : Nat) (4602678819172646912 : UInt64)) ∈ tG := tG_of (List.mem_of_getElem? (i := 385) (by rfl)) (by rfl)
set_option maxRecDepth 100000 in
theorem wd_386 : (Cond.methodLink "TrainGuard$Train" (107 : Nat) ({ cls := "TrainGuard$Line", name := "limitNear", desc := "(D)D" } : Jvm.MethodName)) ∈ tG := tG_of (List.mem_of_getElem? (i := 386) (by rfl)) (by rfl)
set_option maxRecDepth 100000 in
theorem wd_387 : (Cond.instanceMethod ({ cls := "TrainGuard$Line", name := "limitNear", desc := "(D)D" } : Jvm.MethodName)) ∈ tG := tG_of (List.mem_of_getElem? (i := 387) (by rfl)) (by rfl)
set_option maxRecDepth 100000 in
theorem wd_388 : (Cond.selects "TrainGuard$Line" ({ cls := "TrainGuard$Line", name := "limitNear", desc := "(D)D" } : Jvm.MethodName) ({ cls := "TrainGuard$Line", name := "limitNear", desc := "(D)D" } : Jvm.MethodName)) ∈ tG := tG_of (List.mem_of_getElem? (i := 388) (by rfl)) (by rfl)
set_option maxRecDepth 100000 in
theorem wd_389 : (Cond.code ({ cls := "TrainGuard$Line", name := "limitNear", desc := "(D)D" } : Jvm.MethodName) prog_2_method_11_code (3 : Nat) (Option.some Jvm.ClassFile.FieldType.double)) ∈ tG := tG_of (List.mem_of_getElem? (i := 389) (by rfl)) (by rfl)
set_option maxRecDepth 100000 in
theorem wd_390 : (Cond.methodLink "TrainGuard$Line" (45 : Nat) ({ cls := "TrainGuard$Line", name := "limitAt", desc := "(D)D" } : Jvm.MethodName)) ∈ tG := tG_of (List.mem_of_getElem? (i := 390) (by rfl)) (by rfl)
set_option maxRecDepth 100000 in
theorem wd_391 : (Cond.instanceMethod ({ cls := "TrainGuard$Line", name := "limitAt", desc := "(D)D" } : Jvm.MethodName)) ∈ tG := tG_of (List.mem_of_getElem? (i := 391) (by rfl)) (by rfl)
set_option maxRecDepth 100000 in
theorem wd_392 : (Cond.selects "TrainGuard$Line" ({ cls := "TrainGuard$Line", name := "limitAt", desc := "(D)D" } : Jvm.MethodName) ({ cls := "TrainGuard$Line", name := "limitAt", desc := "(D)D" } : Jvm.MethodName)) ∈ tG := tG_of (List.mem_of_getElem? (i := 392) (by rfl)) (by rfl)
set_option maxRecDepth 100000 in
theorem wd_393 : (Cond.code ({ cls := "TrainGuard$Line", name := "limitAt", desc := "(D)D" } : Jvm.MethodName) prog_2_method_10_code (6 : Nat) (Option.some Jvm.ClassFile.FieldType.double)) ∈ tG := tG_of (List.mem_of_getElem? (i := 393) (by rfl)) (by rfl)
set_option maxRecDepth 100000 in
theorem wd_394 : (Cond.methodLink "TrainGuard$Line" (49 : Nat) ({ cls := "TrainGuard$Line", name := "lineEnd", desc := "()D" } : Jvm.MethodName)) ∈ tG := tG_of (List.mem_of_getElem? (i := 394) (by rfl)) (by rfl)
set_option maxRecDepth 100000 in
theorem wd_395 : (Cond.instanceMethod ({ cls := "TrainGuard$Line", name := "lineEnd", desc := "()D" } : Jvm.MethodName)) ∈ tG := tG_of (List.mem_of_getElem? (i := 395) (by rfl)) (by rfl)
set_option maxRecDepth 100000 in
theorem wd_396 : (Cond.selects "TrainGuard$Line" ({ cls := "TrainGuard$Line", name := "lineEnd", desc := "()D" } : Jvm.MethodName) ({ cls := "TrainGuard$Line", name := "lineEnd", desc := "()D" } : Jvm.MethodName)) ∈ tG := tG_of (List.mem_of_getElem? (i := 396) (by rfl)) (by rfl)
set_option maxRecDepth 100000 in
theorem wd_397 : (Cond.code ({ cls := "TrainGuard$Line", name := "lineEnd", desc := "()D" } : Jvm.MethodName) prog_2_method_9_code (1 : Nat) (Option.some Jvm.ClassFile.FieldType.double)) ∈ tG := tG_of (List.mem_of_getElem? (i := 397) (by rfl)) (by rfl)
set_option maxRecDepth 100000 in
theorem wd_398 : (Cond.methodLink "TrainGuard$Train" (110 : Nat) ({ cls := "TrainGuard$Train", name := "meetsLimitsAhead", desc := "(LTrainGuard$Line;DD)Z" } : Jvm.MethodName)) ∈ tG := tG_of (List.mem_of_getElem? (i := 398) (by rfl)) (by rfl)
set_option maxRecDepth 100000 in
theorem wd_400 : (Cond.instanceMethod ({ cls := "TrainGuard$Train", name := "meetsLimitsAhead", desc := "(LTrainGuard$Line;DD)Z" } : Jvm.MethodName)) ∈ tG := tG_of (List.mem_of_getElem? (i := 400) (by rfl)) (by rfl)
set_option maxRecDepth 100000 in
theorem wd_401 : (Cond.code ({ cls := "TrainGuard$Train", name := "meetsLimitsAhead", desc := "(LTrainGuard$Line;DD)Z" } : Jvm.MethodName) prog_4_method_18_code (10 : Nat) (Option.some Jvm.ClassFile.FieldType.boolean)) ∈ tG := tG_of (List.mem_of_getElem? (i := 401) (by rfl)) (by rfl)
set_option maxRecDepth 100000 in
theorem wd_402 : (Cond.methodLink "TrainGuard$Train" (114 : Nat) ({ cls := "TrainGuard$Line", name := "changeCount", desc := "()I" } : Jvm.MethodName)) ∈ tG := tG_of (List.mem_of_getElem? (i := 402) (by rfl)) (by rfl)
set_option maxRecDepth 100000 in
theorem wd_403 : (Cond.instanceMethod ({ cls := "TrainGuard$Line", name := "changeCount", desc := "()I" } : Jvm.MethodName)) ∈ tG := tG_of (List.mem_of_getElem? (i := 403) (by rfl)) (by rfl)
set_option maxRecDepth 100000 in
theorem wd_404 : (Cond.selects "TrainGuard$Line" ({ cls := "TrainGuard$Line", name := "changeCount", desc := "()I" } : Jvm.MethodName) ({ cls := "TrainGuard$Line", name := "changeCount", desc := "()I" } : Jvm.MethodName)) ∈ tG := tG_of (List.mem_of_getElem? (i := 404) (by rfl)) (by rfl)
set_option maxRecDepth 100000 in
theorem wd_405 : (Cond.code ({ cls := "TrainGuard$Line", name := "changeCount", desc := "()I" } : Jvm.MethodName) prog_2_method_12_code (1 : Nat) (Option.some Jvm.ClassFile.FieldType.int)) ∈ tG := tG_of (List.mem_of_getElem? (i := 405) (by rfl)) (by rfl)
set_option maxRecDepth 100000 in
theorem wd_406 : (Cond.methodLink "TrainGuard$Train" (118 : Nat) ({ cls := "TrainGuard$Line", name := "changeAt", desc := "(I)D" } : Jvm.MethodName)) ∈ tG := tG_of (List.mem_of_getElem? (i := 406) (by rfl)) (by rfl)
set_option maxRecDepth 100000 in
theorem wd_407 : (Cond.instanceMethod ({ cls := "TrainGuard$Line", name := "changeAt", desc := "(I)D" } : Jvm.MethodName)) ∈ tG := tG_of (List.mem_of_getElem? (i := 407) (by rfl)) (by rfl)
set_option maxRecDepth 100000 in
theorem wd_408 : (Cond.selects "TrainGuard$Line" ({ cls := "TrainGuard$Line", name := "changeAt", desc := "(I)D" } : Jvm.MethodName) ({ cls := "TrainGuard$Line", name := "changeAt", desc := "(I)D" } : Jvm.MethodName)) ∈ tG := tG_of (List.mem_of_getElem? (i := 408) (by rfl)) (by rfl)
set_option maxRecDepth 100000 in
theorem wd_409 : (Cond.code ({ cls := "TrainGuard$Line", name := "changeAt", desc := "(I)D" } : Jvm.MethodName) prog_2_method_13_code (2 : Nat) (Option.some Jvm.ClassFile.FieldType.double)) ∈ tG := tG_of (List.mem_of_getElem? (i := 409) (by rfl)) (by rfl)
set_option maxRecDepth 100000 in
theorem wd_410 : (Cond.methodLink "TrainGuard$Train" (98 : Nat) ({ cls := "TrainGuard$Line", name := "lineEnd", desc := "()D" } : Jvm.MethodName)) ∈ tG := tG_of (List.mem_of_getElem? (i := 410) (by rfl)) (by rfl)
set_option maxRecDepth 100000 in
theorem wd_411 : (Cond.methodLink "TrainGuard$Train" (122 : Nat) ({ cls := "TrainGuard$Line", name := "limitAt", desc := "(D)D" } : Jvm.MethodName)) ∈ tG := tG_of (List.mem_of_getElem? (i := 411) (by rfl)) (by rfl)
set_option maxRecDepth 100000 in
theorem wd_412 : (Cond.methodLink "TrainGuardLaw" (105 : Nat) ({ cls := "TrainGuardLaw", name := "ask", desc := "(LTrainGuard;II[J)I" } : Jvm.MethodName)) ∈ tG := tG_of (List.mem_of_getElem? (i := 412) (by rfl)) (by rfl)
set_option maxRecDepth 100000 in
theorem wd_413 : (Cond.static ({ cls := "TrainGuardLaw", name := "ask", desc := "(LTrainGuard;II[J)I" } : Jvm.MethodName)) ∈ tG := tG_of (List.mem_of_getElem? (i := 413) (by rfl)) (by rfl)
set_option maxRecDepth 100000 in
theorem wd_414 : (Cond.codeWith ({ cls := "TrainGuardLaw", name := "ask", desc := "(LTrainGuard;II[J)I" } : Jvm.MethodName) method_8_code (5 : Nat) (Option.some Jvm.ClassFile.FieldType.int) [((0 : Nat), (10 : Nat), (13 : Nat), (13 : Nat)), ((0 : Nat), (10 : Nat), (17 : Nat), (15 : Nat)), ((0 : Nat), (10 : Nat), (21 : Nat), (17 : Nat)), ((0 : Nat), (10 : Nat), (25 : Nat), (19 : Nat))]) ∈ tG := tG_of (List.mem_of_getElem? (i := 414) (by rfl)) (by rfl)
set_option maxRecDepth 100000 in
theorem wd_415 : (Cond.methodLink "TrainGuardLaw" (36 : Nat) ({ cls := "TrainGuard", name := "ask", desc := "(II)I" } : Jvm.MethodName)) ∈ tG := tG_of (List.mem_of_getElem? (i := 415) (by rfl)) (by rfl)
set_option maxRecDepth 100000 in
theorem wd_416 : (Cond.instanceMethod ({ cls := "TrainGuard", name := "ask", desc := "(II)I" } : Jvm.MethodName)) ∈ tG := tG_of (List.mem_of_getElem? (i := 416) (by rfl)) (by rfl)
set_option maxRecDepth 100000 in
theorem wd_417 : (Cond.selects "TrainGuard" ({ cls := "TrainGuard", name := "ask", desc := "(II)I" } : Jvm.MethodName) ({ cls := "TrainGuard", name := "ask", desc := "(II)I" } : Jvm.MethodName)) ∈ tG := tG_of (List.mem_of_getElem? (i := 417) (by rfl)) (by rfl)
set_option maxRecDepth 100000 in
theorem wd_418 : (Cond.code ({ cls := "TrainGuard", name := "ask", desc := "(II)I" } : Jvm.MethodName) prog_1_method_7_code (6 : Nat) (Option.some Jvm.ClassFile.FieldType.int)) ∈ tG := tG_of (List.mem_of_getElem? (i := 418) (by rfl)) (by rfl)
set_option maxRecDepth 100000 in
theorem wd_419 : (Cond.methodLink "TrainGuard" (113 : Nat) ({ cls := "TrainGuard", name := "headOf", desc := "(LTrainGuard$Train;)I" } : Jvm.MethodName)) ∈ tG := tG_of (List.mem_of_getElem? (i := 419) (by rfl)) (by rfl)
set_option maxRecDepth 100000 in
theorem wd_421 : (Cond.instanceMethod ({ cls := "TrainGuard", name := "headOf", desc := "(LTrainGuard$Train;)I" } : Jvm.MethodName)) ∈ tG := tG_of (List.mem_of_getElem? (i := 421) (by rfl)) (by rfl)
set_option maxRecDepth 100000 in
theorem wd_422 : (Cond.code ({ cls := "TrainGuard", name := "headOf", desc := "(LTrainGuard$Train;)I" } : Jvm.MethodName) prog_1_method_22_code (4 : Nat) (Option.some Jvm.ClassFile.FieldType.int)) ∈ tG := tG_of (List.mem_of_getElem? (i := 422) (by rfl)) (by rfl)
set_option maxRecDepth 100000 in
theorem wd_423 : (Cond.methodLink "TrainGuard" (124 : Nat) ({ cls := "TrainGuard$Message", name := "send", desc := "(ZD)I" } : Jvm.MethodName)) ∈ tG := tG_of (List.mem_of_getElem? (i := 423) (by rfl)) (by rfl)
set_option maxRecDepth 100000 in
theorem wd_424 : (Cond.instanceMethod ({ cls := "TrainGuard$Message", name := "send", desc := "(ZD)I" } : Jvm.MethodName)) ∈ tG := tG_of (List.mem_of_getElem? (i := 424) (by rfl)) (by rfl)
set_option maxRecDepth 100000 in
theorem wd_425 : (Cond.selects "TrainGuard$Message" ({ cls := "TrainGuard$Message", name := "send", desc := "(ZD)I" } : Jvm.MethodName) ({ cls := "TrainGuard$Message", name := "send", desc := "(ZD)I" } : Jvm.MethodName)) ∈ tG := tG_of (List.mem_of_getElem? (i := 425) (by rfl)) (by rfl)
set_option maxRecDepth 100000 in
theorem wd_426 : (Cond.code ({ cls := "TrainGuard$Message", name := "send", desc := "(ZD)I" } : Jvm.MethodName) prog_3_method_2_code (4 : Nat) (Option.some Jvm.ClassFile.FieldType.int)) ∈ tG := tG_of (List.mem_of_getElem? (i := 426) (by rfl)) (by rfl)
set_option maxRecDepth 100000 in
theorem wd_427 : (Cond.methodLink "TrainGuard$Message" (26 : Nat) ({ cls := "TrainGuard$Message", name := "dueMark", desc := "()I" } : Jvm.MethodName)) ∈ tG := tG_of (List.mem_of_getElem? (i := 427) (by rfl)) (by rfl)
set_option maxRecDepth 100000 in
theorem wd_429 : (Cond.instanceMethod ({ cls := "TrainGuard$Message", name := "dueMark", desc := "()I" } : Jvm.MethodName)) ∈ tG := tG_of (List.mem_of_getElem? (i := 429) (by rfl)) (by rfl)
set_option maxRecDepth 100000 in
theorem wd_430 : (Cond.code ({ cls := "TrainGuard$Message", name := "dueMark", desc := "()I" } : Jvm.MethodName) prog_3_method_4_code (1 : Nat) (Option.some Jvm.ClassFile.FieldType.int)) ∈ tG := tG_of (List.mem_of_getElem? (i := 430) (by rfl)) (by rfl)
set_option maxRecDepth 100000 in
theorem wd_431 : (Cond.constantDouble "TrainGuard$Message" (33 : Nat) (4620693217682128896 : UInt64)) ∈ tG := tG_of (List.mem_of_getElem? (i := 431) (by rfl)) (by rfl)
set_option maxRecDepth 100000 in
theorem wd_432 : (Cond.methodLink "TrainGuardLaw" (109 : Nat) ({ cls := "TrainGuardLaw", name := "stop", desc := "(LTrainGuard;I[J)I" } : Jvm.MethodName)) ∈ tG := tG_of (List.mem_of_getElem? (i := 432) (by rfl)) (by rfl)
set_option maxRecDepth 100000 in
theorem wd_433 : (Cond.static ({ cls := "TrainGuardLaw", name := "stop", desc := "(LTrainGuard;I[J)I" } : Jvm.MethodName)) ∈ tG := tG_of (List.mem_of_getElem? (i := 433) (by rfl)) (by rfl)
set_option maxRecDepth 100000 in
theorem wd_434 : (Cond.codeWith ({ cls := "TrainGuardLaw", name := "stop", desc := "(LTrainGuard;I[J)I" } : Jvm.MethodName) method_9_code (4 : Nat) (Option.some Jvm.ClassFile.FieldType.int) [((0 : Nat), (9 : Nat), (12 : Nat), (13 : Nat)), ((0 : Nat), (9 : Nat), (15 : Nat), (15 : Nat)), ((0 : Nat), (9 : Nat), (18 : Nat), (17 : Nat)), ((0 : Nat), (9 : Nat), (21 : Nat), (19 : Nat))]) ∈ tG := tG_of (List.mem_of_getElem? (i := 434) (by rfl)) (by rfl)
set_option maxRecDepth 100000 in
theorem wd_435 : (Cond.methodLink "TrainGuardLaw" (40 : Nat) ({ cls := "TrainGuard", name := "stop", desc := "(I)I" } : Jvm.MethodName)) ∈ tG := tG_of (List.mem_of_getElem? (i := 435) (by rfl)) (by rfl)
set_option maxRecDepth 100000 in
theorem wd_436 : (Cond.instanceMethod ({ cls := "TrainGuard", name := "stop", desc := "(I)I" } : Jvm.MethodName)) ∈ tG := tG_of (List.mem_of_getElem? (i := 436) (by rfl)) (by rfl)
set_option maxRecDepth 100000 in
theorem wd_437 : (Cond.selects "TrainGuard" ({ cls := "TrainGuard", name := "stop", desc := "(I)I" } : Jvm.MethodName) ({ cls := "TrainGuard", name := "stop", desc := "(I)I" } : Jvm.MethodName)) ∈ tG := tG_of (List.mem_of_getElem? (i := 437) (by rfl)) (by rfl)
set_option maxRecDepth 100000 in
theorem wd_438 : (Cond.code ({ cls := "TrainGuard", name := "stop", desc := "(I)I" } : Jvm.MethodName) prog_1_method_8_code (2 : Nat) (Option.some Jvm.ClassFile.FieldType.int)) ∈ tG := tG_of (List.mem_of_getElem? (i := 438) (by rfl)) (by rfl)
set_option maxRecDepth 100000 in
theorem wd_439 : (Cond.methodLink "TrainGuardLaw" (112 : Nat) ({ cls := "TrainGuardLaw", name := "take", desc := "(LTrainGuard;II[J)I" } : Jvm.MethodName)) ∈ tG := tG_of (List.mem_of_getElem? (i := 439) (by rfl)) (by rfl)
set_option maxRecDepth 100000 in
theorem wd_440 : (Cond.static ({ cls := "TrainGuardLaw", name := "take", desc := "(LTrainGuard;II[J)I" } : Jvm.MethodName)) ∈ tG := tG_of (List.mem_of_getElem? (i := 440) (by rfl)) (by rfl)
set_option maxRecDepth 100000 in
theorem wd_441 : (Cond.codeWith ({ cls := "TrainGuardLaw", name := "take", desc := "(LTrainGuard;II[J)I" } : Jvm.MethodName) method_10_code (5 : Nat) (Option.some Jvm.ClassFile.FieldType.int) [((0 : Nat), (10 : Nat), (13 : Nat), (13 : Nat)), ((0 : Nat), (10 : Nat), (17 : Nat), (15 : Nat)), ((0 : Nat), (10 : Nat), (21 : Nat), (17 : Nat)), ((0 : Nat), (10 : Nat), (25 : Nat), (19 : Nat))]) ∈ tG := tG_of (List.mem_of_getElem? (i := 441) (by rfl)) (by rfl)
set_option maxRecDepth 100000 in
theorem wd_442 : (Cond.methodLink "TrainGuardLaw" (43 : Nat) ({ cls := "TrainGuard", name := "take", desc := "(II)I" } : Jvm.MethodName)) ∈ tG := tG_of (List.mem_of_getElem? (i := 442) (by rfl)) (by rfl)
set_option maxRecDepth 100000 in
theorem wd_443 : (Cond.instanceMethod ({ cls := "TrainGuard", name := "take", desc := "(II)I" } : Jvm.MethodName)) ∈ tG := tG_of (List.mem_of_getElem? (i := 443) (by rfl)) (by rfl)
set_option maxRecDepth 100000 in
theorem wd_444 : (Cond.selects "TrainGuard" ({ cls := "TrainGuard", name := "take", desc := "(II)I" } : Jvm.MethodName) ({ cls := "TrainGuard", name := "take", desc := "(II)I" } : Jvm.MethodName)) ∈ tG := tG_of (List.mem_of_getElem? (i := 444) (by rfl)) (by rfl)
set_option maxRecDepth 100000 in
theorem wd_445 : (Cond.code ({ cls := "TrainGuard", name := "take", desc := "(II)I" } : Jvm.MethodName) prog_1_method_9_code (5 : Nat) (Option.some Jvm.ClassFile.FieldType.int)) ∈ tG := tG_of (List.mem_of_getElem? (i := 445) (by rfl)) (by rfl)
set_option maxRecDepth 100000 in
theorem wd_446 : (Cond.methodLink "TrainGuard" (134 : Nat) ({ cls := "TrainGuard", name := "demandMessage", desc := "(Z)V" } : Jvm.MethodName)) ∈ tG := tG_of (List.mem_of_getElem? (i := 446) (by rfl)) (by rfl)
set_option maxRecDepth 100000 in
theorem wd_447 : (Cond.static ({ cls := "TrainGuard", name := "demandMessage", desc := "(Z)V" } : Jvm.MethodName)) ∈ tG := tG_of (List.mem_of_getElem? (i := 447) (by rfl)) (by rfl)
set_option maxRecDepth 100000 in
theorem wd_448 : (Cond.code ({ cls := "TrainGuard", name := "demandMessage", desc := "(Z)V" } : Jvm.MethodName) prog_1_method_29_code (1 : Nat) (Option.none : Option Jvm.ClassFile.FieldType)) ∈ tG := tG_of (List.mem_of_getElem? (i := 448) (by rfl)) (by rfl)
set_option maxRecDepth 100000 in
theorem wd_449 : (Cond.classLink "TrainGuard" (237 : Nat) "java/util/NoSuchElementException") ∈ tG := tG_of (List.mem_of_getElem? (i := 449) (by rfl)) (by rfl)
set_option maxRecDepth 100000 in
theorem wd_450 : (Cond.instantiable "java/util/NoSuchElementException" (6 : Nat)) ∈ tG := tG_of (List.mem_of_getElem? (i := 450) (by rfl)) (by rfl)
set_option maxRecDepth 100000 in
theorem wd_452 : (Cond.selects "java/util/NoSuchElementException" ({ cls := "java/lang/Throwable", name := "fillInStackTrace", desc := "(I)Ljava/lang/Throwable;" } : Jvm.MethodName) ({ cls := "java/lang/Throwable", name := "fillInStackTrace", desc := "(I)Ljava/lang/Throwable;" } : Jvm.MethodName)) ∈ tG := tG_of (List.mem_of_getElem? (i := 452) (by rfl)) (by rfl)
set_option maxRecDepth 100000 in
theorem wd_453 : (Cond.lays "java/util/NoSuchElementException" "java/lang/Throwable" "cause" "Ljava/lang/Throwable;") ∈ tG := tG_of (List.mem_of_getElem? (i := 453) (by rfl)) (by rfl)
set_option maxRecDepth 100000 in
theorem wd_454 : (Cond.lays "java/util/NoSuchElementException" "java/lang/Throwable" "stackTrace" "[Ljava/lang/StackTraceElement;") ∈ tG := tG_of (List.mem_of_getElem? (i := 454) (by rfl)) (by rfl)
set_option maxRecDepth 100000 in
theorem wd_455 : (Cond.lays "java/util/NoSuchElementException" "java/lang/Throwable" "suppressedExceptions" "Ljava/util/List;") ∈ tG := tG_of (List.mem_of_getElem? (i := 455) (by rfl)) (by rfl)
set_option maxRecDepth 100000 in
theorem wd_456 : (Cond.lays "java/util/NoSuchElementException" "java/lang/Throwable" "detailMessage" "Ljava/lang/String;") ∈ tG := tG_of (List.mem_of_getElem? (i := 456) (by rfl)) (by rfl)
set_option maxRecDepth 100000 in
theorem wd_457 : (Cond.lays "java/util/NoSuchElementException" "java/lang/Throwable" "backtrace" "Ljava/lang/Object;") ∈ tG := tG_of (List.mem_of_getElem? (i := 457) (by rfl)) (by rfl)
set_option maxRecDepth 100000 in
theorem wd_458 : (Cond.methodLink "TrainGuard" (239 : Nat) ({ cls := "java/util/NoSuchElementException", name := "<init>", desc := "()V" } : Jvm.MethodName)) ∈ tG := tG_of (List.mem_of_getElem? (i := 458) (by rfl)) (by rfl)
set_option maxRecDepth 100000 in
theorem wd_459 : (Cond.instanceMethod ({ cls := "java/util/NoSuchElementException", name := "<init>", desc := "()V" } : Jvm.MethodName)) ∈ tG := tG_of (List.mem_of_getElem? (i := 459) (by rfl)) (by rfl)
set_option maxRecDepth 100000 in
theorem wd_460 : (Cond.code ({ cls := "java/util/NoSuchElementException", name := "<init>", desc := "()V" } : Jvm.MethodName) prog_13_method_1_code (1 : Nat) (Option.none : Option Jvm.ClassFile.FieldType)) ∈ tG := tG_of (List.mem_of_getElem? (i := 460) (by rfl)) (by rfl)
set_option maxRecDepth 100000 in
theorem wd_461 : (Cond.methodLink "java/util/NoSuchElementException" (1 : Nat) ({ cls := "java/lang/RuntimeException", name := "<init>", desc := "()V" } : Jvm.MethodName)) ∈ tG := tG_of (List.mem_of_getElem? (i := 461) (by rfl)) (by rfl)
set_option maxRecDepth 100000 in
theorem wd_462 : (Cond.lays "java/util/NoSuchElementException" "java/lang/Throwable" "depth" "I") ∈ tG := tG_of (List.mem_of_getElem? (i := 462) (by rfl)) (by rfl)
set_option maxRecDepth 100000 in
theorem wd_464 : (Cond.methodLink "TrainGuard" (140 : Nat) ({ cls := "TrainGuard$Message", name := "isGenuine", desc := "(I)Z" } : Jvm.MethodName)) ∈ tG := tG_of (List.mem_of_getElem? (i := 464) (by rfl)) (by rfl)
set_option maxRecDepth 100000 in
theorem wd_465 : (Cond.instanceMethod ({ cls := "TrainGuard$Message", name := "isGenuine", desc := "(I)Z" } : Jvm.MethodName)) ∈ tG := tG_of (List.mem_of_getElem? (i := 465) (by rfl)) (by rfl)
set_option maxRecDepth 100000 in
theorem wd_466 : (Cond.selects "TrainGuard$Message" ({ cls := "TrainGuard$Message", name := "isGenuine", desc := "(I)Z" } : Jvm.MethodName) ({ cls := "TrainGuard$Message", name := "isGenuine", desc := "(I)Z" } : Jvm.MethodName)) ∈ tG := tG_of (List.mem_of_getElem? (i := 466) (by rfl)) (by rfl)
set_option maxRecDepth 100000 in
theorem wd_467 : (Cond.code ({ cls := "TrainGuard$Message", name := "isGenuine", desc := "(I)Z" } : Jvm.MethodName) prog_3_method_3_code (2 : Nat) (Option.some Jvm.ClassFile.FieldType.boolean)) ∈ tG := tG_of (List.mem_of_getElem? (i := 467) (by rfl)) (by rfl)
set_option maxRecDepth 100000 in
theorem wd_468 : (Cond.methodLink "TrainGuard" (149 : Nat) ({ cls := "TrainGuard$Train", name := "obeyStop", desc := "()V" } : Jvm.MethodName)) ∈ tG := tG_of (List.mem_of_getElem? (i := 468) (by rfl)) (by rfl)
set_option maxRecDepth 100000 in
theorem wd_469 : (Cond.instanceMethod ({ cls := "TrainGuard$Train", name := "obeyStop", desc := "()V" } : Jvm.MethodName)) ∈ tG := tG_of (List.mem_of_getElem? (i := 469) (by rfl)) (by rfl)
set_option maxRecDepth 100000 in
theorem wd_470 : (Cond.selects "TrainGuard$Train" ({ cls := "TrainGuard$Train", name := "obeyStop", desc := "()V" } : Jvm.MethodName) ({ cls := "TrainGuard$Train", name := "obeyStop", desc := "()V" } : Jvm.MethodName)) ∈ tG := tG_of (List.mem_of_getElem? (i := 470) (by rfl)) (by rfl)
set_option maxRecDepth 100000 in
theorem wd_471 : (Cond.code ({ cls := "TrainGuard$Train", name := "obeyStop", desc := "()V" } : Jvm.MethodName) prog_4_method_5_code (1 : Nat) (Option.none : Option Jvm.ClassFile.FieldType)) ∈ tG := tG_of (List.mem_of_getElem? (i := 471) (by rfl)) (by rfl)
set_option maxRecDepth 100000 in
theorem wd_472 : (Cond.methodLink "TrainGuard" (156 : Nat) ({ cls := "TrainGuard$Train", name := "canStopAt", desc := "(D)Z" } : Jvm.MethodName)) ∈ tG := tG_of (List.mem_of_getElem? (i := 472) (by rfl)) (by rfl)
set_option maxRecDepth 100000 in
theorem wd_473 : (Cond.instanceMethod ({ cls := "TrainGuard$Train", name := "canStopAt", desc := "(D)Z" } : Jvm.MethodName)) ∈ tG := tG_of (List.mem_of_getElem? (i := 473) (by rfl)) (by rfl)
set_option maxRecDepth 100000 in
theorem wd_474 : (Cond.selects "TrainGuard$Train" ({ cls := "TrainGuard$Train", name := "canStopAt", desc := "(D)Z" } : Jvm.MethodName) ({ cls := "TrainGuard$Train", name := "canStopAt", desc := "(D)Z" } : Jvm.MethodName)) ∈ tG := tG_of (List.mem_of_getElem? (i := 474) (by rfl)) (by rfl)
set_option maxRecDepth 100000 in
theorem wd_475 : (Cond.code ({ cls := "TrainGuard$Train", name := "canStopAt", desc := "(D)Z" } : Jvm.MethodName) prog_4_method_7_code (3 : Nat) (Option.some Jvm.ClassFile.FieldType.boolean)) ∈ tG := tG_of (List.mem_of_getElem? (i := 475) (by rfl)) (by rfl)
set_option maxRecDepth 100000 in
theorem wd_476 : (Cond.methodLink "TrainGuard" (159 : Nat) ({ cls := "TrainGuard$Train", name := "accept", desc := "(DLTrainGuard$Line;)V" } : Jvm.MethodName)) ∈ tG := tG_of (List.mem_of_getElem? (i := 476) (by rfl)) (by rfl)
set_option maxRecDepth 100000 in
theorem wd_477 : (Cond.instanceMethod ({ cls := "TrainGuard$Train", name := "accept", desc := "(DLTrainGuard$Line;)V" } : Jvm.MethodName)) ∈ tG := tG_of (List.mem_of_getElem? (i := 477) (by rfl)) (by rfl)
set_option maxRecDepth 100000 in
theorem wd_478 : (Cond.selects "TrainGuard$Train" ({ cls := "TrainGuard$Train", name := "accept", desc := "(DLTrainGuard$Line;)V" } : Jvm.MethodName) ({ cls := "TrainGuard$Train", name := "accept", desc := "(DLTrainGuard$Line;)V" } : Jvm.MethodName)) ∈ tG := tG_of (List.mem_of_getElem? (i := 478) (by rfl)) (by rfl)
set_option maxRecDepth 100000 in
theorem wd_479 : (Cond.code ({ cls := "TrainGuard$Train", name := "accept", desc := "(DLTrainGuard$Line;)V" } : Jvm.MethodName) prog_4_method_6_code (4 : Nat) (Option.none : Option Jvm.ClassFile.FieldType)) ∈ tG := tG_of (List.mem_of_getElem? (i := 479) (by rfl)) (by rfl)
set_option maxRecDepth 100000 in
theorem wd_480 : (Cond.methodLink "TrainGuard$Train" (45 : Nat) ({ cls := "TrainGuard$Train", name := "stands", desc := "()Z" } : Jvm.MethodName)) ∈ tG := tG_of (List.mem_of_getElem? (i := 480) (by rfl)) (by rfl)
set_option maxRecDepth 100000 in
theorem wd_481 : (Cond.instanceMethod ({ cls := "TrainGuard$Train", name := "stands", desc := "()Z" } : Jvm.MethodName)) ∈ tG := tG_of (List.mem_of_getElem? (i := 481) (by rfl)) (by rfl)
set_option maxRecDepth 100000 in
theorem wd_482 : (Cond.selects "TrainGuard$Train" ({ cls := "TrainGuard$Train", name := "stands", desc := "()Z" } : Jvm.MethodName) ({ cls := "TrainGuard$Train", name := "stands", desc := "()Z" } : Jvm.MethodName)) ∈ tG := tG_of (List.mem_of_getElem? (i := 482) (by rfl)) (by rfl)
set_option maxRecDepth 100000 in
theorem wd_483 : (Cond.code ({ cls := "TrainGuard$Train", name := "stands", desc := "()Z" } : Jvm.MethodName) prog_4_method_4_code (1 : Nat) (Option.some Jvm.ClassFile.FieldType.boolean)) ∈ tG := tG_of (List.mem_of_getElem? (i := 483) (by rfl)) (by rfl)
set_option maxRecDepth 100000 in
theorem wd_484 : (Cond.methodLink "TrainGuard$Train" (49 : Nat) ({ cls := "TrainGuard$Train", name := "isSafeNow", desc := "(LTrainGuard$Line;)Z" } : Jvm.MethodName)) ∈ tG := tG_of (List.mem_of_getElem? (i := 484) (by rfl)) (by rfl)
set_option maxRecDepth 100000 in
theorem wd_485 : (Cond.methodLink "TrainGuardLaw" (115 : Nat) ({ cls := "TrainGuardLaw", name := "second", desc := "(LTrainGuard;IDI[J)I" } : Jvm.MethodName)) ∈ tG := tG_of (List.mem_of_getElem? (i := 485) (by rfl)) (by rfl)
set_option maxRecDepth 100000 in
theorem wd_486 : (Cond.static ({ cls := "TrainGuardLaw", name := "second", desc := "(LTrainGuard;IDI[J)I" } : Jvm.MethodName)) ∈ tG := tG_of (List.mem_of_getElem? (i := 486) (by rfl)) (by rfl)
set_option maxRecDepth 100000 in
theorem wd_487 : (Cond.codeWith ({ cls := "TrainGuardLaw", name := "second", desc := "(LTrainGuard;IDI[J)I" } : Jvm.MethodName) method_11_code (7 : Nat) (Option.some Jvm.ClassFile.FieldType.int) [((0 : Nat), (13 : Nat), (16 : Nat), (13 : Nat)), ((0 : Nat), (13 : Nat), (20 : Nat), (15 : Nat)), ((0 : Nat), (13 : Nat), (24 : Nat), (17 : Nat)), ((0 : Nat), (13 : Nat), (28 : Nat), (19 : Nat))]) ∈ tG := tG_of (List.mem_of_getElem? (i := 487) (by rfl)) (by rfl)
set_option maxRecDepth 100000 in
theorem wd_488 : (Cond.methodLink "TrainGuardLaw" (46 : Nat) ({ cls := "TrainGuard", name := "second", desc := "(IDI)I" } : Jvm.MethodName)) ∈ tG := tG_of (List.mem_of_getElem? (i := 488) (by rfl)) (by rfl)
set_option maxRecDepth 100000 in
theorem wd_489 : (Cond.instanceMethod ({ cls := "TrainGuard", name := "second", desc := "(IDI)I" } : Jvm.MethodName)) ∈ tG := tG_of (List.mem_of_getElem? (i := 489) (by rfl)) (by rfl)
set_option maxRecDepth 100000 in
theorem wd_490 : (Cond.selects "TrainGuard" ({ cls := "TrainGuard", name := "second", desc := "(IDI)I" } : Jvm.MethodName) ({ cls := "TrainGuard", name := "second", desc := "(IDI)I" } : Jvm.MethodName)) ∈ tG := tG_of (List.mem_of_getElem? (i := 490) (by rfl)) (by rfl)
set_option maxRecDepth 100000 in
theorem wd_491 : (Cond.code ({ cls := "TrainGuard", name := "second", desc := "(IDI)I" } : Jvm.MethodName) prog_1_method_10_code (7 : Nat) (Option.some Jvm.ClassFile.FieldType.int)) ∈ tG := tG_of (List.mem_of_getElem? (i := 491) (by rfl)) (by rfl)
set_option maxRecDepth 100000 in
theorem wd_492 : (Cond.constantDouble "TrainGuard" (163 : Nat) (13835058055282163712 : UInt64)) ∈ tG := tG_of (List.mem_of_getElem? (i := 492) (by rfl)) (by rfl)
set_option maxRecDepth 100000 in
theorem wd_493 : (Cond.methodLink "TrainGuard" (165 : Nat) ({ cls := "TrainGuard$Train", name := "runSecond", desc := "(LTrainGuard$Line;DI)Z" } : Jvm.MethodName)) ∈ tG := tG_of (List.mem_of_getElem? (i := 493) (by rfl)) (by rfl)
set_option maxRecDepth 100000 in
theorem wd_494 : (Cond.instanceMethod ({ cls := "TrainGuard$Train", name := "runSecond", desc := "(LTrainGuard$Line;DI)Z" } : Jvm.MethodName)) ∈ tG := tG_of (List.mem_of_getElem? (i := 494) (by rfl)) (by rfl)
set_option maxRecDepth 100000 in
theorem wd_495 : (Cond.selects "TrainGuard$Train" ({ cls := "TrainGuard$Train", name := "runSecond", desc := "(LTrainGuard$Line;DI)Z" } : Jvm.MethodName) ({ cls := "TrainGuard$Train", name := "runSecond", desc := "(LTrainGuard$Line;DI)Z" } : Jvm.MethodName)) ∈ tG := tG_of (List.mem_of_getElem? (i := 495) (by rfl)) (by rfl)
set_option maxRecDepth 100000 in
theorem wd_496 : (Cond.code ({ cls := "TrainGuard$Train", name := "runSecond", desc := "(LTrainGuard$Line;DI)Z" } : Jvm.MethodName) prog_4_method_10_code (8 : Nat) (Option.some Jvm.ClassFile.FieldType.boolean)) ∈ tG := tG_of (List.mem_of_getElem? (i := 496) (by rfl)) (by rfl)
set_option maxRecDepth 100000 in
theorem wd_497 : (Cond.methodLink "TrainGuard$Train" (66 : Nat) ({ cls := "TrainGuard$Train", name := "wishedSpeed", desc := "(D)D" } : Jvm.MethodName)) ∈ tG := tG_of (List.mem_of_getElem? (i := 497) (by rfl)) (by rfl)
set_option maxRecDepth 100000 in
theorem wd_499 : (Cond.instanceMethod ({ cls := "TrainGuard$Train", name := "wishedSpeed", desc := "(D)D" } : Jvm.MethodName)) ∈ tG := tG_of (List.mem_of_getElem? (i := 499) (by rfl)) (by rfl)
set_option maxRecDepth 100000 in
theorem wd_500 : (Cond.code ({ cls := "TrainGuard$Train", name := "wishedSpeed", desc := "(D)D" } : Jvm.MethodName) prog_4_method_11_code (5 : Nat) (Option.some Jvm.ClassFile.FieldType.double)) ∈ tG := tG_of (List.mem_of_getElem? (i := 500) (by rfl)) (by rfl)
set_option maxRecDepth 100000 in
theorem wd_501 : (Cond.constantDouble "TrainGuard$Train" (82 : Nat) (4617315517961601024 : UInt64)) ∈ tG := tG_of (List.mem_of_getElem? (i := 501) (by rfl)) (by rfl)
set_option maxRecDepth 100000 in
theorem wd_502 : (Cond.methodLink "TrainGuard$Train" (70 : Nat) ({ cls := "TrainGuard$Train", name := "isSafeBehind", desc := "(LTrainGuard$Line;D)Z" } : Jvm.MethodName)) ∈ tG := tG_of (List.mem_of_getElem? (i := 502) (by rfl)) (by rfl)
set_option maxRecDepth 100000 in
theorem wd_504 : (Cond.instanceMethod ({ cls := "TrainGuard$Train", name := "isSafeBehind", desc := "(LTrainGuard$Line;D)Z" } : Jvm.MethodName)) ∈ tG := tG_of (List.mem_of_getElem? (i := 504) (by rfl)) (by rfl)
set_option maxRecDepth 100000 in
theorem wd_505 : (Cond.code ({ cls := "TrainGuard$Train", name := "isSafeBehind", desc := "(LTrainGuard$Line;D)Z" } : Jvm.MethodName) prog_4_method_14_code (6 : Nat) (Option.some Jvm.ClassFile.FieldType.boolean)) ∈ tG := tG_of (List.mem_of_getElem? (i := 505) (by rfl)) (by rfl)
set_option maxRecDepth 100000 in
theorem wd_506 : (Cond.methodLink "TrainGuard$Train" (87 : Nat) ({ cls := "TrainGuard$Train", name := "wayTo", desc := "(D)D" } : Jvm.MethodName)) ∈ tG := tG_of (List.mem_of_getElem? (i := 506) (by rfl)) (by rfl)
set_option maxRecDepth 100000 in
theorem wd_508 : (Cond.instanceMethod ({ cls := "TrainGuard$Train", name := "wayTo", desc := "(D)D" } : Jvm.MethodName)) ∈ tG := tG_of (List.mem_of_getElem? (i := 508) (by rfl)) (by rfl)
set_option maxRecDepth 100000 in
theorem wd_509 : (Cond.code ({ cls := "TrainGuard$Train", name := "wayTo", desc := "(D)D" } : Jvm.MethodName) prog_4_method_13_code (3 : Nat) (Option.some Jvm.ClassFile.FieldType.double)) ∈ tG := tG_of (List.mem_of_getElem? (i := 509) (by rfl)) (by rfl)
set_option maxRecDepth 100000 in
theorem wd_510 : (Cond.constantDouble "TrainGuard$Train" (90 : Nat) (4593671619917905920 : UInt64)) ∈ tG := tG_of (List.mem_of_getElem? (i := 510) (by rfl)) (by rfl)
set_option maxRecDepth 100000 in
theorem wd_511 : (Cond.methodLink "TrainGuard$Train" (74 : Nat) ({ cls := "TrainGuard$Train", name := "brakedSpeed", desc := "()D" } : Jvm.MethodName)) ∈ tG := tG_of (List.mem_of_getElem? (i := 511) (by rfl)) (by rfl)
set_option maxRecDepth 100000 in
theorem wd_513 : (Cond.instanceMethod ({ cls := "TrainGuard$Train", name := "brakedSpeed", desc := "()D" } : Jvm.MethodName)) ∈ tG := tG_of (List.mem_of_getElem? (i := 513) (by rfl)) (by rfl)
set_option maxRecDepth 100000 in
theorem wd_514 : (Cond.code ({ cls := "TrainGuard$Train", name := "brakedSpeed", desc := "()D" } : Jvm.MethodName) prog_4_method_12_code (3 : Nat) (Option.some Jvm.ClassFile.FieldType.double)) ∈ tG := tG_of (List.mem_of_getElem? (i := 514) (by rfl)) (by rfl)
set_option maxRecDepth 100000 in
theorem wd_515 : (Cond.methodLink "TrainGuard$Train" (78 : Nat) ({ cls := "TrainGuard$Train", name := "move", desc := "(LTrainGuard$Line;DI)V" } : Jvm.MethodName)) ∈ tG := tG_of (List.mem_of_getElem? (i := 515) (by rfl)) (by rfl)
set_option maxRecDepth 100000 in
theorem wd_517 : (Cond.instanceMethod ({ cls := "TrainGuard$Train", name := "move", desc := "(LTrainGuard$Line;DI)V" } : Jvm.MethodName)) ∈ tG := tG_of (List.mem_of_getElem? (i := 517) (by rfl)) (by rfl)
set_option maxRecDepth 100000 in
theorem wd_518 : (Cond.code ({ cls := "TrainGuard$Train", name := "move", desc := "(LTrainGuard$Line;DI)V" } : Jvm.MethodName) prog_4_method_15_code (9 : Nat) (Option.none : Option Jvm.ClassFile.FieldType)) ∈ tG := tG_of (List.mem_of_getElem? (i := 518) (by rfl)) (by rfl)
set_option maxRecDepth 100000 in
theorem wd_519 : (Cond.methodLink "TrainGuard$Train" (92 : Nat) ({ cls := "TrainGuard$Line", name := "hasBeginBetween", desc := "(DD)Z" } : Jvm.MethodName)) ∈ tG := tG_of (List.mem_of_getElem? (i := 519) (by rfl)) (by rfl)
set_option maxRecDepth 100000 in
theorem wd_520 : (Cond.instanceMethod ({ cls := "TrainGuard$Line", name := "hasBeginBetween", desc := "(DD)Z" } : Jvm.MethodName)) ∈ tG := tG_of (List.mem_of_getElem? (i := 520) (by rfl)) (by rfl)
set_option maxRecDepth 100000 in
theorem wd_521 : (Cond.selects "TrainGuard$Line" ({ cls := "TrainGuard$Line", name := "hasBeginBetween", desc := "(DD)Z" } : Jvm.MethodName) ({ cls := "TrainGuard$Line", name := "hasBeginBetween", desc := "(DD)Z" } : Jvm.MethodName)) ∈ tG := tG_of (List.mem_of_getElem? (i := 521) (by rfl)) (by rfl)
set_option maxRecDepth 100000 in
theorem wd_522 : (Cond.code ({ cls := "TrainGuard$Line", name := "hasBeginBetween", desc := "(DD)Z" } : Jvm.MethodName) prog_2_method_14_code (6 : Nat) (Option.some Jvm.ClassFile.FieldType.boolean)) ∈ tG := tG_of (List.mem_of_getElem? (i := 522) (by rfl)) (by rfl)
set_option maxRecDepth 100000 in
theorem wd_523 : (Cond.methodLink "TrainGuard" (179 : Nat) ({ cls := "TrainGuard$Line", name := "freeBelow", desc := "(DI)V" } : Jvm.MethodName)) ∈ tG := tG_of (List.mem_of_getElem? (i := 523) (by rfl)) (by rfl)
set_option maxRecDepth 100000 in
theorem wd_524 : (Cond.instanceMethod ({ cls := "TrainGuard$Line", name := "freeBelow", desc := "(DI)V" } : Jvm.MethodName)) ∈ tG := tG_of (List.mem_of_getElem? (i := 524) (by rfl)) (by rfl)
set_option maxRecDepth 100000 in
theorem wd_525 : (Cond.selects "TrainGuard$Line" ({ cls := "TrainGuard$Line", name := "freeBelow", desc := "(DI)V" } : Jvm.MethodName) ({ cls := "TrainGuard$Line", name := "freeBelow", desc := "(DI)V" } : Jvm.MethodName)) ∈ tG := tG_of (List.mem_of_getElem? (i := 525) (by rfl)) (by rfl)
set_option maxRecDepth 100000 in
theorem wd_526 : (Cond.code ({ cls := "TrainGuard$Line", name := "freeBelow", desc := "(DI)V" } : Jvm.MethodName) prog_2_method_15_code (5 : Nat) (Option.none : Option Jvm.ClassFile.FieldType)) ∈ tG := tG_of (List.mem_of_getElem? (i := 526) (by rfl)) (by rfl)
set_option maxRecDepth 100000 in
theorem wd_527 : (Cond.methodLink "TrainGuardLaw" (119 : Nat) ({ cls := "TrainGuardLaw", name := "wet", desc := "(LTrainGuard;IZ[J)I" } : Jvm.MethodName)) ∈ tG := tG_of (List.mem_of_getElem? (i := 527) (by rfl)) (by rfl)
set_option maxRecDepth 100000 in
theorem wd_528 : (Cond.static ({ cls := "TrainGuardLaw", name := "wet", desc := "(LTrainGuard;IZ[J)I" } : Jvm.MethodName)) ∈ tG := tG_of (List.mem_of_getElem? (i := 528) (by rfl)) (by rfl)
set_option maxRecDepth 100000 in
theorem wd_529 : (Cond.codeWith ({ cls := "TrainGuardLaw", name := "wet", desc := "(LTrainGuard;IZ[J)I" } : Jvm.MethodName) method_12_code (5 : Nat) (Option.some Jvm.ClassFile.FieldType.int) [((0 : Nat), (10 : Nat), (13 : Nat), (13 : Nat)), ((0 : Nat), (10 : Nat), (17 : Nat), (15 : Nat)), ((0 : Nat), (10 : Nat), (21 : Nat), (17 : Nat)), ((0 : Nat), (10 : Nat), (25 : Nat), (19 : Nat))]) ∈ tG := tG_of (List.mem_of_getElem? (i := 529) (by rfl)) (by rfl)
set_option maxRecDepth 100000 in
theorem wd_530 : (Cond.methodLink "TrainGuardLaw" (50 : Nat) ({ cls := "TrainGuard", name := "wet", desc := "(IZ)I" } : Jvm.MethodName)) ∈ tG := tG_of (List.mem_of_getElem? (i := 530) (by rfl)) (by rfl)
set_option maxRecDepth 100000 in
theorem wd_531 : (Cond.instanceMethod ({ cls := "TrainGuard", name := "wet", desc := "(IZ)I" } : Jvm.MethodName)) ∈ tG := tG_of (List.mem_of_getElem? (i := 531) (by rfl)) (by rfl)
set_option maxRecDepth 100000 in
theorem wd_532 : (Cond.selects "TrainGuard" ({ cls := "TrainGuard", name := "wet", desc := "(IZ)I" } : Jvm.MethodName) ({ cls := "TrainGuard", name := "wet", desc := "(IZ)I" } : Jvm.MethodName)) ∈ tG := tG_of (List.mem_of_getElem? (i := 532) (by rfl)) (by rfl)
set_option maxRecDepth 100000 in
theorem wd_533 : (Cond.code ({ cls := "TrainGuard", name := "wet", desc := "(IZ)I" } : Jvm.MethodName) prog_1_method_11_code (3 : Nat) (Option.some Jvm.ClassFile.FieldType.int)) ∈ tG := tG_of (List.mem_of_getElem? (i := 533) (by rfl)) (by rfl)
set_option maxRecDepth 100000 in
theorem wd_534 : (Cond.methodLink "TrainGuardLaw" (123 : Nat) ({ cls := "TrainGuardLaw", name := "acknowledge", desc := "(LTrainGuard;I[J)I" } : Jvm.MethodName)) ∈ tG := tG_of (List.mem_of_getElem? (i := 534) (by rfl)) (by rfl)
set_option maxRecDepth 100000 in
theorem wd_535 : (Cond.static ({ cls := "TrainGuardLaw", name := "acknowledge", desc := "(LTrainGuard;I[J)I" } : Jvm.MethodName)) ∈ tG := tG_of (List.mem_of_getElem? (i := 535) (by rfl)) (by rfl)
set_option maxRecDepth 100000 in
theorem wd_536 : (Cond.codeWith ({ cls := "TrainGuardLaw", name := "acknowledge", desc := "(LTrainGuard;I[J)I" } : Jvm.MethodName) method_13_code (4 : Nat) (Option.some Jvm.ClassFile.FieldType.int) [((0 : Nat), (9 : Nat), (12 : Nat), (13 : Nat)), ((0 : Nat), (9 : Nat), (15 : Nat), (15 : Nat)), ((0 : Nat), (9 : Nat), (18 : Nat), (17 : Nat)), ((0 : Nat), (9 : Nat), (21 : Nat), (19 : Nat))]) ∈ tG := tG_of (List.mem_of_getElem? (i := 536) (by rfl)) (by rfl)
set_option maxRecDepth 100000 in
theorem wd_537 : (Cond.methodLink "TrainGuardLaw" (54 : Nat) ({ cls := "TrainGuard", name := "acknowledge", desc := "(I)I" } : Jvm.MethodName)) ∈ tG := tG_of (List.mem_of_getElem? (i := 537) (by rfl)) (by rfl)
set_option maxRecDepth 100000 in
theorem wd_538 : (Cond.instanceMethod ({ cls := "TrainGuard", name := "acknowledge", desc := "(I)I" } : Jvm.MethodName)) ∈ tG := tG_of (List.mem_of_getElem? (i := 538) (by rfl)) (by rfl)
set_option maxRecDepth 100000 in
theorem wd_539 : (Cond.selects "TrainGuard" ({ cls := "TrainGuard", name := "acknowledge", desc := "(I)I" } : Jvm.MethodName) ({ cls := "TrainGuard", name := "acknowledge", desc := "(I)I" } : Jvm.MethodName)) ∈ tG := tG_of (List.mem_of_getElem? (i := 539) (by rfl)) (by rfl)
set_option maxRecDepth 100000 in
theorem wd_540 : (Cond.code ({ cls := "TrainGuard", name := "acknowledge", desc := "(I)I" } : Jvm.MethodName) prog_1_method_12_code (3 : Nat) (Option.some Jvm.ClassFile.FieldType.int)) ∈ tG := tG_of (List.mem_of_getElem? (i := 540) (by rfl)) (by rfl)
set_option maxRecDepth 100000 in
theorem wd_541 : (Cond.methodLink "TrainGuard" (186 : Nat) ({ cls := "TrainGuard$Train", name := "stands", desc := "()Z" } : Jvm.MethodName)) ∈ tG := tG_of (List.mem_of_getElem? (i := 541) (by rfl)) (by rfl)
set_option maxRecDepth 100000 in
theorem wd_542 : (Cond.methodLink "TrainGuardLaw" (126 : Nat) ({ cls := "TrainGuardLaw", name := "end", desc := "(LTrainGuard;I[J)I" } : Jvm.MethodName)) ∈ tG := tG_of (List.mem_of_getElem? (i := 542) (by rfl)) (by rfl)
set_option maxRecDepth 100000 in
theorem wd_543 : (Cond.static ({ cls := "TrainGuardLaw", name := "end", desc := "(LTrainGuard;I[J)I" } : Jvm.MethodName)) ∈ tG := tG_of (List.mem_of_getElem? (i := 543) (by rfl)) (by rfl)
set_option maxRecDepth 100000 in
theorem wd_544 : (Cond.codeWith ({ cls := "TrainGuardLaw", name := "end", desc := "(LTrainGuard;I[J)I" } : Jvm.MethodName) method_14_code (4 : Nat) (Option.some Jvm.ClassFile.FieldType.int) [((0 : Nat), (9 : Nat), (12 : Nat), (13 : Nat)), ((0 : Nat), (9 : Nat), (15 : Nat), (15 : Nat)), ((0 : Nat), (9 : Nat), (18 : Nat), (17 : Nat)), ((0 : Nat), (9 : Nat), (21 : Nat), (19 : Nat))]) ∈ tG := tG_of (List.mem_of_getElem? (i := 544) (by rfl)) (by rfl)
set_option maxRecDepth 100000 in
theorem wd_545 : (Cond.methodLink "TrainGuardLaw" (57 : Nat) ({ cls := "TrainGuard", name := "end", desc := "(I)I" } : Jvm.MethodName)) ∈ tG := tG_of (List.mem_of_getElem? (i := 545) (by rfl)) (by rfl)
set_option maxRecDepth 100000 in
theorem wd_546 : (Cond.instanceMethod ({ cls := "TrainGuard", name := "end", desc := "(I)I" } : Jvm.MethodName)) ∈ tG := tG_of (List.mem_of_getElem? (i := 546) (by rfl)) (by rfl)
set_option maxRecDepth 100000 in
theorem wd_547 : (Cond.selects "TrainGuard" ({ cls := "TrainGuard", name := "end", desc := "(I)I" } : Jvm.MethodName) ({ cls := "TrainGuard", name := "end", desc := "(I)I" } : Jvm.MethodName)) ∈ tG := tG_of (List.mem_of_getElem? (i := 547) (by rfl)) (by rfl)
set_option maxRecDepth 100000 in
theorem wd_548 : (Cond.code ({ cls := "TrainGuard", name := "end", desc := "(I)I" } : Jvm.MethodName) prog_1_method_13_code (3 : Nat) (Option.some Jvm.ClassFile.FieldType.int)) ∈ tG := tG_of (List.mem_of_getElem? (i := 548) (by rfl)) (by rfl)
set_option maxRecDepth 100000 in
theorem wd_549 : (Cond.methodLink "TrainGuard" (192 : Nat) ({ cls := "TrainGuard", name := "holdOwnPlacesOnly", desc := "(I)V" } : Jvm.MethodName)) ∈ tG := tG_of (List.mem_of_getElem? (i := 549) (by rfl)) (by rfl)
set_option maxRecDepth 100000 in
theorem wd_551 : (Cond.instanceMethod ({ cls := "TrainGuard", name := "holdOwnPlacesOnly", desc := "(I)V" } : Jvm.MethodName)) ∈ tG := tG_of (List.mem_of_getElem? (i := 551) (by rfl)) (by rfl)
set_option maxRecDepth 100000 in
theorem wd_552 : (Cond.code ({ cls := "TrainGuard", name := "holdOwnPlacesOnly", desc := "(I)V" } : Jvm.MethodName) prog_1_method_25_code (3 : Nat) (Option.none : Option Jvm.ClassFile.FieldType)) ∈ tG := tG_of (List.mem_of_getElem? (i := 552) (by rfl)) (by rfl)
set_option maxRecDepth 100000 in
theorem wd_553 : (Cond.methodLink "TrainGuardLaw" (129 : Nat) ({ cls := "TrainGuardLaw", name := "of", desc := "(LTrainGuard;II[D)I" } : Jvm.MethodName)) ∈ tG := tG_of (List.mem_of_getElem? (i := 553) (by rfl)) (by rfl)
set_option maxRecDepth 100000 in
theorem wd_554 : (Cond.static ({ cls := "TrainGuardLaw", name := "of", desc := "(LTrainGuard;II[D)I" } : Jvm.MethodName)) ∈ tG := tG_of (List.mem_of_getElem? (i := 554) (by rfl)) (by rfl)
set_option maxRecDepth 100000 in
theorem wd_555 : (Cond.codeWith ({ cls := "TrainGuardLaw", name := "of", desc := "(LTrainGuard;II[D)I" } : Jvm.MethodName) method_15_code (5 : Nat) (Option.some Jvm.ClassFile.FieldType.int) [((0 : Nat), (9 : Nat), (12 : Nat), (13 : Nat)), ((0 : Nat), (9 : Nat), (16 : Nat), (15 : Nat)), ((0 : Nat), (9 : Nat), (20 : Nat), (17 : Nat)), ((0 : Nat), (9 : Nat), (24 : Nat), (19 : Nat))]) ∈ tG := tG_of (List.mem_of_getElem? (i := 555) (by rfl)) (by rfl)
set_option maxRecDepth 100000 in
theorem wd_556 : (Cond.methodLink "TrainGuardLaw" (60 : Nat) ({ cls := "TrainGuard", name := "of", desc := "(II)D" } : Jvm.MethodName)) ∈ tG := tG_of (List.mem_of_getElem? (i := 556) (by rfl)) (by rfl)
set_option maxRecDepth 100000 in
theorem wd_557 : (Cond.instanceMethod ({ cls := "TrainGuard", name := "of", desc := "(II)D" } : Jvm.MethodName)) ∈ tG := tG_of (List.mem_of_getElem? (i := 557) (by rfl)) (by rfl)
set_option maxRecDepth 100000 in
theorem wd_558 : (Cond.selects "TrainGuard" ({ cls := "TrainGuard", name := "of", desc := "(II)D" } : Jvm.MethodName) ({ cls := "TrainGuard", name := "of", desc := "(II)D" } : Jvm.MethodName)) ∈ tG := tG_of (List.mem_of_getElem? (i := 558) (by rfl)) (by rfl)
set_option maxRecDepth 100000 in
theorem wd_559 : (Cond.code ({ cls := "TrainGuard", name := "of", desc := "(II)D" } : Jvm.MethodName) prog_1_method_14_code (4 : Nat) (Option.some Jvm.ClassFile.FieldType.double)) ∈ tG := tG_of (List.mem_of_getElem? (i := 559) (by rfl)) (by rfl)
set_option maxRecDepth 100000 in
theorem wd_560 : (Cond.constantDouble "TrainGuard" (211 : Nat) (13830554455654793216 : UInt64)) ∈ tG := tG_of (List.mem_of_getElem? (i := 560) (by rfl)) (by rfl)
set_option maxRecDepth 100000 in
theorem wd_561 : (Cond.methodLink "TrainGuard" (213 : Nat) ({ cls := "TrainGuard$Train", name := "brakingWay", desc := "(DD)D" } : Jvm.MethodName)) ∈ tG := tG_of (List.mem_of_getElem? (i := 561) (by rfl)) (by rfl)
set_option maxRecDepth 100000 in
theorem wd_562 : (Cond.methodLink "TrainGuardLaw" (133 : Nat) ({ cls := "TrainGuardLaw", name := "limit", desc := "(LTrainGuard;D[D)I" } : Jvm.MethodName)) ∈ tG := tG_of (List.mem_of_getElem? (i := 562) (by rfl)) (by rfl)
set_option maxRecDepth 100000 in
theorem wd_563 : (Cond.static ({ cls := "TrainGuardLaw", name := "limit", desc := "(LTrainGuard;D[D)I" } : Jvm.MethodName)) ∈ tG := tG_of (List.mem_of_getElem? (i := 563) (by rfl)) (by rfl)
set_option maxRecDepth 100000 in
theorem wd_564 : (Cond.codeWith ({ cls := "TrainGuardLaw", name := "limit", desc := "(LTrainGuard;D[D)I" } : Jvm.MethodName) method_16_code (5 : Nat) (Option.some Jvm.ClassFile.FieldType.int) [((0 : Nat), (8 : Nat), (11 : Nat), (13 : Nat)), ((0 : Nat), (8 : Nat), (15 : Nat), (15 : Nat)), ((0 : Nat), (8 : Nat), (19 : Nat), (17 : Nat)), ((0 : Nat), (8 : Nat), (23 : Nat), (19 : Nat))]) ∈ tG := tG_of (List.mem_of_getElem? (i := 564) (by rfl)) (by rfl)
set_option maxRecDepth 100000 in
theorem wd_565 : (Cond.methodLink "TrainGuardLaw" (64 : Nat) ({ cls := "TrainGuard", name := "limit", desc := "(D)D" } : Jvm.MethodName)) ∈ tG := tG_of (List.mem_of_getElem? (i := 565) (by rfl)) (by rfl)
set_option maxRecDepth 100000 in
theorem wd_566 : (Cond.instanceMethod ({ cls := "TrainGuard", name := "limit", desc := "(D)D" } : Jvm.MethodName)) ∈ tG := tG_of (List.mem_of_getElem? (i := 566) (by rfl)) (by rfl)
set_option maxRecDepth 100000 in
theorem wd_567 : (Cond.selects "TrainGuard" ({ cls := "TrainGuard", name := "limit", desc := "(D)D" } : Jvm.MethodName) ({ cls := "TrainGuard", name := "limit", desc := "(D)D" } : Jvm.MethodName)) ∈ tG := tG_of (List.mem_of_getElem? (i := 567) (by rfl)) (by rfl)
set_option maxRecDepth 100000 in
theorem wd_568 : (Cond.code ({ cls := "TrainGuard", name := "limit", desc := "(D)D" } : Jvm.MethodName) prog_1_method_15_code (3 : Nat) (Option.some Jvm.ClassFile.FieldType.double)) ∈ tG := tG_of (List.mem_of_getElem? (i := 568) (by rfl)) (by rfl)
set_option maxRecDepth 100000 in
theorem wd_569 : (Cond.methodLink "TrainGuard" (217 : Nat) ({ cls := "TrainGuard$Line", name := "lineEnd", desc := "()D" } : Jvm.MethodName)) ∈ tG := tG_of (List.mem_of_getElem? (i := 569) (by rfl)) (by rfl)
set_option maxRecDepth 100000 in
theorem wd_570 : (Cond.methodLink "TrainGuard" (220 : Nat) ({ cls := "TrainGuard$Line", name := "limitAt", desc := "(D)D" } : Jvm.MethodName)) ∈ tG := tG_of (List.mem_of_getElem? (i := 570) (by rfl)) (by rfl)
set_option maxRecDepth 100000 in
theorem wd_571 : (Cond.methodLink "TrainGuardLaw" (137 : Nat) ({ cls := "TrainGuardLaw", name := "mode", desc := "(LTrainGuard;I[J)I" } : Jvm.MethodName)) ∈ tG := tG_of (List.mem_of_getElem? (i := 571) (by rfl)) (by rfl)
set_option maxRecDepth 100000 in
theorem wd_572 : (Cond.static ({ cls := "TrainGuardLaw", name := "mode", desc := "(LTrainGuard;I[J)I" } : Jvm.MethodName)) ∈ tG := tG_of (List.mem_of_getElem? (i := 572) (by rfl)) (by rfl)
set_option maxRecDepth 100000 in
theorem wd_573 : (Cond.codeWith ({ cls := "TrainGuardLaw", name := "mode", desc := "(LTrainGuard;I[J)I" } : Jvm.MethodName) method_17_code (4 : Nat) (Option.some Jvm.ClassFile.FieldType.int) [((0 : Nat), (9 : Nat), (12 : Nat), (13 : Nat)), ((0 : Nat), (9 : Nat), (15 : Nat), (15 : Nat)), ((0 : Nat), (9 : Nat), (18 : Nat), (17 : Nat)), ((0 : Nat), (9 : Nat), (21 : Nat), (19 : Nat))]) ∈ tG := tG_of (List.mem_of_getElem? (i := 573) (by rfl)) (by rfl)
set_option maxRecDepth 100000 in
theorem wd_574 : (Cond.methodLink "TrainGuardLaw" (68 : Nat) ({ cls := "TrainGuard", name := "mode", desc := "(I)I" } : Jvm.MethodName)) ∈ tG := tG_of (List.mem_of_getElem? (i := 574) (by rfl)) (by rfl)
set_option maxRecDepth 100000 in
theorem wd_575 : (Cond.instanceMethod ({ cls := "TrainGuard", name := "mode", desc := "(I)I" } : Jvm.MethodName)) ∈ tG := tG_of (List.mem_of_getElem? (i := 575) (by rfl)) (by rfl)
set_option maxRecDepth 100000 in
theorem wd_576 : (Cond.selects "TrainGuard" ({ cls := "TrainGuard", name := "mode", desc := "(I)I" } : Jvm.MethodName) ({ cls := "TrainGuard", name := "mode", desc := "(I)I" } : Jvm.MethodName)) ∈ tG := tG_of (List.mem_of_getElem? (i := 576) (by rfl)) (by rfl)
set_option maxRecDepth 100000 in
theorem wd_577 : (Cond.code ({ cls := "TrainGuard", name := "mode", desc := "(I)I" } : Jvm.MethodName) prog_1_method_16_code (2 : Nat) (Option.some Jvm.ClassFile.FieldType.int)) ∈ tG := tG_of (List.mem_of_getElem? (i := 577) (by rfl)) (by rfl)
set_option maxRecDepth 100000 in
theorem wd_578 : (Cond.methodLink "TrainGuardLaw" (140 : Nat) ({ cls := "TrainGuardLaw", name := "holds", desc := "(LTrainGuard;II[J)I" } : Jvm.MethodName)) ∈ tG := tG_of (List.mem_of_getElem? (i := 578) (by rfl)) (by rfl)
set_option maxRecDepth 100000 in
theorem wd_579 : (Cond.static ({ cls := "TrainGuardLaw", name := "holds", desc := "(LTrainGuard;II[J)I" } : Jvm.MethodName)) ∈ tG := tG_of (List.mem_of_getElem? (i := 579) (by rfl)) (by rfl)
set_option maxRecDepth 100000 in
theorem wd_580 : (Cond.codeWith ({ cls := "TrainGuardLaw", name := "holds", desc := "(LTrainGuard;II[J)I" } : Jvm.MethodName) method_18_code (5 : Nat) (Option.some Jvm.ClassFile.FieldType.int) [((0 : Nat), (10 : Nat), (13 : Nat), (13 : Nat)), ((0 : Nat), (10 : Nat), (17 : Nat), (15 : Nat)), ((0 : Nat), (10 : Nat), (21 : Nat), (17 : Nat)), ((0 : Nat), (10 : Nat), (25 : Nat), (19 : Nat))]) ∈ tG := tG_of (List.mem_of_getElem? (i := 580) (by rfl)) (by rfl)
set_option maxRecDepth 100000 in
theorem wd_581 : (Cond.methodLink "TrainGuardLaw" (71 : Nat) ({ cls := "TrainGuard", name := "holds", desc := "(II)I" } : Jvm.MethodName)) ∈ tG := tG_of (List.mem_of_getElem? (i := 581) (by rfl)) (by rfl)
set_option maxRecDepth 100000 in
theorem wd_582 : (Cond.instanceMethod ({ cls := "TrainGuard", name := "holds", desc := "(II)I" } : Jvm.MethodName)) ∈ tG := tG_of (List.mem_of_getElem? (i := 582) (by rfl)) (by rfl)
set_option maxRecDepth 100000 in
theorem wd_583 : (Cond.selects "TrainGuard" ({ cls := "TrainGuard", name := "holds", desc := "(II)I" } : Jvm.MethodName) ({ cls := "TrainGuard", name := "holds", desc := "(II)I" } : Jvm.MethodName)) ∈ tG := tG_of (List.mem_of_getElem? (i := 583) (by rfl)) (by rfl)
set_option maxRecDepth 100000 in
theorem wd_584 : (Cond.code ({ cls := "TrainGuard", name := "holds", desc := "(II)I" } : Jvm.MethodName) prog_1_method_17_code (3 : Nat) (Option.some Jvm.ClassFile.FieldType.int)) ∈ tG := tG_of (List.mem_of_getElem? (i := 584) (by rfl)) (by rfl)
set_option maxRecDepth 100000 in
theorem wd_585 : (Cond.classLink "TrainGuardLaw" (75 : Nat) "TrainGuardModel") ∈ tG := tG_of (List.mem_of_getElem? (i := 585) (by rfl)) (by rfl)
set_option maxRecDepth 100000 in
theorem wd_586 : (Cond.instantiable "TrainGuardModel" (25 : Nat)) ∈ tG := tG_of (List.mem_of_getElem? (i := 586) (by rfl)) (by rfl)
set_option maxRecDepth 100000 in
theorem wd_587 : (Cond.methodLink "TrainGuardLaw" (77 : Nat) ({ cls := "TrainGuardModel", name := "<init>", desc := "()V" } : Jvm.MethodName)) ∈ tG := tG_of (List.mem_of_getElem? (i := 587) (by rfl)) (by rfl)
set_option maxRecDepth 100000 in
theorem wd_588 : (Cond.instanceMethod ({ cls := "TrainGuardModel", name := "<init>", desc := "()V" } : Jvm.MethodName)) ∈ tG := tG_of (List.mem_of_getElem? (i := 588) (by rfl)) (by rfl)
set_option maxRecDepth 100000 in
theorem wd_589 : (Cond.code ({ cls := "TrainGuardModel", name := "<init>", desc := "()V" } : Jvm.MethodName) prog_6_method_1_code (1 : Nat) (Option.none : Option Jvm.ClassFile.FieldType)) ∈ tG := tG_of (List.mem_of_getElem? (i := 589) (by rfl)) (by rfl)
set_option maxRecDepth 100000 in
theorem wd_590 : (Cond.methodLink "TrainGuardModel" (1 : Nat) ({ cls := "java/lang/Object", name := "<init>", desc := "()V" } : Jvm.MethodName)) ∈ tG := tG_of (List.mem_of_getElem? (i := 590) (by rfl)) (by rfl)
set_option maxRecDepth 100000 in
theorem wd_591 : (Cond.fieldLink "TrainGuardModel" (66 : Nat) "TrainGuardModel" "thrown" "I") ∈ tG := tG_of (List.mem_of_getElem? (i := 591) (by rfl)) (by rfl)
set_option maxRecDepth 100000 in
theorem wd_592 : (Cond.fieldLink "TrainGuardModel" (79 : Nat) "TrainGuardModel" "sections" "I") ∈ tG := tG_of (List.mem_of_getElem? (i := 592) (by rfl)) (by rfl)
set_option maxRecDepth 100000 in
theorem wd_593 : (Cond.fieldLink "TrainGuardModel" (7 : Nat) "TrainGuardModel" "begin" "[J") ∈ tG := tG_of (List.mem_of_getElem? (i := 593) (by rfl)) (by rfl)
set_option maxRecDepth 100000 in
theorem wd_594 : (Cond.fieldLink "TrainGuardModel" (13 : Nat) "TrainGuardModel" "speedOf" "[J") ∈ tG := tG_of (List.mem_of_getElem? (i := 594) (by rfl)) (by rfl)
set_option maxRecDepth 100000 in
theorem wd_595 : (Cond.fieldLink "TrainGuardModel" (16 : Nat) "TrainGuardModel" "held" "[I") ∈ tG := tG_of (List.mem_of_getElem? (i := 595) (by rfl)) (by rfl)
set_option maxRecDepth 100000 in
theorem wd_596 : (Cond.fieldLink "TrainGuardModel" (86 : Nat) "TrainGuardModel" "restrictions" "I") ∈ tG := tG_of (List.mem_of_getElem? (i := 596) (by rfl)) (by rfl)
set_option maxRecDepth 100000 in
theorem wd_597 : (Cond.fieldLink "TrainGuardModel" (20 : Nat) "TrainGuardModel" "from" "[J") ∈ tG := tG_of (List.mem_of_getElem? (i := 597) (by rfl)) (by rfl)
set_option maxRecDepth 100000 in
theorem wd_598 : (Cond.fieldLink "TrainGuardModel" (23 : Nat) "TrainGuardModel" "to" "[J") ∈ tG := tG_of (List.mem_of_getElem? (i := 598) (by rfl)) (by rfl)
set_option maxRecDepth 100000 in
theorem wd_599 : (Cond.fieldLink "TrainGuardModel" (26 : Nat) "TrainGuardModel" "least" "[J") ∈ tG := tG_of (List.mem_of_getElem? (i := 599) (by rfl)) (by rfl)
set_option maxRecDepth 100000 in
theorem wd_600 : (Cond.fieldLink "TrainGuardModel" (72 : Nat) "TrainGuardModel" "trains" "I") ∈ tG := tG_of (List.mem_of_getElem? (i := 600) (by rfl)) (by rfl)
set_option maxRecDepth 100000 in
theorem wd_601 : (Cond.fieldLink "TrainGuardModel" (29 : Nat) "TrainGuardModel" "length" "[J") ∈ tG := tG_of (List.mem_of_getElem? (i := 601) (by rfl)) (by rfl)
set_option maxRecDepth 100000 in
theorem wd_602 : (Cond.fieldLink "TrainGuardModel" (32 : Nat) "TrainGuardModel" "brake" "[J") ∈ tG := tG_of (List.mem_of_getElem? (i := 602) (by rfl)) (by rfl)
set_option maxRecDepth 100000 in
theorem wd_603 : (Cond.fieldLink "TrainGuardModel" (35 : Nat) "TrainGuardModel" "speed" "[J") ∈ tG := tG_of (List.mem_of_getElem? (i := 603) (by rfl)) (by rfl)
set_option maxRecDepth 100000 in
theorem wd_604 : (Cond.fieldLink "TrainGuardModel" (38 : Nat) "TrainGuardModel" "real" "[J") ∈ tG := tG_of (List.mem_of_getElem? (i := 604) (by rfl)) (by rfl)
set_option maxRecDepth 100000 in
theorem wd_605 : (Cond.fieldLink "TrainGuardModel" (41 : Nat) "TrainGuardModel" "measured" "[J") ∈ tG := tG_of (List.mem_of_getElem? (i := 605) (by rfl)) (by rfl)
set_option maxRecDepth 100000 in
theorem wd_606 : (Cond.fieldLink "TrainGuardModel" (44 : Nat) "TrainGuardModel" "margin" "[J") ∈ tG := tG_of (List.mem_of_getElem? (i := 606) (by rfl)) (by rfl)
set_option maxRecDepth 100000 in
theorem wd_607 : (Cond.fieldLink "TrainGuardModel" (47 : Nat) "TrainGuardModel" "authority" "[J") ∈ tG := tG_of (List.mem_of_getElem? (i := 607) (by rfl)) (by rfl)
set_option maxRecDepth 100000 in
theorem wd_608 : (Cond.fieldLink "TrainGuardModel" (50 : Nat) "TrainGuardModel" "mode" "[I") ∈ tG := tG_of (List.mem_of_getElem? (i := 608) (by rfl)) (by rfl)
set_option maxRecDepth 100000 in
theorem wd_609 : (Cond.fieldLink "TrainGuardModel" (53 : Nat) "TrainGuardModel" "wet" "[Z") ∈ tG := tG_of (List.mem_of_getElem? (i := 609) (by rfl)) (by rfl)
set_option maxRecDepth 100000 in
theorem wd_610 : (Cond.fieldLink "TrainGuardModel" (57 : Nat) "TrainGuardModel" "numbers" "[I") ∈ tG := tG_of (List.mem_of_getElem? (i := 610) (by rfl)) (by rfl)
set_option maxRecDepth 100000 in
theorem wd_611 : (Cond.fieldLink "TrainGuardModel" (60 : Nat) "TrainGuardModel" "message" "[I") ∈ tG := tG_of (List.mem_of_getElem? (i := 611) (by rfl)) (by rfl)
set_option maxRecDepth 100000 in
theorem wd_612 : (Cond.fieldLink "TrainGuardModel" (63 : Nat) "TrainGuardModel" "place" "[J") ∈ tG := tG_of (List.mem_of_getElem? (i := 612) (by rfl)) (by rfl)
set_option maxRecDepth 100000 in
theorem wd_613 : (Cond.fieldLink "TrainGuardModel" (171 : Nat) "TrainGuardModel" "forged" "I") ∈ tG := tG_of (List.mem_of_getElem? (i := 613) (by rfl)) (by rfl)
set_option maxRecDepth 100000 in
theorem wd_614 : (Cond.fieldLink "TrainGuardModel" (179 : Nat) "TrainGuardModel" "braked" "I") ∈ tG := tG_of (List.mem_of_getElem? (i := 614) (by rfl)) (by rfl)
set_option maxRecDepth 100000 in
theorem wd_615 : (Cond.fieldLink "TrainGuardModel" (190 : Nat) "TrainGuardModel" "tripped" "I") ∈ tG := tG_of (List.mem_of_getElem? (i := 615) (by rfl)) (by rfl)
set_option maxRecDepth 100000 in
theorem wd_616 : (Cond.lays "TrainGuardModel" "TrainGuardModel" "thrown" "I") ∈ tG := tG_of (List.mem_of_getElem? (i := 616) (by rfl)) (by rfl)
set_option maxRecDepth 100000 in
theorem wd_618 : (Cond.lays "TrainGuardModel" "TrainGuardModel" "sections" "I") ∈ tG := tG_of (List.mem_of_getElem? (i := 618) (by rfl)) (by rfl)
set_option maxRecDepth 100000 in
theorem wd_620 : (Cond.laysFinal "TrainGuardModel" "TrainGuardModel" "begin" "[J") ∈ tG := tG_of (List.mem_of_getElem? (i := 620) (by rfl)) (by rfl)
set_option maxRecDepth 100000 in
theorem wd_622 : (Cond.laysFinal "TrainGuardModel" "TrainGuardModel" "speedOf" "[J") ∈ tG := tG_of (List.mem_of_getElem? (i := 622) (by rfl)) (by rfl)
set_option maxRecDepth 100000 in
theorem wd_624 : (Cond.laysFinal "TrainGuardModel" "TrainGuardModel" "held" "[I") ∈ tG := tG_of (List.mem_of_getElem? (i := 624) (by rfl)) (by rfl)
set_option maxRecDepth 100000 in
theorem wd_626 : (Cond.lays "TrainGuardModel" "TrainGuardModel" "restrictions" "I") ∈ tG := tG_of (List.mem_of_getElem? (i := 626) (by rfl)) (by rfl)
set_option maxRecDepth 100000 in
theorem wd_628 : (Cond.laysFinal "TrainGuardModel" "TrainGuardModel" "from" "[J") ∈ tG := tG_of (List.mem_of_getElem? (i := 628) (by rfl)) (by rfl)
set_option maxRecDepth 100000 in
theorem wd_630 : (Cond.laysFinal "TrainGuardModel" "TrainGuardModel" "to" "[J") ∈ tG := tG_of (List.mem_of_getElem? (i := 630) (by rfl)) (by rfl)
set_option maxRecDepth 100000 in
theorem wd_632 : (Cond.laysFinal "TrainGuardModel" "TrainGuardModel" "least" "[J") ∈ tG := tG_of (List.mem_of_getElem? (i := 632) (by rfl)) (by rfl)
set_option maxRecDepth 100000 in
theorem wd_634 : (Cond.lays "TrainGuardModel" "TrainGuardModel" "trains" "I") ∈ tG := tG_of (List.mem_of_getElem? (i := 634) (by rfl)) (by rfl)
set_option maxRecDepth 100000 in
theorem wd_636 : (Cond.laysFinal "TrainGuardModel" "TrainGuardModel" "length" "[J") ∈ tG := tG_of (List.mem_of_getElem? (i := 636) (by rfl)) (by rfl)
set_option maxRecDepth 100000 in
theorem wd_638 : (Cond.laysFinal "TrainGuardModel" "TrainGuardModel" "brake" "[J") ∈ tG := tG_of (List.mem_of_getElem? (i := 638) (by rfl)) (by rfl)
set_option maxRecDepth 100000 in
theorem wd_640 : (Cond.laysFinal "TrainGuardModel" "TrainGuardModel" "speed" "[J") ∈ tG := tG_of (List.mem_of_getElem? (i := 640) (by rfl)) (by rfl)
set_option maxRecDepth 100000 in
theorem wd_642 : (Cond.laysFinal "TrainGuardModel" "TrainGuardModel" "real" "[J") ∈ tG := tG_of (List.mem_of_getElem? (i := 642) (by rfl)) (by rfl)
set_option maxRecDepth 100000 in
theorem wd_644 : (Cond.laysFinal "TrainGuardModel" "TrainGuardModel" "measured" "[J") ∈ tG := tG_of (List.mem_of_getElem? (i := 644) (by rfl)) (by rfl)
set_option maxRecDepth 100000 in
theorem wd_646 : (Cond.laysFinal "TrainGuardModel" "TrainGuardModel" "margin" "[J") ∈ tG := tG_of (List.mem_of_getElem? (i := 646) (by rfl)) (by rfl)
set_option maxRecDepth 100000 in
theorem wd_648 : (Cond.laysFinal "TrainGuardModel" "TrainGuardModel" "authority" "[J") ∈ tG := tG_of (List.mem_of_getElem? (i := 648) (by rfl)) (by rfl)
set_option maxRecDepth 100000 in
theorem wd_650 : (Cond.laysFinal "TrainGuardModel" "TrainGuardModel" "mode" "[I") ∈ tG := tG_of (List.mem_of_getElem? (i := 650) (by rfl)) (by rfl)
set_option maxRecDepth 100000 in
theorem wd_652 : (Cond.laysFinal "TrainGuardModel" "TrainGuardModel" "wet" "[Z") ∈ tG := tG_of (List.mem_of_getElem? (i := 652) (by rfl)) (by rfl)
set_option maxRecDepth 100000 in
theorem wd_654 : (Cond.laysFinal "TrainGuardModel" "TrainGuardModel" "numbers" "[I") ∈ tG := tG_of (List.mem_of_getElem? (i := 654) (by rfl)) (by rfl)
set_option maxRecDepth 100000 in
theorem wd_656 : (Cond.laysFinal "TrainGuardModel" "TrainGuardModel" "message" "[I") ∈ tG := tG_of (List.mem_of_getElem? (i := 656) (by rfl)) (by rfl)
set_option maxRecDepth 100000 in
theorem wd_658 : (Cond.laysFinal "TrainGuardModel" "TrainGuardModel" "place" "[J") ∈ tG := tG_of (List.mem_of_getElem? (i := 658) (by rfl)) (by rfl)
set_option maxRecDepth 100000 in
theorem wd_660 : (Cond.lays "TrainGuardModel" "TrainGuardModel" "forged" "I") ∈ tG := tG_of (List.mem_of_getElem? (i := 660) (by rfl)) (by rfl)
set_option maxRecDepth 100000 in
theorem wd_662 : (Cond.lays "TrainGuardModel" "TrainGuardModel" "braked" "I") ∈ tG := tG_of (List.mem_of_getElem? (i := 662) (by rfl)) (by rfl)
set_option maxRecDepth 100000 in
theorem wd_664 : (Cond.lays "TrainGuardModel" "TrainGuardModel" "tripped" "I") ∈ tG := tG_of (List.mem_of_getElem? (i := 664) (by rfl)) (by rfl)
set_option maxRecDepth 100000 in
theorem wd_667 : (Cond.arrayClass Jvm.ClassFile.FieldType.long) ∈ tG := tG_of (List.mem_of_getElem? (i := 667) (by rfl)) (by rfl)
set_option maxRecDepth 100000 in
theorem wd_668 : (Cond.arrayClass Jvm.ClassFile.FieldType.boolean) ∈ tG := tG_of (List.mem_of_getElem? (i := 668) (by rfl)) (by rfl)
set_option maxRecDepth 100000 in
theorem wd_669 : (Cond.methodLink "TrainGuardLaw" (86 : Nat) ({ cls := "TrainGuardModel", name := "thrown", desc := "()I" } : Jvm.MethodName)) ∈ tG := tG_of (List.mem_of_getElem? (i := 669) (by rfl)) (by rfl)
set_option maxRecDepth 100000 in
theorem wd_670 : (Cond.instanceMethod ({ cls := "TrainGuardModel", name := "thrown", desc := "()I" } : Jvm.MethodName)) ∈ tG := tG_of (List.mem_of_getElem? (i := 670) (by rfl)) (by rfl)
set_option maxRecDepth 100000 in
theorem wd_671 : (Cond.selects "TrainGuardModel" ({ cls := "TrainGuardModel", name := "thrown", desc := "()I" } : Jvm.MethodName) ({ cls := "TrainGuardModel", name := "thrown", desc := "()I" } : Jvm.MethodName)) ∈ tG := tG_of (List.mem_of_getElem? (i := 671) (by rfl)) (by rfl)
set_option maxRecDepth 100000 in
theorem wd_672 : (Cond.code ({ cls := "TrainGuardModel", name := "thrown", desc := "()I" } : Jvm.MethodName) prog_6_method_2_code (1 : Nat) (Option.some Jvm.ClassFile.FieldType.int)) ∈ tG := tG_of (List.mem_of_getElem? (i := 672) (by rfl)) (by rfl)
set_option maxRecDepth 100000 in
theorem wd_673 : (Cond.methodLink "TrainGuardLaw" (85 : Nat) ({ cls := "TrainGuardModel", name := "section", desc := "(DD)I" } : Jvm.MethodName)) ∈ tG := tG_of (List.mem_of_getElem? (i := 673) (by rfl)) (by rfl)
set_option maxRecDepth 100000 in
theorem wd_674 : (Cond.instanceMethod ({ cls := "TrainGuardModel", name := "section", desc := "(DD)I" } : Jvm.MethodName)) ∈ tG := tG_of (List.mem_of_getElem? (i := 674) (by rfl)) (by rfl)
set_option maxRecDepth 100000 in
theorem wd_675 : (Cond.selects "TrainGuardModel" ({ cls := "TrainGuardModel", name := "section", desc := "(DD)I" } : Jvm.MethodName) ({ cls := "TrainGuardModel", name := "section", desc := "(DD)I" } : Jvm.MethodName)) ∈ tG := tG_of (List.mem_of_getElem? (i := 675) (by rfl)) (by rfl)
set_option maxRecDepth 100000 in
theorem wd_676 : (Cond.code ({ cls := "TrainGuardModel", name := "section", desc := "(DD)I" } : Jvm.MethodName) prog_6_method_17_code (5 : Nat) (Option.some Jvm.ClassFile.FieldType.int)) ∈ tG := tG_of (List.mem_of_getElem? (i := 676) (by rfl)) (by rfl)
set_option maxRecDepth 100000 in
theorem wd_677 : (Cond.constantDouble "TrainGuardModel" (93 : Nat) (4632233691727265792 : UInt64)) ∈ tG := tG_of (List.mem_of_getElem? (i := 677) (by rfl)) (by rfl)
set_option maxRecDepth 100000 in
theorem wd_678 : (Cond.constantDouble "TrainGuardModel" (95 : Nat) (4652007308841189376 : UInt64)) ∈ tG := tG_of (List.mem_of_getElem? (i := 678) (by rfl)) (by rfl)
set_option maxRecDepth 100000 in
theorem wd_679 : (Cond.methodLink "TrainGuardModel" (97 : Nat) ({ cls := "TrainGuardModel", name := "between", desc := "(DDD)Z" } : Jvm.MethodName)) ∈ tG := tG_of (List.mem_of_getElem? (i := 679) (by rfl)) (by rfl)
set_option maxRecDepth 100000 in
theorem wd_680 : (Cond.static ({ cls := "TrainGuardModel", name := "between", desc := "(DDD)Z" } : Jvm.MethodName)) ∈ tG := tG_of (List.mem_of_getElem? (i := 680) (by rfl)) (by rfl)
set_option maxRecDepth 100000 in
theorem wd_681 : (Cond.code ({ cls := "TrainGuardModel", name := "between", desc := "(DDD)Z" } : Jvm.MethodName) prog_6_method_8_code (6 : Nat) (Option.some Jvm.ClassFile.FieldType.boolean)) ∈ tG := tG_of (List.mem_of_getElem? (i := 681) (by rfl)) (by rfl)
set_option maxRecDepth 100000 in
theorem wd_682 : (Cond.constantDouble "TrainGuardModel" (101 : Nat) (4633641066610819072 : UInt64)) ∈ tG := tG_of (List.mem_of_getElem? (i := 682) (by rfl)) (by rfl)
set_option maxRecDepth 100000 in
theorem wd_683 : (Cond.methodLink "TrainGuardModel" (103 : Nat) ({ cls := "TrainGuardModel", name := "fail", desc := "(I)I" } : Jvm.MethodName)) ∈ tG := tG_of (List.mem_of_getElem? (i := 683) (by rfl)) (by rfl)
set_option maxRecDepth 100000 in
theorem wd_685 : (Cond.instanceMethod ({ cls := "TrainGuardModel", name := "fail", desc := "(I)I" } : Jvm.MethodName)) ∈ tG := tG_of (List.mem_of_getElem? (i := 685) (by rfl)) (by rfl)
set_option maxRecDepth 100000 in
theorem wd_686 : (Cond.code ({ cls := "TrainGuardModel", name := "fail", desc := "(I)I" } : Jvm.MethodName) prog_6_method_3_code (2 : Nat) (Option.some Jvm.ClassFile.FieldType.int)) ∈ tG := tG_of (List.mem_of_getElem? (i := 686) (by rfl)) (by rfl)
set_option maxRecDepth 100000 in
theorem wd_687 : (Cond.methodLink "TrainGuardModel" (107 : Nat) ({ cls := "TrainGuardModel", name := "whole", desc := "(D)J" } : Jvm.MethodName)) ∈ tG := tG_of (List.mem_of_getElem? (i := 687) (by rfl)) (by rfl)
set_option maxRecDepth 100000 in
theorem wd_688 : (Cond.static ({ cls := "TrainGuardModel", name := "whole", desc := "(D)J" } : Jvm.MethodName)) ∈ tG := tG_of (List.mem_of_getElem? (i := 688) (by rfl)) (by rfl)
set_option maxRecDepth 100000 in
theorem wd_689 : (Cond.code ({ cls := "TrainGuardModel", name := "whole", desc := "(D)J" } : Jvm.MethodName) prog_6_method_6_code (2 : Nat) (Option.some Jvm.ClassFile.FieldType.long)) ∈ tG := tG_of (List.mem_of_getElem? (i := 689) (by rfl)) (by rfl)
set_option maxRecDepth 100000 in
theorem wd_690 : (Cond.constantDouble "TrainGuardModel" (70 : Nat) (4643211215818981376 : UInt64)) ∈ tG := tG_of (List.mem_of_getElem? (i := 690) (by rfl)) (by rfl)
set_option maxRecDepth 100000 in
theorem wd_691 : (Cond.methodLink "TrainGuardModel" (111 : Nat) ({ cls := "TrainGuardModel", name := "answer", desc := "(I)I" } : Jvm.MethodName)) ∈ tG := tG_of (List.mem_of_getElem? (i := 691) (by rfl)) (by rfl)
set_option maxRecDepth 100000 in
theorem wd_693 : (Cond.instanceMethod ({ cls := "TrainGuardModel", name := "answer", desc := "(I)I" } : Jvm.MethodName)) ∈ tG := tG_of (List.mem_of_getElem? (i := 693) (by rfl)) (by rfl)
set_option maxRecDepth 100000 in
theorem wd_694 : (Cond.code ({ cls := "TrainGuardModel", name := "answer", desc := "(I)I" } : Jvm.MethodName) prog_6_method_4_code (2 : Nat) (Option.some Jvm.ClassFile.FieldType.int)) ∈ tG := tG_of (List.mem_of_getElem? (i := 694) (by rfl)) (by rfl)
set_option maxRecDepth 100000 in
theorem wd_695 : (Cond.methodLink "TrainGuardLaw" (93 : Nat) ({ cls := "TrainGuardModel", name := "restrict", desc := "(DDD)I" } : Jvm.MethodName)) ∈ tG := tG_of (List.mem_of_getElem? (i := 695) (by rfl)) (by rfl)
set_option maxRecDepth 100000 in
theorem wd_696 : (Cond.instanceMethod ({ cls := "TrainGuardModel", name := "restrict", desc := "(DDD)I" } : Jvm.MethodName)) ∈ tG := tG_of (List.mem_of_getElem? (i := 696) (by rfl)) (by rfl)
set_option maxRecDepth 100000 in
theorem wd_697 : (Cond.selects "TrainGuardModel" ({ cls := "TrainGuardModel", name := "restrict", desc := "(DDD)I" } : Jvm.MethodName) ({ cls := "TrainGuardModel", name := "restrict", desc := "(DDD)I" } : Jvm.MethodName)) ∈ tG := tG_of (List.mem_of_getElem? (i := 697) (by rfl)) (by rfl)
set_option maxRecDepth 100000 in
theorem wd_698 : (Cond.code ({ cls := "TrainGuardModel", name := "restrict", desc := "(DDD)I" } : Jvm.MethodName) prog_6_method_18_code (8 : Nat) (Option.some Jvm.ClassFile.FieldType.int)) ∈ tG := tG_of (List.mem_of_getElem? (i := 698) (by rfl)) (by rfl)
set_option maxRecDepth 100000 in
theorem wd_699 : (Cond.constantDouble "TrainGuardModel" (114 : Nat) (4666723172467343360 : UInt64)) ∈ tG := tG_of (List.mem_of_getElem? (i := 699) (by rfl)) (by rfl)
set_option maxRecDepth 100000 in
theorem wd_700 : (Cond.methodLink "TrainGuardLaw" (97 : Nat) ({ cls := "TrainGuardModel", name := "release", desc := "(I)I" } : Jvm.MethodName)) ∈ tG := tG_of (List.mem_of_getElem? (i := 700) (by rfl)) (by rfl)
set_option maxRecDepth 100000 in
theorem wd_701 : (Cond.instanceMethod ({ cls := "TrainGuardModel", name := "release", desc := "(I)I" } : Jvm.MethodName)) ∈ tG := tG_of (List.mem_of_getElem? (i := 701) (by rfl)) (by rfl)
set_option maxRecDepth 100000 in
theorem wd_702 : (Cond.selects "TrainGuardModel" ({ cls := "TrainGuardModel", name := "release", desc := "(I)I" } : Jvm.MethodName) ({ cls := "TrainGuardModel", name := "release", desc := "(I)I" } : Jvm.MethodName)) ∈ tG := tG_of (List.mem_of_getElem? (i := 702) (by rfl)) (by rfl)
set_option maxRecDepth 100000 in
theorem wd_703 : (Cond.code ({ cls := "TrainGuardModel", name := "release", desc := "(I)I" } : Jvm.MethodName) prog_6_method_19_code (3 : Nat) (Option.some Jvm.ClassFile.FieldType.int)) ∈ tG := tG_of (List.mem_of_getElem? (i := 703) (by rfl)) (by rfl)
set_option maxRecDepth 100000 in
theorem wd_704 : (Cond.methodLink "TrainGuardModel" (75 : Nat) ({ cls := "TrainGuardModel", name := "in", desc := "(III)Z" } : Jvm.MethodName)) ∈ tG := tG_of (List.mem_of_getElem? (i := 704) (by rfl)) (by rfl)
set_option maxRecDepth 100000 in
theorem wd_705 : (Cond.static ({ cls := "TrainGuardModel", name := "in", desc := "(III)Z" } : Jvm.MethodName)) ∈ tG := tG_of (List.mem_of_getElem? (i := 705) (by rfl)) (by rfl)
set_option maxRecDepth 100000 in
theorem wd_706 : (Cond.code ({ cls := "TrainGuardModel", name := "in", desc := "(III)Z" } : Jvm.MethodName) prog_6_method_7_code (3 : Nat) (Option.some Jvm.ClassFile.FieldType.boolean)) ∈ tG := tG_of (List.mem_of_getElem? (i := 706) (by rfl)) (by rfl)
set_option maxRecDepth 100000 in
theorem wd_707 : (Cond.methodLink "TrainGuardLaw" (101 : Nat) ({ cls := "TrainGuardModel", name := "train", desc := "(IDD)I" } : Jvm.MethodName)) ∈ tG := tG_of (List.mem_of_getElem? (i := 707) (by rfl)) (by rfl)
set_option maxRecDepth 100000 in
theorem wd_708 : (Cond.instanceMethod ({ cls := "TrainGuardModel", name := "train", desc := "(IDD)I" } : Jvm.MethodName)) ∈ tG := tG_of (List.mem_of_getElem? (i := 708) (by rfl)) (by rfl)
set_option maxRecDepth 100000 in
theorem wd_709 : (Cond.selects "TrainGuardModel" ({ cls := "TrainGuardModel", name := "train", desc := "(IDD)I" } : Jvm.MethodName) ({ cls := "TrainGuardModel", name := "train", desc := "(IDD)I" } : Jvm.MethodName)) ∈ tG := tG_of (List.mem_of_getElem? (i := 709) (by rfl)) (by rfl)
set_option maxRecDepth 100000 in
theorem wd_710 : (Cond.code ({ cls := "TrainGuardModel", name := "train", desc := "(IDD)I" } : Jvm.MethodName) prog_6_method_20_code (7 : Nat) (Option.some Jvm.ClassFile.FieldType.int)) ∈ tG := tG_of (List.mem_of_getElem? (i := 710) (by rfl)) (by rfl)
set_option maxRecDepth 100000 in
theorem wd_711 : (Cond.methodLink "TrainGuardModel" (116 : Nat) ({ cls := "TrainGuardModel", name := "noSection", desc := "(I)Z" } : Jvm.MethodName)) ∈ tG := tG_of (List.mem_of_getElem? (i := 711) (by rfl)) (by rfl)
set_option maxRecDepth 100000 in
theorem wd_713 : (Cond.instanceMethod ({ cls := "TrainGuardModel", name := "noSection", desc := "(I)Z" } : Jvm.MethodName)) ∈ tG := tG_of (List.mem_of_getElem? (i := 713) (by rfl)) (by rfl)
set_option maxRecDepth 100000 in
theorem wd_714 : (Cond.code ({ cls := "TrainGuardModel", name := "noSection", desc := "(I)Z" } : Jvm.MethodName) prog_6_method_10_code (2 : Nat) (Option.some Jvm.ClassFile.FieldType.boolean)) ∈ tG := tG_of (List.mem_of_getElem? (i := 714) (by rfl)) (by rfl)
set_option maxRecDepth 100000 in
theorem wd_715 : (Cond.constantDouble "TrainGuardModel" (120 : Nat) (4621819117588971520 : UInt64)) ∈ tG := tG_of (List.mem_of_getElem? (i := 715) (by rfl)) (by rfl)
set_option maxRecDepth 100000 in
theorem wd_716 : (Cond.constantDouble "TrainGuardModel" (122 : Nat) (4602678819172646912 : UInt64)) ∈ tG := tG_of (List.mem_of_getElem? (i := 716) (by rfl)) (by rfl)
set_option maxRecDepth 100000 in
theorem wd_717 : (Cond.constantDouble "TrainGuardModel" (124 : Nat) (4611686018427387904 : UInt64)) ∈ tG := tG_of (List.mem_of_getElem? (i := 717) (by rfl)) (by rfl)
set_option maxRecDepth 100000 in
theorem wd_718 : (Cond.methodLink "TrainGuardModel" (126 : Nat) ({ cls := "TrainGuardModel", name := "taken", desc := "(II)Z" } : Jvm.MethodName)) ∈ tG := tG_of (List.mem_of_getElem? (i := 718) (by rfl)) (by rfl)
set_option maxRecDepth 100000 in
theorem wd_720 : (Cond.instanceMethod ({ cls := "TrainGuardModel", name := "taken", desc := "(II)Z" } : Jvm.MethodName)) ∈ tG := tG_of (List.mem_of_getElem? (i := 720) (by rfl)) (by rfl)
set_option maxRecDepth 100000 in
theorem wd_721 : (Cond.code ({ cls := "TrainGuardModel", name := "taken", desc := "(II)Z" } : Jvm.MethodName) prog_6_method_16_code (4 : Nat) (Option.some Jvm.ClassFile.FieldType.boolean)) ∈ tG := tG_of (List.mem_of_getElem? (i := 721) (by rfl)) (by rfl)
set_option maxRecDepth 100000 in
theorem wd_722 : (Cond.methodLink "TrainGuardModel" (89 : Nat) ({ cls := "TrainGuardModel", name := "isIn", desc := "(II)Z" } : Jvm.MethodName)) ∈ tG := tG_of (List.mem_of_getElem? (i := 722) (by rfl)) (by rfl)
set_option maxRecDepth 100000 in
theorem wd_724 : (Cond.instanceMethod ({ cls := "TrainGuardModel", name := "isIn", desc := "(II)Z" } : Jvm.MethodName)) ∈ tG := tG_of (List.mem_of_getElem? (i := 724) (by rfl)) (by rfl)
set_option maxRecDepth 100000 in
theorem wd_725 : (Cond.code ({ cls := "TrainGuardModel", name := "isIn", desc := "(II)Z" } : Jvm.MethodName) prog_6_method_14_code (3 : Nat) (Option.some Jvm.ClassFile.FieldType.boolean)) ∈ tG := tG_of (List.mem_of_getElem? (i := 725) (by rfl)) (by rfl)
set_option maxRecDepth 100000 in
theorem wd_726 : (Cond.constantLong "TrainGuardModel" (129 : Nat) (-1 : Int64)) ∈ tG := tG_of (List.mem_of_getElem? (i := 726) (by rfl)) (by rfl)
set_option maxRecDepth 100000 in
theorem wd_727 : (Cond.methodLink "TrainGuardLaw" (104 : Nat) ({ cls := "TrainGuardModel", name := "start", desc := "(I)I" } : Jvm.MethodName)) ∈ tG := tG_of (List.mem_of_getElem? (i := 727) (by rfl)) (by rfl)
set_option maxRecDepth 100000 in
theorem wd_728 : (Cond.instanceMethod ({ cls := "TrainGuardModel", name := "start", desc := "(I)I" } : Jvm.MethodName)) ∈ tG := tG_of (List.mem_of_getElem? (i := 728) (by rfl)) (by rfl)
set_option maxRecDepth 100000 in
theorem wd_729 : (Cond.selects "TrainGuardModel" ({ cls := "TrainGuardModel", name := "start", desc := "(I)I" } : Jvm.MethodName) ({ cls := "TrainGuardModel", name := "start", desc := "(I)I" } : Jvm.MethodName)) ∈ tG := tG_of (List.mem_of_getElem? (i := 729) (by rfl)) (by rfl)
set_option maxRecDepth 100000 in
theorem wd_730 : (Cond.code ({ cls := "TrainGuardModel", name := "start", desc := "(I)I" } : Jvm.MethodName) prog_6_method_26_code (2 : Nat) (Option.some Jvm.ClassFile.FieldType.int)) ∈ tG := tG_of (List.mem_of_getElem? (i := 730) (by rfl)) (by rfl)
set_option maxRecDepth 100000 in
theorem wd_731 : (Cond.methodLink "TrainGuardModel" (158 : Nat) ({ cls := "TrainGuardModel", name := "noTrain", desc := "(I)Z" } : Jvm.MethodName)) ∈ tG := tG_of (List.mem_of_getElem? (i := 731) (by rfl)) (by rfl)
set_option maxRecDepth 100000 in
theorem wd_733 : (Cond.instanceMethod ({ cls := "TrainGuardModel", name := "noTrain", desc := "(I)Z" } : Jvm.MethodName)) ∈ tG := tG_of (List.mem_of_getElem? (i := 733) (by rfl)) (by rfl)
set_option maxRecDepth 100000 in
theorem wd_734 : (Cond.code ({ cls := "TrainGuardModel", name := "noTrain", desc := "(I)Z" } : Jvm.MethodName) prog_6_method_9_code (2 : Nat) (Option.some Jvm.ClassFile.FieldType.boolean)) ∈ tG := tG_of (List.mem_of_getElem? (i := 734) (by rfl)) (by rfl)
set_option maxRecDepth 100000 in
theorem wd_735 : (Cond.methodLink "TrainGuardModel" (161 : Nat) ({ cls := "TrainGuardModel", name := "ready", desc := "(I)Z" } : Jvm.MethodName)) ∈ tG := tG_of (List.mem_of_getElem? (i := 735) (by rfl)) (by rfl)
set_option maxRecDepth 100000 in
theorem wd_737 : (Cond.instanceMethod ({ cls := "TrainGuardModel", name := "ready", desc := "(I)Z" } : Jvm.MethodName)) ∈ tG := tG_of (List.mem_of_getElem? (i := 737) (by rfl)) (by rfl)
set_option maxRecDepth 100000 in
theorem wd_738 : (Cond.code ({ cls := "TrainGuardModel", name := "ready", desc := "(I)Z" } : Jvm.MethodName) prog_6_method_25_code (2 : Nat) (Option.some Jvm.ClassFile.FieldType.boolean)) ∈ tG := tG_of (List.mem_of_getElem? (i := 738) (by rfl)) (by rfl)
set_option maxRecDepth 100000 in
theorem wd_739 : (Cond.methodLink "TrainGuardModel" (154 : Nat) ({ cls := "TrainGuardModel", name := "safe", desc := "(IJJJ)Z" } : Jvm.MethodName)) ∈ tG := tG_of (List.mem_of_getElem? (i := 739) (by rfl)) (by rfl)
set_option maxRecDepth 100000 in
theorem wd_741 : (Cond.instanceMethod ({ cls := "TrainGuardModel", name := "safe", desc := "(IJJJ)Z" } : Jvm.MethodName)) ∈ tG := tG_of (List.mem_of_getElem? (i := 741) (by rfl)) (by rfl)
set_option maxRecDepth 100000 in
theorem wd_742 : (Cond.code ({ cls := "TrainGuardModel", name := "safe", desc := "(IJJJ)Z" } : Jvm.MethodName) prog_6_method_24_code (11 : Nat) (Option.some Jvm.ClassFile.FieldType.boolean)) ∈ tG := tG_of (List.mem_of_getElem? (i := 742) (by rfl)) (by rfl)
set_option maxRecDepth 100000 in
theorem wd_743 : (Cond.methodLink "TrainGuardModel" (143 : Nat) ({ cls := "TrainGuardModel", name := "safeFor", desc := "(IJJJJJ)Z" } : Jvm.MethodName)) ∈ tG := tG_of (List.mem_of_getElem? (i := 743) (by rfl)) (by rfl)
set_option maxRecDepth 100000 in
theorem wd_745 : (Cond.instanceMethod ({ cls := "TrainGuardModel", name := "safeFor", desc := "(IJJJJJ)Z" } : Jvm.MethodName)) ∈ tG := tG_of (List.mem_of_getElem? (i := 745) (by rfl)) (by rfl)
set_option maxRecDepth 100000 in
theorem wd_746 : (Cond.code ({ cls := "TrainGuardModel", name := "safeFor", desc := "(IJJJJJ)Z" } : Jvm.MethodName) prog_6_method_22_code (14 : Nat) (Option.some Jvm.ClassFile.FieldType.boolean)) ∈ tG := tG_of (List.mem_of_getElem? (i := 746) (by rfl)) (by rfl)
set_option maxRecDepth 100000 in
theorem wd_747 : (Cond.methodLink "TrainGuardModel" (133 : Nat) ({ cls := "TrainGuardModel", name := "ways", desc := "(JJJ)J" } : Jvm.MethodName)) ∈ tG := tG_of (List.mem_of_getElem? (i := 747) (by rfl)) (by rfl)
set_option maxRecDepth 100000 in
theorem wd_748 : (Cond.static ({ cls := "TrainGuardModel", name := "ways", desc := "(JJJ)J" } : Jvm.MethodName)) ∈ tG := tG_of (List.mem_of_getElem? (i := 748) (by rfl)) (by rfl)
set_option maxRecDepth 100000 in
theorem wd_749 : (Cond.code ({ cls := "TrainGuardModel", name := "ways", desc := "(JJJ)J" } : Jvm.MethodName) prog_6_method_21_code (12 : Nat) (Option.some Jvm.ClassFile.FieldType.long)) ∈ tG := tG_of (List.mem_of_getElem? (i := 749) (by rfl)) (by rfl)
set_option maxRecDepth 100000 in
theorem wd_750 : (Cond.constantLong "TrainGuardModel" (131 : Nat) (2 : Int64)) ∈ tG := tG_of (List.mem_of_getElem? (i := 750) (by rfl)) (by rfl)
set_option maxRecDepth 100000 in
theorem wd_751 : (Cond.constantLong "TrainGuardModel" (137 : Nat) (8 : Int64)) ∈ tG := tG_of (List.mem_of_getElem? (i := 751) (by rfl)) (by rfl)
set_option maxRecDepth 100000 in
theorem wd_752 : (Cond.methodLink "TrainGuardModel" (139 : Nat) ({ cls := "TrainGuardModel", name := "lineEnd", desc := "()J" } : Jvm.MethodName)) ∈ tG := tG_of (List.mem_of_getElem? (i := 752) (by rfl)) (by rfl)
set_option maxRecDepth 100000 in
theorem wd_754 : (Cond.instanceMethod ({ cls := "TrainGuardModel", name := "lineEnd", desc := "()J" } : Jvm.MethodName)) ∈ tG := tG_of (List.mem_of_getElem? (i := 754) (by rfl)) (by rfl)
set_option maxRecDepth 100000 in
theorem wd_755 : (Cond.code ({ cls := "TrainGuardModel", name := "lineEnd", desc := "()J" } : Jvm.MethodName) prog_6_method_11_code (1 : Nat) (Option.some Jvm.ClassFile.FieldType.long)) ∈ tG := tG_of (List.mem_of_getElem? (i := 755) (by rfl)) (by rfl)
set_option maxRecDepth 100000 in
theorem wd_756 : (Cond.methodLink "TrainGuardModel" (147 : Nat) ({ cls := "TrainGuardModel", name := "limitAt", desc := "(J)J" } : Jvm.MethodName)) ∈ tG := tG_of (List.mem_of_getElem? (i := 756) (by rfl)) (by rfl)
set_option maxRecDepth 100000 in
theorem wd_758 : (Cond.instanceMethod ({ cls := "TrainGuardModel", name := "limitAt", desc := "(J)J" } : Jvm.MethodName)) ∈ tG := tG_of (List.mem_of_getElem? (i := 758) (by rfl)) (by rfl)
set_option maxRecDepth 100000 in
theorem wd_759 : (Cond.code ({ cls := "TrainGuardModel", name := "limitAt", desc := "(J)J" } : Jvm.MethodName) prog_6_method_13_code (6 : Nat) (Option.some Jvm.ClassFile.FieldType.long)) ∈ tG := tG_of (List.mem_of_getElem? (i := 759) (by rfl)) (by rfl)
set_option maxRecDepth 100000 in
theorem wd_760 : (Cond.methodLink "TrainGuardModel" (82 : Nat) ({ cls := "TrainGuardModel", name := "sectionAt", desc := "(J)I" } : Jvm.MethodName)) ∈ tG := tG_of (List.mem_of_getElem? (i := 760) (by rfl)) (by rfl)
set_option maxRecDepth 100000 in
theorem wd_762 : (Cond.instanceMethod ({ cls := "TrainGuardModel", name := "sectionAt", desc := "(J)I" } : Jvm.MethodName)) ∈ tG := tG_of (List.mem_of_getElem? (i := 762) (by rfl)) (by rfl)
set_option maxRecDepth 100000 in
theorem wd_763 : (Cond.code ({ cls := "TrainGuardModel", name := "sectionAt", desc := "(J)I" } : Jvm.MethodName) prog_6_method_12_code (4 : Nat) (Option.some Jvm.ClassFile.FieldType.int)) ∈ tG := tG_of (List.mem_of_getElem? (i := 763) (by rfl)) (by rfl)
set_option maxRecDepth 100000 in
theorem wd_764 : (Cond.methodLink "TrainGuardModel" (151 : Nat) ({ cls := "TrainGuardModel", name := "within", desc := "(J)J" } : Jvm.MethodName)) ∈ tG := tG_of (List.mem_of_getElem? (i := 764) (by rfl)) (by rfl)
set_option maxRecDepth 100000 in
theorem wd_766 : (Cond.instanceMethod ({ cls := "TrainGuardModel", name := "within", desc := "(J)J" } : Jvm.MethodName)) ∈ tG := tG_of (List.mem_of_getElem? (i := 766) (by rfl)) (by rfl)
set_option maxRecDepth 100000 in
theorem wd_767 : (Cond.code ({ cls := "TrainGuardModel", name := "within", desc := "(J)J" } : Jvm.MethodName) prog_6_method_23_code (3 : Nat) (Option.some Jvm.ClassFile.FieldType.long)) ∈ tG := tG_of (List.mem_of_getElem? (i := 767) (by rfl)) (by rfl)
set_option maxRecDepth 100000 in
theorem wd_768 : (Cond.methodLink "TrainGuardLaw" (108 : Nat) ({ cls := "TrainGuardModel", name := "ask", desc := "(II)I" } : Jvm.MethodName)) ∈ tG := tG_of (List.mem_of_getElem? (i := 768) (by rfl)) (by rfl)
set_option maxRecDepth 100000 in
theorem wd_769 : (Cond.instanceMethod ({ cls := "TrainGuardModel", name := "ask", desc := "(II)I" } : Jvm.MethodName)) ∈ tG := tG_of (List.mem_of_getElem? (i := 769) (by rfl)) (by rfl)
set_option maxRecDepth 100000 in
theorem wd_770 : (Cond.selects "TrainGuardModel" ({ cls := "TrainGuardModel", name := "ask", desc := "(II)I" } : Jvm.MethodName) ({ cls := "TrainGuardModel", name := "ask", desc := "(II)I" } : Jvm.MethodName)) ∈ tG := tG_of (List.mem_of_getElem? (i := 770) (by rfl)) (by rfl)
set_option maxRecDepth 100000 in
theorem wd_771 : (Cond.code ({ cls := "TrainGuardModel", name := "ask", desc := "(II)I" } : Jvm.MethodName) prog_6_method_28_code (4 : Nat) (Option.some Jvm.ClassFile.FieldType.int)) ∈ tG := tG_of (List.mem_of_getElem? (i := 771) (by rfl)) (by rfl)
set_option maxRecDepth 100000 in
theorem wd_772 : (Cond.methodLink "TrainGuardModel" (164 : Nat) ({ cls := "TrainGuardModel", name := "head", desc := "(I)I" } : Jvm.MethodName)) ∈ tG := tG_of (List.mem_of_getElem? (i := 772) (by rfl)) (by rfl)
set_option maxRecDepth 100000 in
theorem wd_774 : (Cond.instanceMethod ({ cls := "TrainGuardModel", name := "head", desc := "(I)I" } : Jvm.MethodName)) ∈ tG := tG_of (List.mem_of_getElem? (i := 774) (by rfl)) (by rfl)
set_option maxRecDepth 100000 in
theorem wd_775 : (Cond.code ({ cls := "TrainGuardModel", name := "head", desc := "(I)I" } : Jvm.MethodName) prog_6_method_15_code (4 : Nat) (Option.some Jvm.ClassFile.FieldType.int)) ∈ tG := tG_of (List.mem_of_getElem? (i := 775) (by rfl)) (by rfl)
set_option maxRecDepth 100000 in
theorem wd_776 : (Cond.methodLink "TrainGuardModel" (167 : Nat) ({ cls := "TrainGuardModel", name := "send", desc := "(IIJ)I" } : Jvm.MethodName)) ∈ tG := tG_of (List.mem_of_getElem? (i := 776) (by rfl)) (by rfl)
set_option maxRecDepth 100000 in
theorem wd_778 : (Cond.instanceMethod ({ cls := "TrainGuardModel", name := "send", desc := "(IIJ)I" } : Jvm.MethodName)) ∈ tG := tG_of (List.mem_of_getElem? (i := 778) (by rfl)) (by rfl)
set_option maxRecDepth 100000 in
theorem wd_779 : (Cond.code ({ cls := "TrainGuardModel", name := "send", desc := "(IIJ)I" } : Jvm.MethodName) prog_6_method_27_code (5 : Nat) (Option.some Jvm.ClassFile.FieldType.int)) ∈ tG := tG_of (List.mem_of_getElem? (i := 779) (by rfl)) (by rfl)
set_option maxRecDepth 100000 in
theorem wd_780 : (Cond.methodLink "TrainGuardLaw" (111 : Nat) ({ cls := "TrainGuardModel", name := "stop", desc := "(I)I" } : Jvm.MethodName)) ∈ tG := tG_of (List.mem_of_getElem? (i := 780) (by rfl)) (by rfl)
set_option maxRecDepth 100000 in
theorem wd_781 : (Cond.instanceMethod ({ cls := "TrainGuardModel", name := "stop", desc := "(I)I" } : Jvm.MethodName)) ∈ tG := tG_of (List.mem_of_getElem? (i := 781) (by rfl)) (by rfl)
set_option maxRecDepth 100000 in
theorem wd_782 : (Cond.selects "TrainGuardModel" ({ cls := "TrainGuardModel", name := "stop", desc := "(I)I" } : Jvm.MethodName) ({ cls := "TrainGuardModel", name := "stop", desc := "(I)I" } : Jvm.MethodName)) ∈ tG := tG_of (List.mem_of_getElem? (i := 782) (by rfl)) (by rfl)
set_option maxRecDepth 100000 in
theorem wd_783 : (Cond.code ({ cls := "TrainGuardModel", name := "stop", desc := "(I)I" } : Jvm.MethodName) prog_6_method_29_code (2 : Nat) (Option.some Jvm.ClassFile.FieldType.int)) ∈ tG := tG_of (List.mem_of_getElem? (i := 783) (by rfl)) (by rfl)
set_option maxRecDepth 100000 in
theorem wd_784 : (Cond.methodLink "TrainGuardLaw" (114 : Nat) ({ cls := "TrainGuardModel", name := "take", desc := "(II)I" } : Jvm.MethodName)) ∈ tG := tG_of (List.mem_of_getElem? (i := 784) (by rfl)) (by rfl)
set_option maxRecDepth 100000 in
theorem wd_785 : (Cond.instanceMethod ({ cls := "TrainGuardModel", name := "take", desc := "(II)I" } : Jvm.MethodName)) ∈ tG := tG_of (List.mem_of_getElem? (i := 785) (by rfl)) (by rfl)
set_option maxRecDepth 100000 in
theorem wd_786 : (Cond.selects "TrainGuardModel" ({ cls := "TrainGuardModel", name := "take", desc := "(II)I" } : Jvm.MethodName) ({ cls := "TrainGuardModel", name := "take", desc := "(II)I" } : Jvm.MethodName)) ∈ tG := tG_of (List.mem_of_getElem? (i := 786) (by rfl)) (by rfl)
set_option maxRecDepth 100000 in
theorem wd_787 : (Cond.code ({ cls := "TrainGuardModel", name := "take", desc := "(II)I" } : Jvm.MethodName) prog_6_method_31_code (3 : Nat) (Option.some Jvm.ClassFile.FieldType.int)) ∈ tG := tG_of (List.mem_of_getElem? (i := 787) (by rfl)) (by rfl)
set_option maxRecDepth 100000 in
theorem wd_788 : (Cond.methodLink "TrainGuardModel" (174 : Nat) ({ cls := "TrainGuardModel", name := "takeAuthority", desc := "(I)I" } : Jvm.MethodName)) ∈ tG := tG_of (List.mem_of_getElem? (i := 788) (by rfl)) (by rfl)
set_option maxRecDepth 100000 in
theorem wd_790 : (Cond.instanceMethod ({ cls := "TrainGuardModel", name := "takeAuthority", desc := "(I)I" } : Jvm.MethodName)) ∈ tG := tG_of (List.mem_of_getElem? (i := 790) (by rfl)) (by rfl)
set_option maxRecDepth 100000 in
theorem wd_791 : (Cond.code ({ cls := "TrainGuardModel", name := "takeAuthority", desc := "(I)I" } : Jvm.MethodName) prog_6_method_30_code (2 : Nat) (Option.some Jvm.ClassFile.FieldType.int)) ∈ tG := tG_of (List.mem_of_getElem? (i := 791) (by rfl)) (by rfl)
set_option maxRecDepth 100000 in
theorem wd_792 : (Cond.methodLink "TrainGuardLaw" (118 : Nat) ({ cls := "TrainGuardModel", name := "second", desc := "(IDI)I" } : Jvm.MethodName)) ∈ tG := tG_of (List.mem_of_getElem? (i := 792) (by rfl)) (by rfl)
set_option maxRecDepth 100000 in
theorem wd_793 : (Cond.instanceMethod ({ cls := "TrainGuardModel", name := "second", desc := "(IDI)I" } : Jvm.MethodName)) ∈ tG := tG_of (List.mem_of_getElem? (i := 793) (by rfl)) (by rfl)
set_option maxRecDepth 100000 in
theorem wd_794 : (Cond.selects "TrainGuardModel" ({ cls := "TrainGuardModel", name := "second", desc := "(IDI)I" } : Jvm.MethodName) ({ cls := "TrainGuardModel", name := "second", desc := "(IDI)I" } : Jvm.MethodName)) ∈ tG := tG_of (List.mem_of_getElem? (i := 794) (by rfl)) (by rfl)
set_option maxRecDepth 100000 in
theorem wd_795 : (Cond.code ({ cls := "TrainGuardModel", name := "second", desc := "(IDI)I" } : Jvm.MethodName) prog_6_method_35_code (5 : Nat) (Option.some Jvm.ClassFile.FieldType.int)) ∈ tG := tG_of (List.mem_of_getElem? (i := 795) (by rfl)) (by rfl)
set_option maxRecDepth 100000 in
theorem wd_796 : (Cond.constantDouble "TrainGuardModel" (193 : Nat) (13835058055282163712 : UInt64)) ∈ tG := tG_of (List.mem_of_getElem? (i := 796) (by rfl)) (by rfl)
set_option maxRecDepth 100000 in
theorem wd_797 : (Cond.methodLink "TrainGuardModel" (195 : Nat) ({ cls := "TrainGuardModel", name := "pass", desc := "(IJI)V" } : Jvm.MethodName)) ∈ tG := tG_of (List.mem_of_getElem? (i := 797) (by rfl)) (by rfl)
set_option maxRecDepth 100000 in
theorem wd_799 : (Cond.instanceMethod ({ cls := "TrainGuardModel", name := "pass", desc := "(IJI)V" } : Jvm.MethodName)) ∈ tG := tG_of (List.mem_of_getElem? (i := 799) (by rfl)) (by rfl)
set_option maxRecDepth 100000 in
theorem wd_800 : (Cond.code ({ cls := "TrainGuardModel", name := "pass", desc := "(IJI)V" } : Jvm.MethodName) prog_6_method_34_code (7 : Nat) (Option.none : Option Jvm.ClassFile.FieldType)) ∈ tG := tG_of (List.mem_of_getElem? (i := 800) (by rfl)) (by rfl)
set_option maxRecDepth 100000 in
theorem wd_801 : (Cond.methodLink "TrainGuardModel" (182 : Nat) ({ cls := "TrainGuardModel", name := "wish", desc := "(IJ)J" } : Jvm.MethodName)) ∈ tG := tG_of (List.mem_of_getElem? (i := 801) (by rfl)) (by rfl)
set_option maxRecDepth 100000 in
theorem wd_803 : (Cond.instanceMethod ({ cls := "TrainGuardModel", name := "wish", desc := "(IJ)J" } : Jvm.MethodName)) ∈ tG := tG_of (List.mem_of_getElem? (i := 803) (by rfl)) (by rfl)
set_option maxRecDepth 100000 in
theorem wd_804 : (Cond.code ({ cls := "TrainGuardModel", name := "wish", desc := "(IJ)J" } : Jvm.MethodName) prog_6_method_32_code (14 : Nat) (Option.some Jvm.ClassFile.FieldType.long)) ∈ tG := tG_of (List.mem_of_getElem? (i := 804) (by rfl)) (by rfl)
set_option maxRecDepth 100000 in
theorem wd_805 : (Cond.constantLong "TrainGuardModel" (177 : Nat) (1280 : Int64)) ∈ tG := tG_of (List.mem_of_getElem? (i := 805) (by rfl)) (by rfl)
set_option maxRecDepth 100000 in
theorem wd_806 : (Cond.methodLink "TrainGuardModel" (186 : Nat) ({ cls := "TrainGuardModel", name := "move", desc := "(IJI)V" } : Jvm.MethodName)) ∈ tG := tG_of (List.mem_of_getElem? (i := 806) (by rfl)) (by rfl)
set_option maxRecDepth 100000 in
theorem wd_808 : (Cond.instanceMethod ({ cls := "TrainGuardModel", name := "move", desc := "(IJI)V" } : Jvm.MethodName)) ∈ tG := tG_of (List.mem_of_getElem? (i := 808) (by rfl)) (by rfl)
set_option maxRecDepth 100000 in
theorem wd_809 : (Cond.code ({ cls := "TrainGuardModel", name := "move", desc := "(IJI)V" } : Jvm.MethodName) prog_6_method_33_code (10 : Nat) (Option.none : Option Jvm.ClassFile.FieldType)) ∈ tG := tG_of (List.mem_of_getElem? (i := 809) (by rfl)) (by rfl)
set_option maxRecDepth 100000 in
theorem wd_810 : (Cond.methodLink "TrainGuardLaw" (122 : Nat) ({ cls := "TrainGuardModel", name := "wet", desc := "(IZ)I" } : Jvm.MethodName)) ∈ tG := tG_of (List.mem_of_getElem? (i := 810) (by rfl)) (by rfl)
set_option maxRecDepth 100000 in
theorem wd_811 : (Cond.instanceMethod ({ cls := "TrainGuardModel", name := "wet", desc := "(IZ)I" } : Jvm.MethodName)) ∈ tG := tG_of (List.mem_of_getElem? (i := 811) (by rfl)) (by rfl)
set_option maxRecDepth 100000 in
theorem wd_812 : (Cond.selects "TrainGuardModel" ({ cls := "TrainGuardModel", name := "wet", desc := "(IZ)I" } : Jvm.MethodName) ({ cls := "TrainGuardModel", name := "wet", desc := "(IZ)I" } : Jvm.MethodName)) ∈ tG := tG_of (List.mem_of_getElem? (i := 812) (by rfl)) (by rfl)
set_option maxRecDepth 100000 in
theorem wd_813 : (Cond.code ({ cls := "TrainGuardModel", name := "wet", desc := "(IZ)I" } : Jvm.MethodName) prog_6_method_36_code (3 : Nat) (Option.some Jvm.ClassFile.FieldType.int)) ∈ tG := tG_of (List.mem_of_getElem? (i := 813) (by rfl)) (by rfl)
set_option maxRecDepth 100000 in
theorem wd_814 : (Cond.methodLink "TrainGuardLaw" (125 : Nat) ({ cls := "TrainGuardModel", name := "acknowledge", desc := "(I)I" } : Jvm.MethodName)) ∈ tG := tG_of (List.mem_of_getElem? (i := 814) (by rfl)) (by rfl)
set_option maxRecDepth 100000 in
theorem wd_815 : (Cond.instanceMethod ({ cls := "TrainGuardModel", name := "acknowledge", desc := "(I)I" } : Jvm.MethodName)) ∈ tG := tG_of (List.mem_of_getElem? (i := 815) (by rfl)) (by rfl)
set_option maxRecDepth 100000 in
theorem wd_816 : (Cond.selects "TrainGuardModel" ({ cls := "TrainGuardModel", name := "acknowledge", desc := "(I)I" } : Jvm.MethodName) ({ cls := "TrainGuardModel", name := "acknowledge", desc := "(I)I" } : Jvm.MethodName)) ∈ tG := tG_of (List.mem_of_getElem? (i := 816) (by rfl)) (by rfl)
set_option maxRecDepth 100000 in
theorem wd_817 : (Cond.code ({ cls := "TrainGuardModel", name := "acknowledge", desc := "(I)I" } : Jvm.MethodName) prog_6_method_37_code (3 : Nat) (Option.some Jvm.ClassFile.FieldType.int)) ∈ tG := tG_of (List.mem_of_getElem? (i := 817) (by rfl)) (by rfl)
set_option maxRecDepth 100000 in
theorem wd_818 : (Cond.methodLink "TrainGuardLaw" (128 : Nat) ({ cls := "TrainGuardModel", name := "end", desc := "(I)I" } : Jvm.MethodName)) ∈ tG := tG_of (List.mem_of_getElem? (i := 818) (by rfl)) (by rfl)
set_option maxRecDepth 100000 in
theorem wd_819 : (Cond.instanceMethod ({ cls := "TrainGuardModel", name := "end", desc := "(I)I" } : Jvm.MethodName)) ∈ tG := tG_of (List.mem_of_getElem? (i := 819) (by rfl)) (by rfl)
set_option maxRecDepth 100000 in
theorem wd_820 : (Cond.selects "TrainGuardModel" ({ cls := "TrainGuardModel", name := "end", desc := "(I)I" } : Jvm.MethodName) ({ cls := "TrainGuardModel", name := "end", desc := "(I)I" } : Jvm.MethodName)) ∈ tG := tG_of (List.mem_of_getElem? (i := 820) (by rfl)) (by rfl)
set_option maxRecDepth 100000 in
theorem wd_821 : (Cond.code ({ cls := "TrainGuardModel", name := "end", desc := "(I)I" } : Jvm.MethodName) prog_6_method_38_code (3 : Nat) (Option.some Jvm.ClassFile.FieldType.int)) ∈ tG := tG_of (List.mem_of_getElem? (i := 821) (by rfl)) (by rfl)
set_option maxRecDepth 100000 in
theorem wd_822 : (Cond.methodLink "TrainGuardLaw" (132 : Nat) ({ cls := "TrainGuardModel", name := "of", desc := "(II)D" } : Jvm.MethodName)) ∈ tG := tG_of (List.mem_of_getElem? (i := 822) (by rfl)) (by rfl)
set_option maxRecDepth 100000 in
theorem wd_823 : (Cond.instanceMethod ({ cls := "TrainGuardModel", name := "of", desc := "(II)D" } : Jvm.MethodName)) ∈ tG := tG_of (List.mem_of_getElem? (i := 823) (by rfl)) (by rfl)
set_option maxRecDepth 100000 in
theorem wd_824 : (Cond.selects "TrainGuardModel" ({ cls := "TrainGuardModel", name := "of", desc := "(II)D" } : Jvm.MethodName) ({ cls := "TrainGuardModel", name := "of", desc := "(II)D" } : Jvm.MethodName)) ∈ tG := tG_of (List.mem_of_getElem? (i := 824) (by rfl)) (by rfl)
set_option maxRecDepth 100000 in
theorem wd_825 : (Cond.code ({ cls := "TrainGuardModel", name := "of", desc := "(II)D" } : Jvm.MethodName) prog_6_method_39_code (3 : Nat) (Option.some Jvm.ClassFile.FieldType.double)) ∈ tG := tG_of (List.mem_of_getElem? (i := 825) (by rfl)) (by rfl)
set_option maxRecDepth 100000 in
theorem wd_826 : (Cond.methodLink "TrainGuardModel" (198 : Nat) ({ cls := "TrainGuardModel", name := "shown", desc := "(J)D" } : Jvm.MethodName)) ∈ tG := tG_of (List.mem_of_getElem? (i := 826) (by rfl)) (by rfl)
set_option maxRecDepth 100000 in
theorem wd_828 : (Cond.instanceMethod ({ cls := "TrainGuardModel", name := "shown", desc := "(J)D" } : Jvm.MethodName)) ∈ tG := tG_of (List.mem_of_getElem? (i := 828) (by rfl)) (by rfl)
set_option maxRecDepth 100000 in
theorem wd_829 : (Cond.code ({ cls := "TrainGuardModel", name := "shown", desc := "(J)D" } : Jvm.MethodName) prog_6_method_5_code (3 : Nat) (Option.some Jvm.ClassFile.FieldType.double)) ∈ tG := tG_of (List.mem_of_getElem? (i := 829) (by rfl)) (by rfl)
set_option maxRecDepth 100000 in
theorem wd_830 : (Cond.constantLong "TrainGuardModel" (202 : Nat) (-256 : Int64)) ∈ tG := tG_of (List.mem_of_getElem? (i := 830) (by rfl)) (by rfl)
set_option maxRecDepth 100000 in
theorem wd_831 : (Cond.methodLink "TrainGuardLaw" (136 : Nat) ({ cls := "TrainGuardModel", name := "limit", desc := "(D)D" } : Jvm.MethodName)) ∈ tG := tG_of (List.mem_of_getElem? (i := 831) (by rfl)) (by rfl)
set_option maxRecDepth 100000 in
theorem wd_832 : (Cond.instanceMethod ({ cls := "TrainGuardModel", name := "limit", desc := "(D)D" } : Jvm.MethodName)) ∈ tG := tG_of (List.mem_of_getElem? (i := 832) (by rfl)) (by rfl)
set_option maxRecDepth 100000 in
theorem wd_833 : (Cond.selects "TrainGuardModel" ({ cls := "TrainGuardModel", name := "limit", desc := "(D)D" } : Jvm.MethodName) ({ cls := "TrainGuardModel", name := "limit", desc := "(D)D" } : Jvm.MethodName)) ∈ tG := tG_of (List.mem_of_getElem? (i := 833) (by rfl)) (by rfl)
set_option maxRecDepth 100000 in
theorem wd_834 : (Cond.code ({ cls := "TrainGuardModel", name := "limit", desc := "(D)D" } : Jvm.MethodName) prog_6_method_40_code (3 : Nat) (Option.some Jvm.ClassFile.FieldType.double)) ∈ tG := tG_of (List.mem_of_getElem? (i := 834) (by rfl)) (by rfl)
set_option maxRecDepth 100000 in
theorem wd_835 : (Cond.methodLink "TrainGuardLaw" (139 : Nat) ({ cls := "TrainGuardModel", name := "mode", desc := "(I)I" } : Jvm.MethodName)) ∈ tG := tG_of (List.mem_of_getElem? (i := 835) (by rfl)) (by rfl)
set_option maxRecDepth 100000 in
theorem wd_836 : (Cond.instanceMethod ({ cls := "TrainGuardModel", name := "mode", desc := "(I)I" } : Jvm.MethodName)) ∈ tG := tG_of (List.mem_of_getElem? (i := 836) (by rfl)) (by rfl)
set_option maxRecDepth 100000 in
theorem wd_837 : (Cond.selects "TrainGuardModel" ({ cls := "TrainGuardModel", name := "mode", desc := "(I)I" } : Jvm.MethodName) ({ cls := "TrainGuardModel", name := "mode", desc := "(I)I" } : Jvm.MethodName)) ∈ tG := tG_of (List.mem_of_getElem? (i := 837) (by rfl)) (by rfl)
set_option maxRecDepth 100000 in
theorem wd_838 : (Cond.code ({ cls := "TrainGuardModel", name := "mode", desc := "(I)I" } : Jvm.MethodName) prog_6_method_41_code (2 : Nat) (Option.some Jvm.ClassFile.FieldType.int)) ∈ tG := tG_of (List.mem_of_getElem? (i := 838) (by rfl)) (by rfl)
set_option maxRecDepth 100000 in
theorem wd_839 : (Cond.methodLink "TrainGuardLaw" (142 : Nat) ({ cls := "TrainGuardModel", name := "holds", desc := "(II)I" } : Jvm.MethodName)) ∈ tG := tG_of (List.mem_of_getElem? (i := 839) (by rfl)) (by rfl)
set_option maxRecDepth 100000 in
theorem wd_840 : (Cond.instanceMethod ({ cls := "TrainGuardModel", name := "holds", desc := "(II)I" } : Jvm.MethodName)) ∈ tG := tG_of (List.mem_of_getElem? (i := 840) (by rfl)) (by rfl)
set_option maxRecDepth 100000 in
theorem wd_841 : (Cond.selects "TrainGuardModel" ({ cls := "TrainGuardModel", name := "holds", desc := "(II)I" } : Jvm.MethodName) ({ cls := "TrainGuardModel", name := "holds", desc := "(II)I" } : Jvm.MethodName)) ∈ tG := tG_of (List.mem_of_getElem? (i := 841) (by rfl)) (by rfl)
set_option maxRecDepth 100000 in
theorem wd_842 : (Cond.code ({ cls := "TrainGuardModel", name := "holds", desc := "(II)I" } : Jvm.MethodName) prog_6_method_42_code (5 : Nat) (Option.some Jvm.ClassFile.FieldType.int)) ∈ tG := tG_of (List.mem_of_getElem? (i := 842) (by rfl)) (by rfl)
set_option maxRecDepth 100000 in
theorem wd_843 : (Cond.methodLink "TrainGuardLaw" (146 : Nat) ({ cls := "TrainGuardModel", name := "count", desc := "(I)I" } : Jvm.MethodName)) ∈ tG := tG_of (List.mem_of_getElem? (i := 843) (by rfl)) (by rfl)
set_option maxRecDepth 100000 in
theorem wd_844 : (Cond.instanceMethod ({ cls := "TrainGuardModel", name := "count", desc := "(I)I" } : Jvm.MethodName)) ∈ tG := tG_of (List.mem_of_getElem? (i := 844) (by rfl)) (by rfl)
set_option maxRecDepth 100000 in
theorem wd_845 : (Cond.selects "TrainGuardModel" ({ cls := "TrainGuardModel", name := "count", desc := "(I)I" } : Jvm.MethodName) ({ cls := "TrainGuardModel", name := "count", desc := "(I)I" } : Jvm.MethodName)) ∈ tG := tG_of (List.mem_of_getElem? (i := 845) (by rfl)) (by rfl)
set_option maxRecDepth 100000 in
theorem wd_846 : (Cond.code ({ cls := "TrainGuardModel", name := "count", desc := "(I)I" } : Jvm.MethodName) prog_6_method_43_code (2 : Nat) (Option.some Jvm.ClassFile.FieldType.int)) ∈ tG := tG_of (List.mem_of_getElem? (i := 846) (by rfl)) (by rfl)
set_option maxRecDepth 100000 in
theorem wd_847 : (Cond.constantDouble "TrainGuardLaw" (78 : Nat) (4593671619917905920 : UInt64)) ∈ tG := tG_of (List.mem_of_getElem? (i := 847) (by rfl)) (by rfl)
theorem inc_L : ∀ w ∈ u_ws Rc_L Fc_L 8, w ∈ tG := by
  show ∀ w ∈ [(Cond.laysFinal "TrainGuard$Line" "TrainGuard$Line" "begins" "[D"), (Cond.laysFinal "TrainGuard$Line" "TrainGuard$Line" "speeds" "[D"), (Cond.laysFinal "TrainGuard$Line" "TrainGuard$Line" "holders" "[I"), (Cond.laysFinal "TrainGuard$Line" "TrainGuard$Line" "froms" "[D"), (Cond.laysFinal "TrainGuard$Line" "TrainGuard$Line" "tos" "[D"), (Cond.laysFinal "TrainGuard$Line" "TrainGuard$Line" "caps" "[D"), (Cond.lays "TrainGuard$Line" "TrainGuard$Line" "sectionCount" "I"), (Cond.lays "TrainGuard$Line" "TrainGuard$Line" "restrictionCount" "I")], w ∈ tG
  exact List.forall_mem_cons.mpr ⟨wd_38, List.forall_mem_cons.mpr ⟨wd_40, List.forall_mem_cons.mpr ⟨wd_42, List.forall_mem_cons.mpr ⟨wd_44, List.forall_mem_cons.mpr ⟨wd_46, List.forall_mem_cons.mpr ⟨wd_48, List.forall_mem_cons.mpr ⟨wd_50, List.forall_mem_cons.mpr ⟨wd_52, fun _ h => absurd h List.not_mem_nil⟩⟩⟩⟩⟩⟩⟩⟩
theorem inc_M : ∀ w ∈ u_ws Rc_M Fc_M 5, w ∈ tG := by
  show ∀ w ∈ [(Cond.lays "TrainGuard$Message" "TrainGuard$Message" "isWaiting" "Z"), (Cond.lays "TrainGuard$Message" "TrainGuard$Message" "isStop" "Z"), (Cond.lays "TrainGuard$Message" "TrainGuard$Message" "number" "I"), (Cond.lays "TrainGuard$Message" "TrainGuard$Message" "place" "D"), (Cond.lays "TrainGuard$Message" "TrainGuard$Message" "mark" "I")], w ∈ tG
  exact List.forall_mem_cons.mpr ⟨wd_78, List.forall_mem_cons.mpr ⟨wd_80, List.forall_mem_cons.mpr ⟨wd_82, List.forall_mem_cons.mpr ⟨wd_84, List.forall_mem_cons.mpr ⟨wd_86, fun _ h => absurd h List.not_mem_nil⟩⟩⟩⟩⟩
theorem inc_T : ∀ w ∈ u_ws Rc_T Fc_T 11, w ∈ tG := by
  show ∀ w ∈ [(Cond.laysFinal "TrainGuard$Train" "TrainGuard$Train" "message" "LTrainGuard$Message;"), (Cond.lays "TrainGuard$Train" "TrainGuard$Train" "length" "D"), (Cond.lays "TrainGuard$Train" "TrainGuard$Train" "brake" "D"), (Cond.lays "TrainGuard$Train" "TrainGuard$Train" "speed" "D"), (Cond.lays "TrainGuard$Train" "TrainGuard$Train" "real" "D"), (Cond.lays "TrainGuard$Train" "TrainGuard$Train" "measured" "D"), (Cond.lays "TrainGuard$Train" "TrainGuard$Train" "margin" "D"), (Cond.lays "TrainGuard$Train" "TrainGuard$Train" "authority" "D"), (Cond.lays "TrainGuard$Train" "TrainGuard$Train" "hasAuthority" "Z"), (Cond.lays "TrainGuard$Train" "TrainGuard$Train" "isWet" "Z"), (Cond.lays "TrainGuard$Train" "TrainGuard$Train" "mode" "I")], w ∈ tG
  exact List.forall_mem_cons.mpr ⟨wd_109, List.forall_mem_cons.mpr ⟨wd_111, List.forall_mem_cons.mpr ⟨wd_113, List.forall_mem_cons.mpr ⟨wd_115, List.forall_mem_cons.mpr ⟨wd_117, List.forall_mem_cons.mpr ⟨wd_119, List.forall_mem_cons.mpr ⟨wd_121, List.forall_mem_cons.mpr ⟨wd_123, List.forall_mem_cons.mpr ⟨wd_125, List.forall_mem_cons.mpr ⟨wd_127, List.forall_mem_cons.mpr ⟨wd_129, fun _ h => absurd h List.not_mem_nil⟩⟩⟩⟩⟩⟩⟩⟩⟩⟩⟩
theorem inc_G : ∀ w ∈ u_ws Rc_G Fc_G 6, w ∈ tG := by
  show ∀ w ∈ [(Cond.laysFinal "TrainGuard" "TrainGuard" "line" "LTrainGuard$Line;"), (Cond.laysFinal "TrainGuard" "TrainGuard" "trains" "[LTrainGuard$Train;"), (Cond.lays "TrainGuard" "TrainGuard" "trainCount" "I"), (Cond.lays "TrainGuard" "TrainGuard" "forgedCount" "I"), (Cond.lays "TrainGuard" "TrainGuard" "guardBrakings" "I"), (Cond.lays "TrainGuard" "TrainGuard" "overruns" "I")], w ∈ tG
  exact List.forall_mem_cons.mpr ⟨wd_138, List.forall_mem_cons.mpr ⟨wd_140, List.forall_mem_cons.mpr ⟨wd_142, List.forall_mem_cons.mpr ⟨wd_144, List.forall_mem_cons.mpr ⟨wd_146, List.forall_mem_cons.mpr ⟨wd_148, fun _ h => absurd h List.not_mem_nil⟩⟩⟩⟩⟩⟩
theorem inc_R : ∀ w ∈ u_ws Rc_R Fc_R 25, w ∈ tG := by
  show ∀ w ∈ [(Cond.lays "TrainGuardModel" "TrainGuardModel" "thrown" "I"), (Cond.lays "TrainGuardModel" "TrainGuardModel" "sections" "I"), (Cond.laysFinal "TrainGuardModel" "TrainGuardModel" "begin" "[J"), (Cond.laysFinal "TrainGuardModel" "TrainGuardModel" "speedOf" "[J"), (Cond.laysFinal "TrainGuardModel" "TrainGuardModel" "held" "[I"), (Cond.lays "TrainGuardModel" "TrainGuardModel" "restrictions" "I"), (Cond.laysFinal "TrainGuardModel" "TrainGuardModel" "from" "[J"), (Cond.laysFinal "TrainGuardModel" "TrainGuardModel" "to" "[J"), (Cond.laysFinal "TrainGuardModel" "TrainGuardModel" "least" "[J"), (Cond.lays "TrainGuardModel" "TrainGuardModel" "trains" "I"), (Cond.laysFinal "TrainGuardModel" "TrainGuardModel" "length" "[J"), (Cond.laysFinal "TrainGuardModel" "TrainGuardModel" "brake" "[J"), (Cond.laysFinal "TrainGuardModel" "TrainGuardModel" "speed" "[J"), (Cond.laysFinal "TrainGuardModel" "TrainGuardModel" "real" "[J"), (Cond.laysFinal "TrainGuardModel" "TrainGuardModel" "measured" "[J"), (Cond.laysFinal "TrainGuardModel" "TrainGuardModel" "margin" "[J"), (Cond.laysFinal "TrainGuardModel" "TrainGuardModel" "authority" "[J"), (Cond.laysFinal "TrainGuardModel" "TrainGuardModel" "mode" "[I"), (Cond.laysFinal "TrainGuardModel" "TrainGuardModel" "wet" "[Z"), (Cond.laysFinal "TrainGuardModel" "TrainGuardModel" "numbers" "[I"), (Cond.laysFinal "TrainGuardModel" "TrainGuardModel" "message" "[I"), (Cond.laysFinal "TrainGuardModel" "TrainGuardModel" "place" "[J"), (Cond.lays "TrainGuardModel" "TrainGuardModel" "forged" "I"), (Cond.lays "TrainGuardModel" "TrainGuardModel" "braked" "I"), (Cond.lays "TrainGuardModel" "TrainGuardModel" "tripped" "I")], w ∈ tG
  exact List.forall_mem_cons.mpr ⟨wd_616, List.forall_mem_cons.mpr ⟨wd_618, List.forall_mem_cons.mpr ⟨wd_620, List.forall_mem_cons.mpr ⟨wd_622, List.forall_mem_cons.mpr ⟨wd_624, List.forall_mem_cons.mpr ⟨wd_626, List.forall_mem_cons.mpr ⟨wd_628, List.forall_mem_cons.mpr ⟨wd_630, List.forall_mem_cons.mpr ⟨wd_632, List.forall_mem_cons.mpr ⟨wd_634, List.forall_mem_cons.mpr ⟨wd_636, List.forall_mem_cons.mpr ⟨wd_638, List.forall_mem_cons.mpr ⟨wd_640, List.forall_mem_cons.mpr ⟨wd_642, List.forall_mem_cons.mpr ⟨wd_644, List.forall_mem_cons.mpr ⟨wd_646, List.forall_mem_cons.mpr ⟨wd_648, List.forall_mem_cons.mpr ⟨wd_650, List.forall_mem_cons.mpr ⟨wd_652, List.forall_mem_cons.mpr ⟨wd_654, List.forall_mem_cons.mpr ⟨wd_656, List.forall_mem_cons.mpr ⟨wd_658, List.forall_mem_cons.mpr ⟨wd_660, List.forall_mem_cons.mpr ⟨wd_662, List.forall_mem_cons.mpr ⟨wd_664, fun _ h => absurd h List.not_mem_nil⟩⟩⟩⟩⟩⟩⟩⟩⟩⟩⟩⟩⟩⟩⟩⟩⟩⟩⟩⟩⟩⟩⟩⟩⟩
theorem tG_gd {c0 : Cond} {ws : List Cond} (h : ∀ w ∈ ws, w ∈ tG) : GoodIn (c0 :: tG) ws := fun w hw => ⟨List.mem_cons_of_mem _ (h w hw), good_of_word (tG_good w (h w hw))⟩
theorem tG_g {ws : List Cond} (h : ∀ w ∈ ws, w ∈ tG) : GoodIn tG ws := fun w hw => ⟨h w hw, good_of_word (tG_good w (h w hw))⟩
theorem ws_0 : Cond.selects "java/lang/Throwable" ⟨"java/lang/Throwable", "fillInStackTrace", "(I)Ljava/lang/Throwable;"⟩ ⟨"java/lang/Throwable", "fillInStackTrace", "(I)Ljava/lang/Throwable;"⟩ ∈ tG := tG_sel (q := (⟨"java/lang/Throwable", "fillInStackTrace", "(I)Ljava/lang/Throwable;"⟩, 6)) (List.mem_of_getElem? (i := 0) (by rfl))
theorem ws_1 : Cond.selects "TrainGuard" ⟨"TrainGuard", "allStandBy", "()Z"⟩ ⟨"TrainGuard", "allStandBy", "()Z"⟩ ∈ tG := tG_sel (q := (⟨"TrainGuard", "allStandBy", "()Z"⟩, 6)) (List.mem_of_getElem? (i := 1) (by rfl))
theorem ws_2 : Cond.selects "TrainGuard" ⟨"TrainGuard", "isFreeFor", "(II)Z"⟩ ⟨"TrainGuard", "isFreeFor", "(II)Z"⟩ ∈ tG := tG_sel (q := (⟨"TrainGuard", "isFreeFor", "(II)Z"⟩, 6)) (List.mem_of_getElem? (i := 2) (by rfl))
theorem ws_3 : Cond.selects "TrainGuard" ⟨"TrainGuard", "firstTrainIn", "(II)I"⟩ ⟨"TrainGuard", "firstTrainIn", "(II)I"⟩ ∈ tG := tG_sel (q := (⟨"TrainGuard", "firstTrainIn", "(II)I"⟩, 6)) (List.mem_of_getElem? (i := 3) (by rfl))
theorem ws_4 : Cond.selects "TrainGuard" ⟨"TrainGuard", "isIn", "(LTrainGuard$Train;I)Z"⟩ ⟨"TrainGuard", "isIn", "(LTrainGuard$Train;I)Z"⟩ ∈ tG := tG_sel (q := (⟨"TrainGuard", "isIn", "(LTrainGuard$Train;I)Z"⟩, 6)) (List.mem_of_getElem? (i := 4) (by rfl))
theorem ws_5 : Cond.selects "TrainGuard" ⟨"TrainGuard", "trainNumbered", "(I)LTrainGuard$Train;"⟩ ⟨"TrainGuard", "trainNumbered", "(I)LTrainGuard$Train;"⟩ ∈ tG := tG_sel (q := (⟨"TrainGuard", "trainNumbered", "(I)LTrainGuard$Train;"⟩, 6)) (List.mem_of_getElem? (i := 5) (by rfl))
theorem ws_6 : Cond.selects "TrainGuard$Train" ⟨"TrainGuard$Train", "isSafeState", "(LTrainGuard$Line;DDD)Z"⟩ ⟨"TrainGuard$Train", "isSafeState", "(LTrainGuard$Line;DDD)Z"⟩ ∈ tG := tG_sel (q := (⟨"TrainGuard$Train", "isSafeState", "(LTrainGuard$Line;DDD)Z"⟩, 11)) (List.mem_of_getElem? (i := 6) (by rfl))
theorem ws_7 : Cond.selects "TrainGuard$Train" ⟨"TrainGuard$Train", "isSafe", "(DDDD)Z"⟩ ⟨"TrainGuard$Train", "isSafe", "(DDDD)Z"⟩ ∈ tG := tG_sel (q := (⟨"TrainGuard$Train", "isSafe", "(DDDD)Z"⟩, 11)) (List.mem_of_getElem? (i := 7) (by rfl))
theorem ws_8 : Cond.selects "TrainGuard$Train" ⟨"TrainGuard$Train", "meetsLimitsAhead", "(LTrainGuard$Line;DD)Z"⟩ ⟨"TrainGuard$Train", "meetsLimitsAhead", "(LTrainGuard$Line;DD)Z"⟩ ∈ tG := tG_sel (q := (⟨"TrainGuard$Train", "meetsLimitsAhead", "(LTrainGuard$Line;DD)Z"⟩, 11)) (List.mem_of_getElem? (i := 8) (by rfl))
theorem ws_9 : Cond.selects "TrainGuard" ⟨"TrainGuard", "headOf", "(LTrainGuard$Train;)I"⟩ ⟨"TrainGuard", "headOf", "(LTrainGuard$Train;)I"⟩ ∈ tG := tG_sel (q := (⟨"TrainGuard", "headOf", "(LTrainGuard$Train;)I"⟩, 6)) (List.mem_of_getElem? (i := 9) (by rfl))
theorem ws_10 : Cond.selects "TrainGuard$Message" ⟨"TrainGuard$Message", "dueMark", "()I"⟩ ⟨"TrainGuard$Message", "dueMark", "()I"⟩ ∈ tG := tG_sel (q := (⟨"TrainGuard$Message", "dueMark", "()I"⟩, 5)) (List.mem_of_getElem? (i := 10) (by rfl))
theorem ws_11 : Cond.selects "TrainGuard$Train" ⟨"TrainGuard$Train", "wishedSpeed", "(D)D"⟩ ⟨"TrainGuard$Train", "wishedSpeed", "(D)D"⟩ ∈ tG := tG_sel (q := (⟨"TrainGuard$Train", "wishedSpeed", "(D)D"⟩, 11)) (List.mem_of_getElem? (i := 11) (by rfl))
theorem ws_12 : Cond.selects "TrainGuard$Train" ⟨"TrainGuard$Train", "isSafeBehind", "(LTrainGuard$Line;D)Z"⟩ ⟨"TrainGuard$Train", "isSafeBehind", "(LTrainGuard$Line;D)Z"⟩ ∈ tG := tG_sel (q := (⟨"TrainGuard$Train", "isSafeBehind", "(LTrainGuard$Line;D)Z"⟩, 11)) (List.mem_of_getElem? (i := 12) (by rfl))
theorem ws_13 : Cond.selects "TrainGuard$Train" ⟨"TrainGuard$Train", "wayTo", "(D)D"⟩ ⟨"TrainGuard$Train", "wayTo", "(D)D"⟩ ∈ tG := tG_sel (q := (⟨"TrainGuard$Train", "wayTo", "(D)D"⟩, 11)) (List.mem_of_getElem? (i := 13) (by rfl))
theorem ws_14 : Cond.selects "TrainGuard$Train" ⟨"TrainGuard$Train", "brakedSpeed", "()D"⟩ ⟨"TrainGuard$Train", "brakedSpeed", "()D"⟩ ∈ tG := tG_sel (q := (⟨"TrainGuard$Train", "brakedSpeed", "()D"⟩, 11)) (List.mem_of_getElem? (i := 14) (by rfl))
theorem ws_15 : Cond.selects "TrainGuard$Train" ⟨"TrainGuard$Train", "move", "(LTrainGuard$Line;DI)V"⟩ ⟨"TrainGuard$Train", "move", "(LTrainGuard$Line;DI)V"⟩ ∈ tG := tG_sel (q := (⟨"TrainGuard$Train", "move", "(LTrainGuard$Line;DI)V"⟩, 11)) (List.mem_of_getElem? (i := 15) (by rfl))
theorem ws_16 : Cond.selects "TrainGuard" ⟨"TrainGuard", "holdOwnPlacesOnly", "(I)V"⟩ ⟨"TrainGuard", "holdOwnPlacesOnly", "(I)V"⟩ ∈ tG := tG_sel (q := (⟨"TrainGuard", "holdOwnPlacesOnly", "(I)V"⟩, 6)) (List.mem_of_getElem? (i := 16) (by rfl))
theorem ws_17 : Cond.selects "TrainGuardModel" ⟨"TrainGuardModel", "fail", "(I)I"⟩ ⟨"TrainGuardModel", "fail", "(I)I"⟩ ∈ tG := tG_sel (q := (⟨"TrainGuardModel", "fail", "(I)I"⟩, 25)) (List.mem_of_getElem? (i := 17) (by rfl))
theorem ws_18 : Cond.selects "TrainGuardModel" ⟨"TrainGuardModel", "answer", "(I)I"⟩ ⟨"TrainGuardModel", "answer", "(I)I"⟩ ∈ tG := tG_sel (q := (⟨"TrainGuardModel", "answer", "(I)I"⟩, 25)) (List.mem_of_getElem? (i := 18) (by rfl))
theorem ws_19 : Cond.selects "TrainGuardModel" ⟨"TrainGuardModel", "noSection", "(I)Z"⟩ ⟨"TrainGuardModel", "noSection", "(I)Z"⟩ ∈ tG := tG_sel (q := (⟨"TrainGuardModel", "noSection", "(I)Z"⟩, 25)) (List.mem_of_getElem? (i := 19) (by rfl))
theorem ws_20 : Cond.selects "TrainGuardModel" ⟨"TrainGuardModel", "taken", "(II)Z"⟩ ⟨"TrainGuardModel", "taken", "(II)Z"⟩ ∈ tG := tG_sel (q := (⟨"TrainGuardModel", "taken", "(II)Z"⟩, 25)) (List.mem_of_getElem? (i := 20) (by rfl))
theorem ws_21 : Cond.selects "TrainGuardModel" ⟨"TrainGuardModel", "isIn", "(II)Z"⟩ ⟨"TrainGuardModel", "isIn", "(II)Z"⟩ ∈ tG := tG_sel (q := (⟨"TrainGuardModel", "isIn", "(II)Z"⟩, 25)) (List.mem_of_getElem? (i := 21) (by rfl))
theorem ws_22 : Cond.selects "TrainGuardModel" ⟨"TrainGuardModel", "noTrain", "(I)Z"⟩ ⟨"TrainGuardModel", "noTrain", "(I)Z"⟩ ∈ tG := tG_sel (q := (⟨"TrainGuardModel", "noTrain", "(I)Z"⟩, 25)) (List.mem_of_getElem? (i := 22) (by rfl))
theorem ws_23 : Cond.selects "TrainGuardModel" ⟨"TrainGuardModel", "ready", "(I)Z"⟩ ⟨"TrainGuardModel", "ready", "(I)Z"⟩ ∈ tG := tG_sel (q := (⟨"TrainGuardModel", "ready", "(I)Z"⟩, 25)) (List.mem_of_getElem? (i := 23) (by rfl))
theorem ws_24 : Cond.selects "TrainGuardModel" ⟨"TrainGuardModel", "safe", "(IJJJ)Z"⟩ ⟨"TrainGuardModel", "safe", "(IJJJ)Z"⟩ ∈ tG := tG_sel (q := (⟨"TrainGuardModel", "safe", "(IJJJ)Z"⟩, 25)) (List.mem_of_getElem? (i := 24) (by rfl))
theorem ws_25 : Cond.selects "TrainGuardModel" ⟨"TrainGuardModel", "safeFor", "(IJJJJJ)Z"⟩ ⟨"TrainGuardModel", "safeFor", "(IJJJJJ)Z"⟩ ∈ tG := tG_sel (q := (⟨"TrainGuardModel", "safeFor", "(IJJJJJ)Z"⟩, 25)) (List.mem_of_getElem? (i := 25) (by rfl))
theorem ws_26 : Cond.selects "TrainGuardModel" ⟨"TrainGuardModel", "lineEnd", "()J"⟩ ⟨"TrainGuardModel", "lineEnd", "()J"⟩ ∈ tG := tG_sel (q := (⟨"TrainGuardModel", "lineEnd", "()J"⟩, 25)) (List.mem_of_getElem? (i := 26) (by rfl))
theorem ws_27 : Cond.selects "TrainGuardModel" ⟨"TrainGuardModel", "limitAt", "(J)J"⟩ ⟨"TrainGuardModel", "limitAt", "(J)J"⟩ ∈ tG := tG_sel (q := (⟨"TrainGuardModel", "limitAt", "(J)J"⟩, 25)) (List.mem_of_getElem? (i := 27) (by rfl))
theorem ws_28 : Cond.selects "TrainGuardModel" ⟨"TrainGuardModel", "sectionAt", "(J)I"⟩ ⟨"TrainGuardModel", "sectionAt", "(J)I"⟩ ∈ tG := tG_sel (q := (⟨"TrainGuardModel", "sectionAt", "(J)I"⟩, 25)) (List.mem_of_getElem? (i := 28) (by rfl))
theorem ws_29 : Cond.selects "TrainGuardModel" ⟨"TrainGuardModel", "within", "(J)J"⟩ ⟨"TrainGuardModel", "within", "(J)J"⟩ ∈ tG := tG_sel (q := (⟨"TrainGuardModel", "within", "(J)J"⟩, 25)) (List.mem_of_getElem? (i := 29) (by rfl))
theorem ws_30 : Cond.selects "TrainGuardModel" ⟨"TrainGuardModel", "head", "(I)I"⟩ ⟨"TrainGuardModel", "head", "(I)I"⟩ ∈ tG := tG_sel (q := (⟨"TrainGuardModel", "head", "(I)I"⟩, 25)) (List.mem_of_getElem? (i := 30) (by rfl))
theorem ws_31 : Cond.selects "TrainGuardModel" ⟨"TrainGuardModel", "send", "(IIJ)I"⟩ ⟨"TrainGuardModel", "send", "(IIJ)I"⟩ ∈ tG := tG_sel (q := (⟨"TrainGuardModel", "send", "(IIJ)I"⟩, 25)) (List.mem_of_getElem? (i := 31) (by rfl))
theorem ws_32 : Cond.selects "TrainGuardModel" ⟨"TrainGuardModel", "takeAuthority", "(I)I"⟩ ⟨"TrainGuardModel", "takeAuthority", "(I)I"⟩ ∈ tG := tG_sel (q := (⟨"TrainGuardModel", "takeAuthority", "(I)I"⟩, 25)) (List.mem_of_getElem? (i := 32) (by rfl))
theorem ws_33 : Cond.selects "TrainGuardModel" ⟨"TrainGuardModel", "pass", "(IJI)V"⟩ ⟨"TrainGuardModel", "pass", "(IJI)V"⟩ ∈ tG := tG_sel (q := (⟨"TrainGuardModel", "pass", "(IJI)V"⟩, 25)) (List.mem_of_getElem? (i := 33) (by rfl))
theorem ws_34 : Cond.selects "TrainGuardModel" ⟨"TrainGuardModel", "wish", "(IJ)J"⟩ ⟨"TrainGuardModel", "wish", "(IJ)J"⟩ ∈ tG := tG_sel (q := (⟨"TrainGuardModel", "wish", "(IJ)J"⟩, 25)) (List.mem_of_getElem? (i := 34) (by rfl))
theorem ws_35 : Cond.selects "TrainGuardModel" ⟨"TrainGuardModel", "move", "(IJI)V"⟩ ⟨"TrainGuardModel", "move", "(IJI)V"⟩ ∈ tG := tG_sel (q := (⟨"TrainGuardModel", "move", "(IJI)V"⟩, 25)) (List.mem_of_getElem? (i := 35) (by rfl))
theorem ws_36 : Cond.selects "TrainGuardModel" ⟨"TrainGuardModel", "shown", "(J)D"⟩ ⟨"TrainGuardModel", "shown", "(J)D"⟩ ∈ tG := tG_sel (q := (⟨"TrainGuardModel", "shown", "(J)D"⟩, 25)) (List.mem_of_getElem? (i := 36) (by rfl))
