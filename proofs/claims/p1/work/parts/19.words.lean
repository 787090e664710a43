theorem tb_1 {w : Cond} (h : w ∈ tables_1_1) (g : goodWord w = true) : w ∈ gU := gU_of (List.mem_append_right _ (List.mem_append_left _ h)) g
theorem tb_2 {w : Cond} (h : w ∈ tables_1_2) (g : goodWord w = true) : w ∈ gU := gU_of (List.mem_append_right _ (List.mem_append_right _ (List.mem_append_left _ h))) g
theorem tb_3 {w : Cond} (h : w ∈ tables_1_3) (g : goodWord w = true) : w ∈ gU := gU_of (List.mem_append_right _ (List.mem_append_right _ (List.mem_append_right _ (List.mem_append_left _ h)))) g
theorem tb_4 {w : Cond} (h : w ∈ tables_1_4) (g : goodWord w = true) : w ∈ gU := gU_of (List.mem_append_right _ (List.mem_append_right _ (List.mem_append_right _ (List.mem_append_right _ (List.mem_append_left _ h))))) g
theorem tb_5 {w : Cond} (h : w ∈ tables_1_5) (g : goodWord w = true) : w ∈ gU := gU_of (List.mem_append_right _ (List.mem_append_right _ (List.mem_append_right _ (List.mem_append_right _ (List.mem_append_right _ (List.mem_append_left _ h)))))) g
theorem tb_6 {w : Cond} (h : w ∈ tables_1_6) (g : goodWord w = true) : w ∈ gU := gU_of (List.mem_append_right _ (List.mem_append_right _ (List.mem_append_right _ (List.mem_append_right _ (List.mem_append_right _ (List.mem_append_right _ (List.mem_append_left _ h))))))) g
theorem tb_7 {w : Cond} (h : w ∈ tables_1_7) (g : goodWord w = true) : w ∈ gU := gU_of (List.mem_append_right _ (List.mem_append_right _ (List.mem_append_right _ (List.mem_append_right _ (List.mem_append_right _ (List.mem_append_right _ (List.mem_append_right _ (List.mem_append_left _ h)))))))) g
theorem tb_8 {w : Cond} (h : w ∈ tables_1_8) (g : goodWord w = true) : w ∈ gU := gU_of (List.mem_append_right _ (List.mem_append_right _ (List.mem_append_right _ (List.mem_append_right _ (List.mem_append_right _ (List.mem_append_right _ (List.mem_append_right _ (List.mem_append_right _ (List.mem_append_left _ h))))))))) g
theorem tb_9 {w : Cond} (h : w ∈ tables_1_9) (g : goodWord w = true) : w ∈ gU := gU_of (List.mem_append_right _ (List.mem_append_right _ (List.mem_append_right _ (List.mem_append_right _ (List.mem_append_right _ (List.mem_append_right _ (List.mem_append_right _ (List.mem_append_right _ (List.mem_append_right _ (List.mem_append_left _ h)))))))))) g
theorem tb_10 {w : Cond} (h : w ∈ tables_1_10) (g : goodWord w = true) : w ∈ gU := gU_of (List.mem_append_right _ (List.mem_append_right _ (List.mem_append_right _ (List.mem_append_right _ (List.mem_append_right _ (List.mem_append_right _ (List.mem_append_right _ (List.mem_append_right _ (List.mem_append_right _ (List.mem_append_right _ (h))))))))))) g
theorem cw_1 : (Jvm.Cond.initialized "CableStreet") ∈ gU := tb_1 (List.mem_of_getElem? (i := 1) rfl) rfl
theorem cw_2 : (Jvm.Cond.initialized "CableStreet$Reader") ∈ gU := tb_1 (List.mem_of_getElem? (i := 2) rfl) rfl
theorem cw_3 : (Jvm.Cond.initialized "CableStreet$Lexer") ∈ gU := tb_1 (List.mem_of_getElem? (i := 3) rfl) rfl
theorem cw_4 : (Jvm.Cond.initialized "CableStreet$Plan") ∈ gU := tb_1 (List.mem_of_getElem? (i := 4) rfl) rfl
theorem cw_5 : (Jvm.Cond.initialized "CableStreet$Crosses") ∈ gU := tb_1 (List.mem_of_getElem? (i := 5) rfl) rfl
theorem cw_6 : (Jvm.Cond.initialized "CableStreet$Rope") ∈ gU := tb_1 (List.mem_of_getElem? (i := 6) rfl) rfl
theorem cw_7 : (Jvm.Cond.initialized "java/util/Arrays") ∈ gU := tb_1 (List.mem_of_getElem? (i := 7) rfl) rfl
theorem cw_8 : (Jvm.Cond.initialized "CableStreet$State") ∈ gU := tb_1 (List.mem_of_getElem? (i := 8) rfl) rfl
theorem cw_9 : (Jvm.Cond.initialized "CableStreet$Events") ∈ gU := tb_1 (List.mem_of_getElem? (i := 9) rfl) rfl
theorem cw_10 : (Jvm.Cond.initialized "CableStreet$Car") ∈ gU := tb_1 (List.mem_of_getElem? (i := 10) rfl) rfl
theorem cw_11 : (Jvm.Cond.initialized "CableStreet$Machine") ∈ gU := tb_1 (List.mem_of_getElem? (i := 11) rfl) rfl
theorem cw_12 : (Jvm.Cond.initialized "CableStreet$Forecast") ∈ gU := tb_1 (List.mem_of_getElem? (i := 12) rfl) rfl
theorem cw_13 : (Jvm.Cond.initialized "CableStreet$Logs") ∈ gU := tb_1 (List.mem_of_getElem? (i := 13) rfl) rfl
theorem cw_14 : (Jvm.Cond.initialized "java/lang/System") ∈ gU := tb_1 (List.mem_of_getElem? (i := 14) rfl) rfl
theorem cw_15 : (Jvm.Cond.initialized "CableStreetModel") ∈ gU := tb_1 (List.mem_of_getElem? (i := 15) rfl) rfl
theorem cw_16 : (Jvm.Cond.initialized "java/lang/Math") ∈ gU := tb_1 (List.mem_of_getElem? (i := 16) rfl) rfl
theorem cw_22 : (Jvm.Cond.initialized "java/lang/Integer") ∈ gU := tb_1 (List.mem_of_getElem? (i := 22) rfl) rfl
theorem cw_23 : (Jvm.Cond.classLink "CableStreetLaw" (7 : Nat) "CableStreet") ∈ gU := tb_1 (List.mem_of_getElem? (i := 23) rfl) rfl
theorem cw_24 : (Jvm.Cond.instantiable "CableStreet" (11 : Nat)) ∈ gU := tb_1 (List.mem_of_getElem? (i := 24) rfl) rfl
theorem cw_25 : (Jvm.Cond.methodLink "CableStreetLaw" (9 : Nat) ({ cls := "CableStreet", name := "<init>", desc := "()V" } : Jvm.MethodName)) ∈ gU := tb_1 (List.mem_of_getElem? (i := 25) rfl) rfl
theorem cw_26 : (Jvm.Cond.instanceMethod ({ cls := "CableStreet", name := "<init>", desc := "()V" } : Jvm.MethodName)) ∈ gU := tb_1 (List.mem_of_getElem? (i := 26) rfl) rfl
theorem cw_27 : (Jvm.Cond.code ({ cls := "CableStreet", name := "<init>", desc := "()V" } : Jvm.MethodName) prog_1_method_1_code (2 : Nat) (Option.none : Option Jvm.ClassFile.FieldType)) ∈ gU := tb_1 (List.mem_of_getElem? (i := 27) rfl) rfl
theorem cw_28 : (Jvm.Cond.methodLink "CableStreet" (1 : Nat) ({ cls := "java/lang/Object", name := "<init>", desc := "()V" } : Jvm.MethodName)) ∈ gU := tb_1 (List.mem_of_getElem? (i := 28) rfl) rfl
theorem cw_29 : (Jvm.Cond.instanceMethod ({ cls := "java/lang/Object", name := "<init>", desc := "()V" } : Jvm.MethodName)) ∈ gU := tb_1 (List.mem_of_getElem? (i := 29) rfl) rfl
theorem cw_30 : (Jvm.Cond.code ({ cls := "java/lang/Object", name := "<init>", desc := "()V" } : Jvm.MethodName) object_method_1_code (1 : Nat) (Option.none : Option Jvm.ClassFile.FieldType)) ∈ gU := tb_1 (List.mem_of_getElem? (i := 30) rfl) rfl
theorem cw_31 : (Jvm.Cond.classLink "CableStreet" (17 : Nat) "CableStreet$Reader") ∈ gU := tb_1 (List.mem_of_getElem? (i := 31) rfl) rfl
theorem cw_32 : (Jvm.Cond.instantiable "CableStreet$Reader" (10 : Nat)) ∈ gU := tb_1 (List.mem_of_getElem? (i := 32) rfl) rfl
theorem cw_34 : (Jvm.Cond.instanceMethod ({ cls := "CableStreet$Reader", name := "<init>", desc := "()V" } : Jvm.MethodName)) ∈ gU := tb_1 (List.mem_of_getElem? (i := 34) rfl) rfl
theorem cw_35 : (Jvm.Cond.code ({ cls := "CableStreet$Reader", name := "<init>", desc := "()V" } : Jvm.MethodName) prog_10_method_1_code (1 : Nat) (Option.none : Option Jvm.ClassFile.FieldType)) ∈ gU := tb_1 (List.mem_of_getElem? (i := 35) rfl) rfl
theorem cw_36 : (Jvm.Cond.methodLink "CableStreet$Reader" (3 : Nat) ({ cls := "java/lang/Object", name := "<init>", desc := "()V" } : Jvm.MethodName)) ∈ gU := tb_1 (List.mem_of_getElem? (i := 36) rfl) rfl
theorem cw_37 : (Jvm.Cond.classLink "CableStreet$Reader" (9 : Nat) "CableStreet$Lexer") ∈ gU := tb_1 (List.mem_of_getElem? (i := 37) rfl) rfl
theorem cw_38 : (Jvm.Cond.instantiable "CableStreet$Lexer" (8 : Nat)) ∈ gU := tb_1 (List.mem_of_getElem? (i := 38) rfl) rfl
theorem cw_40 : (Jvm.Cond.instanceMethod ({ cls := "CableStreet$Lexer", name := "<init>", desc := "()V" } : Jvm.MethodName)) ∈ gU := tb_1 (List.mem_of_getElem? (i := 40) rfl) rfl
theorem cw_41 : (Jvm.Cond.code ({ cls := "CableStreet$Lexer", name := "<init>", desc := "()V" } : Jvm.MethodName) prog_6_method_1_code (1 : Nat) (Option.none : Option Jvm.ClassFile.FieldType)) ∈ gU := tb_1 (List.mem_of_getElem? (i := 41) rfl) rfl
theorem cw_42 : (Jvm.Cond.methodLink "CableStreet$Lexer" (3 : Nat) ({ cls := "java/lang/Object", name := "<init>", desc := "()V" } : Jvm.MethodName)) ∈ gU := tb_1 (List.mem_of_getElem? (i := 42) rfl) rfl
theorem cw_43 : (Jvm.Cond.fieldLink "CableStreet$Lexer" (9 : Nat) "CableStreet$Lexer" "text" "[B") ∈ gU := tb_1 (List.mem_of_getElem? (i := 43) rfl) rfl
theorem cw_44 : (Jvm.Cond.fieldLink "CableStreet$Lexer" (24 : Nat) "CableStreet$Lexer" "length" "I") ∈ gU := tb_1 (List.mem_of_getElem? (i := 44) rfl) rfl
theorem cw_45 : (Jvm.Cond.fieldLink "CableStreet$Lexer" (28 : Nat) "CableStreet$Lexer" "next" "I") ∈ gU := tb_1 (List.mem_of_getElem? (i := 45) rfl) rfl
theorem cw_46 : (Jvm.Cond.fieldLink "CableStreet$Reader" (58 : Nat) "CableStreet$Lexer" "kind" "I") ∈ gU := tb_1 (List.mem_of_getElem? (i := 46) rfl) rfl
theorem cw_47 : (Jvm.Cond.fieldLink "CableStreet$Lexer" (40 : Nat) "CableStreet$Lexer" "kind" "I") ∈ gU := tb_1 (List.mem_of_getElem? (i := 47) rfl) rfl
theorem cw_48 : (Jvm.Cond.fieldLink "CableStreet$Lexer" (34 : Nat) "CableStreet$Lexer" "place" "I") ∈ gU := tb_1 (List.mem_of_getElem? (i := 48) rfl) rfl
theorem cw_52 : (Jvm.Cond.fieldLink "CableStreet$Lexer" (37 : Nat) "CableStreet$Lexer" "word" "I") ∈ gU := tb_1 (List.mem_of_getElem? (i := 52) rfl) rfl
theorem cw_56 : (Jvm.Cond.lays "CableStreet$Lexer" "CableStreet$Lexer" "text" "[B") ∈ gU := tb_1 (List.mem_of_getElem? (i := 56) rfl) rfl
theorem cw_58 : (Jvm.Cond.lays "CableStreet$Lexer" "CableStreet$Lexer" "length" "I") ∈ gU := tb_1 (List.mem_of_getElem? (i := 58) rfl) rfl
theorem cw_60 : (Jvm.Cond.lays "CableStreet$Lexer" "CableStreet$Lexer" "next" "I") ∈ gU := tb_1 (List.mem_of_getElem? (i := 60) rfl) rfl
theorem cw_62 : (Jvm.Cond.lays "CableStreet$Lexer" "CableStreet$Lexer" "kind" "I") ∈ gU := tb_1 (List.mem_of_getElem? (i := 62) rfl) rfl
theorem cw_64 : (Jvm.Cond.lays "CableStreet$Lexer" "CableStreet$Lexer" "place" "I") ∈ gU := tb_1 (List.mem_of_getElem? (i := 64) rfl) rfl
theorem cw_66 : (Jvm.Cond.lays "CableStreet$Lexer" "CableStreet$Lexer" "value" "I") ∈ gU := tb_1 (List.mem_of_getElem? (i := 66) rfl) rfl
theorem cw_68 : (Jvm.Cond.lays "CableStreet$Lexer" "CableStreet$Lexer" "word" "I") ∈ gU := tb_1 (List.mem_of_getElem? (i := 68) rfl) rfl
theorem cw_70 : (Jvm.Cond.lays "CableStreet$Lexer" "CableStreet$Lexer" "letters" "J") ∈ gU := tb_1 (List.mem_of_getElem? (i := 70) rfl) rfl
theorem cw_73 : (Jvm.Cond.arrayClass Jvm.ClassFile.FieldType.byte) ∈ gU := tb_1 (List.mem_of_getElem? (i := 73) rfl) rfl
theorem cw_74 : (Jvm.Cond.fieldLink "CableStreet$Reader" (12 : Nat) "CableStreet$Reader" "lexer" "LCableStreet$Lexer;") ∈ gU := tb_1 (List.mem_of_getElem? (i := 74) rfl) rfl
theorem cw_75 : (Jvm.Cond.fieldLink "CableStreet$Reader" (35 : Nat) "CableStreet$Reader" "plan" "LCableStreet$Plan;") ∈ gU := tb_1 (List.mem_of_getElem? (i := 75) rfl) rfl
theorem cw_76 : (Jvm.Cond.fieldLink "CableStreet$Reader" (18 : Nat) "CableStreet$Reader" "ropeNames" "[J") ∈ gU := tb_1 (List.mem_of_getElem? (i := 76) rfl) rfl
theorem cw_77 : (Jvm.Cond.fieldLink "CableStreet$Reader" (22 : Nat) "CableStreet$Reader" "carNames" "[J") ∈ gU := tb_1 (List.mem_of_getElem? (i := 77) rfl) rfl
theorem cw_78 : (Jvm.Cond.fieldLink "CableStreet$Reader" (25 : Nat) "CableStreet$Reader" "spliceNames" "[J") ∈ gU := tb_1 (List.mem_of_getElem? (i := 78) rfl) rfl
theorem cw_79 : (Jvm.Cond.fieldLink "CableStreet$Reader" (44 : Nat) "CableStreet$Reader" "dragTold" "Z") ∈ gU := tb_1 (List.mem_of_getElem? (i := 79) rfl) rfl
theorem cw_80 : (Jvm.Cond.fieldLink "CableStreet$Reader" (48 : Nat) "CableStreet$Reader" "brakeTold" "Z") ∈ gU := tb_1 (List.mem_of_getElem? (i := 80) rfl) rfl
theorem cw_81 : (Jvm.Cond.fieldLink "CableStreet$Reader" (51 : Nat) "CableStreet$Reader" "turnTold" "Z") ∈ gU := tb_1 (List.mem_of_getElem? (i := 81) rfl) rfl
theorem cw_82 : (Jvm.Cond.fieldLink "CableStreet$Reader" (28 : Nat) "CableStreet$Reader" "fault" "I") ∈ gU := tb_1 (List.mem_of_getElem? (i := 82) rfl) rfl
theorem cw_83 : (Jvm.Cond.fieldLink "CableStreet" (89 : Nat) "CableStreet$Reader" "fault" "I") ∈ gU := tb_1 (List.mem_of_getElem? (i := 83) rfl) rfl
theorem cw_84 : (Jvm.Cond.fieldLink "CableStreet$Reader" (32 : Nat) "CableStreet$Reader" "faultPlace" "I") ∈ gU := tb_1 (List.mem_of_getElem? (i := 84) rfl) rfl
theorem cw_85 : (Jvm.Cond.fieldLink "CableStreet" (95 : Nat) "CableStreet$Reader" "faultPlace" "I") ∈ gU := tb_1 (List.mem_of_getElem? (i := 85) rfl) rfl
theorem cw_86 : (Jvm.Cond.laysFinal "CableStreet$Reader" "CableStreet$Reader" "lexer" "LCableStreet$Lexer;") ∈ gU := tb_1 (List.mem_of_getElem? (i := 86) rfl) rfl
theorem cw_88 : (Jvm.Cond.lays "CableStreet$Reader" "CableStreet$Reader" "plan" "LCableStreet$Plan;") ∈ gU := tb_1 (List.mem_of_getElem? (i := 88) rfl) rfl
theorem cw_90 : (Jvm.Cond.laysFinal "CableStreet$Reader" "CableStreet$Reader" "ropeNames" "[J") ∈ gU := tb_1 (List.mem_of_getElem? (i := 90) rfl) rfl
theorem cw_92 : (Jvm.Cond.laysFinal "CableStreet$Reader" "CableStreet$Reader" "carNames" "[J") ∈ gU := tb_1 (List.mem_of_getElem? (i := 92) rfl) rfl
theorem cw_94 : (Jvm.Cond.laysFinal "CableStreet$Reader" "CableStreet$Reader" "spliceNames" "[J") ∈ gU := tb_1 (List.mem_of_getElem? (i := 94) rfl) rfl
theorem cw_96 : (Jvm.Cond.lays "CableStreet$Reader" "CableStreet$Reader" "dragTold" "Z") ∈ gU := tb_1 (List.mem_of_getElem? (i := 96) rfl) rfl
theorem cw_98 : (Jvm.Cond.lays "CableStreet$Reader" "CableStreet$Reader" "brakeTold" "Z") ∈ gU := tb_1 (List.mem_of_getElem? (i := 98) rfl) rfl
theorem cw_100 : (Jvm.Cond.lays "CableStreet$Reader" "CableStreet$Reader" "turnTold" "Z") ∈ gU := tb_1 (List.mem_of_getElem? (i := 100) rfl) rfl
theorem cw_102 : (Jvm.Cond.lays "CableStreet$Reader" "CableStreet$Reader" "fault" "I") ∈ gU := tb_1 (List.mem_of_getElem? (i := 102) rfl) rfl
theorem cw_104 : (Jvm.Cond.lays "CableStreet$Reader" "CableStreet$Reader" "faultPlace" "I") ∈ gU := tb_1 (List.mem_of_getElem? (i := 104) rfl) rfl
theorem cw_107 : (Jvm.Cond.arrayClass Jvm.ClassFile.FieldType.long) ∈ gU := tb_1 (List.mem_of_getElem? (i := 107) rfl) rfl
theorem cw_108 : (Jvm.Cond.classLink "CableStreet" (24 : Nat) "CableStreet$Plan") ∈ gU := tb_1 (List.mem_of_getElem? (i := 108) rfl) rfl
theorem cw_109 : (Jvm.Cond.instantiable "CableStreet$Plan" (18 : Nat)) ∈ gU := tb_1 (List.mem_of_getElem? (i := 109) rfl) rfl
theorem cw_110 : (Jvm.Cond.methodLink "CableStreet" (26 : Nat) ({ cls := "CableStreet$Plan", name := "<init>", desc := "()V" } : Jvm.MethodName)) ∈ gU := tb_1 (List.mem_of_getElem? (i := 110) rfl) rfl
theorem cw_111 : (Jvm.Cond.instanceMethod ({ cls := "CableStreet$Plan", name := "<init>", desc := "()V" } : Jvm.MethodName)) ∈ gU := tb_1 (List.mem_of_getElem? (i := 111) rfl) rfl
theorem cw_112 : (Jvm.Cond.code ({ cls := "CableStreet$Plan", name := "<init>", desc := "()V" } : Jvm.MethodName) prog_9_method_1_code (2 : Nat) (Option.none : Option Jvm.ClassFile.FieldType)) ∈ gU := tb_1 (List.mem_of_getElem? (i := 112) rfl) rfl
theorem cw_113 : (Jvm.Cond.methodLink "CableStreet$Plan" (3 : Nat) ({ cls := "java/lang/Object", name := "<init>", desc := "()V" } : Jvm.MethodName)) ∈ gU := tb_1 (List.mem_of_getElem? (i := 113) rfl) rfl
theorem cw_114 : (Jvm.Cond.classLink "CableStreet$Plan" (9 : Nat) "CableStreet$Rope") ∈ gU := tb_1 (List.mem_of_getElem? (i := 114) rfl) rfl
theorem cw_116 : (Jvm.Cond.classLink "CableStreet$Plan" (30 : Nat) "[[I") ∈ gU := tb_1 (List.mem_of_getElem? (i := 116) rfl) rfl
theorem cw_118 : (Jvm.Cond.classLink "CableStreet$Plan" (44 : Nat) "CableStreet$Crosses") ∈ gU := tb_1 (List.mem_of_getElem? (i := 118) rfl) rfl
theorem cw_119 : (Jvm.Cond.instantiable "CableStreet$Crosses" (6 : Nat)) ∈ gU := tb_1 (List.mem_of_getElem? (i := 119) rfl) rfl
theorem cw_121 : (Jvm.Cond.instanceMethod ({ cls := "CableStreet$Crosses", name := "<init>", desc := "()V" } : Jvm.MethodName)) ∈ gU := tb_1 (List.mem_of_getElem? (i := 121) rfl) rfl
theorem cw_122 : (Jvm.Cond.code ({ cls := "CableStreet$Crosses", name := "<init>", desc := "()V" } : Jvm.MethodName) prog_3_method_1_code (1 : Nat) (Option.none : Option Jvm.ClassFile.FieldType)) ∈ gU := tb_1 (List.mem_of_getElem? (i := 122) rfl) rfl
theorem cw_123 : (Jvm.Cond.methodLink "CableStreet$Crosses" (3 : Nat) ({ cls := "java/lang/Object", name := "<init>", desc := "()V" } : Jvm.MethodName)) ∈ gU := tb_1 (List.mem_of_getElem? (i := 123) rfl) rfl
theorem cw_124 : (Jvm.Cond.fieldLink "CableStreet$Crosses" (21 : Nat) "CableStreet$Crosses" "told" "I") ∈ gU := tb_1 (List.mem_of_getElem? (i := 124) rfl) rfl
theorem cw_126 : (Jvm.Cond.fieldLink "CableStreet" (341 : Nat) "CableStreet$Crosses" "told" "I") ∈ gU := tb_1 (List.mem_of_getElem? (i := 126) rfl) rfl
theorem cw_127 : (Jvm.Cond.fieldLink "CableStreet$Crosses" (25 : Nat) "CableStreet$Crosses" "units" "I") ∈ gU := tb_1 (List.mem_of_getElem? (i := 127) rfl) rfl
theorem cw_129 : (Jvm.Cond.fieldLink "CableStreet" (342 : Nat) "CableStreet$Crosses" "units" "I") ∈ gU := tb_1 (List.mem_of_getElem? (i := 129) rfl) rfl
theorem cw_130 : (Jvm.Cond.fieldLink "CableStreet$Crosses" (9 : Nat) "CableStreet$Crosses" "numberOn" "[I") ∈ gU := tb_1 (List.mem_of_getElem? (i := 130) rfl) rfl
theorem cw_131 : (Jvm.Cond.fieldLink "CableStreet$Crosses" (15 : Nat) "CableStreet$Crosses" "begin" "[I") ∈ gU := tb_1 (List.mem_of_getElem? (i := 131) rfl) rfl
theorem cw_132 : (Jvm.Cond.fieldLink "CableStreet$Crosses" (18 : Nat) "CableStreet$Crosses" "steps" "[I") ∈ gU := tb_1 (List.mem_of_getElem? (i := 132) rfl) rfl
theorem cw_133 : (Jvm.Cond.fieldLink "CableStreet$Crosses" (28 : Nat) "CableStreet$Crosses" "stepsTold" "I") ∈ gU := tb_1 (List.mem_of_getElem? (i := 133) rfl) rfl
theorem cw_134 : (Jvm.Cond.lays "CableStreet$Crosses" "CableStreet$Crosses" "told" "I") ∈ gU := tb_1 (List.mem_of_getElem? (i := 134) rfl) rfl
theorem cw_136 : (Jvm.Cond.lays "CableStreet$Crosses" "CableStreet$Crosses" "units" "I") ∈ gU := tb_1 (List.mem_of_getElem? (i := 136) rfl) rfl
theorem cw_138 : (Jvm.Cond.laysFinal "CableStreet$Crosses" "CableStreet$Crosses" "numberOn" "[I") ∈ gU := tb_1 (List.mem_of_getElem? (i := 138) rfl) rfl
theorem cw_140 : (Jvm.Cond.laysFinal "CableStreet$Crosses" "CableStreet$Crosses" "begin" "[I") ∈ gU := tb_1 (List.mem_of_getElem? (i := 140) rfl) rfl
theorem cw_142 : (Jvm.Cond.laysFinal "CableStreet$Crosses" "CableStreet$Crosses" "steps" "[I") ∈ gU := tb_1 (List.mem_of_getElem? (i := 142) rfl) rfl
theorem cw_144 : (Jvm.Cond.lays "CableStreet$Crosses" "CableStreet$Crosses" "stepsTold" "I") ∈ gU := tb_1 (List.mem_of_getElem? (i := 144) rfl) rfl
theorem cw_147 : (Jvm.Cond.arrayClass Jvm.ClassFile.FieldType.int) ∈ gU := tb_1 (List.mem_of_getElem? (i := 147) rfl) rfl
theorem cw_148 : (Jvm.Cond.instantiable "CableStreet$Rope" (5 : Nat)) ∈ gU := tb_1 (List.mem_of_getElem? (i := 148) rfl) rfl
theorem cw_150 : (Jvm.Cond.instanceMethod ({ cls := "CableStreet$Rope", name := "<init>", desc := "()V" } : Jvm.MethodName)) ∈ gU := tb_1 (List.mem_of_getElem? (i := 150) rfl) rfl
theorem cw_151 : (Jvm.Cond.code ({ cls := "CableStreet$Rope", name := "<init>", desc := "()V" } : Jvm.MethodName) prog_11_method_1_code (1 : Nat) (Option.none : Option Jvm.ClassFile.FieldType)) ∈ gU := tb_1 (List.mem_of_getElem? (i := 151) rfl) rfl
theorem cw_152 : (Jvm.Cond.methodLink "CableStreet$Rope" (1 : Nat) ({ cls := "java/lang/Object", name := "<init>", desc := "()V" } : Jvm.MethodName)) ∈ gU := tb_1 (List.mem_of_getElem? (i := 152) rfl) rfl
theorem cw_164 : (Jvm.Cond.lays "CableStreet$Rope" "CableStreet$Rope" "speed" "I") ∈ gU := tb_1 (List.mem_of_getElem? (i := 164) rfl) rfl
theorem cw_166 : (Jvm.Cond.lays "CableStreet$Rope" "CableStreet$Rope" "length" "I") ∈ gU := tb_1 (List.mem_of_getElem? (i := 166) rfl) rfl
theorem cw_168 : (Jvm.Cond.lays "CableStreet$Rope" "CableStreet$Rope" "from" "I") ∈ gU := tb_1 (List.mem_of_getElem? (i := 168) rfl) rfl
theorem cw_170 : (Jvm.Cond.lays "CableStreet$Rope" "CableStreet$Rope" "to" "I") ∈ gU := tb_1 (List.mem_of_getElem? (i := 170) rfl) rfl
theorem cw_172 : (Jvm.Cond.lays "CableStreet$Rope" "CableStreet$Rope" "bears" "I") ∈ gU := tb_1 (List.mem_of_getElem? (i := 172) rfl) rfl
theorem cw_175 : (Jvm.Cond.methodLink "CableStreet$Plan" (52 : Nat) ({ cls := "CableStreet$Plan", name := "clear", desc := "()V" } : Jvm.MethodName)) ∈ gU := tb_1 (List.mem_of_getElem? (i := 175) rfl) rfl
theorem cw_176 : (Jvm.Cond.instanceMethod ({ cls := "CableStreet$Plan", name := "clear", desc := "()V" } : Jvm.MethodName)) ∈ gU := tb_1 (List.mem_of_getElem? (i := 176) rfl) rfl
theorem cw_177 : (Jvm.Cond.selects "CableStreet$Plan" ({ cls := "CableStreet$Plan", name := "clear", desc := "()V" } : Jvm.MethodName) ({ cls := "CableStreet$Plan", name := "clear", desc := "()V" } : Jvm.MethodName)) ∈ gU := tb_1 (List.mem_of_getElem? (i := 177) rfl) rfl
theorem cw_178 : (Jvm.Cond.code ({ cls := "CableStreet$Plan", name := "clear", desc := "()V" } : Jvm.MethodName) prog_9_method_2_code (2 : Nat) (Option.none : Option Jvm.ClassFile.FieldType)) ∈ gU := tb_1 (List.mem_of_getElem? (i := 178) rfl) rfl
theorem cw_179 : (Jvm.Cond.methodLink "CableStreet$Plan" (80 : Nat) ({ cls := "java/util/Arrays", name := "fill", desc := "([II)V" } : Jvm.MethodName)) ∈ gU := tb_1 (List.mem_of_getElem? (i := 179) rfl) rfl
theorem cw_180 : (Jvm.Cond.static ({ cls := "java/util/Arrays", name := "fill", desc := "([II)V" } : Jvm.MethodName)) ∈ gU := tb_1 (List.mem_of_getElem? (i := 180) rfl) rfl
theorem cw_181 : (Jvm.Cond.code ({ cls := "java/util/Arrays", name := "fill", desc := "([II)V" } : Jvm.MethodName) prog_22_method_103_code (4 : Nat) (Option.none : Option Jvm.ClassFile.FieldType)) ∈ gU := tb_1 (List.mem_of_getElem? (i := 181) rfl) rfl
theorem cw_182 : (Jvm.Cond.methodLink "CableStreet$Plan" (86 : Nat) ({ cls := "CableStreet$Crosses", name := "clear", desc := "()V" } : Jvm.MethodName)) ∈ gU := tb_1 (List.mem_of_getElem? (i := 182) rfl) rfl
theorem cw_183 : (Jvm.Cond.instanceMethod ({ cls := "CableStreet$Crosses", name := "clear", desc := "()V" } : Jvm.MethodName)) ∈ gU := tb_1 (List.mem_of_getElem? (i := 183) rfl) rfl
theorem cw_184 : (Jvm.Cond.selects "CableStreet$Crosses" ({ cls := "CableStreet$Crosses", name := "clear", desc := "()V" } : Jvm.MethodName) ({ cls := "CableStreet$Crosses", name := "clear", desc := "()V" } : Jvm.MethodName)) ∈ gU := tb_1 (List.mem_of_getElem? (i := 184) rfl) rfl
theorem cw_185 : (Jvm.Cond.code ({ cls := "CableStreet$Crosses", name := "clear", desc := "()V" } : Jvm.MethodName) prog_3_method_2_code (1 : Nat) (Option.none : Option Jvm.ClassFile.FieldType)) ∈ gU := tb_1 (List.mem_of_getElem? (i := 185) rfl) rfl
theorem cw_186 : (Jvm.Cond.methodLink "CableStreet$Crosses" (31 : Nat) ({ cls := "java/util/Arrays", name := "fill", desc := "([II)V" } : Jvm.MethodName)) ∈ gU := tb_1 (List.mem_of_getElem? (i := 186) rfl) rfl
theorem cw_187 : (Jvm.Cond.fieldLink "CableStreet$Plan" (55 : Nat) "CableStreet$Plan" "ropesTold" "I") ∈ gU := tb_1 (List.mem_of_getElem? (i := 187) rfl) rfl
theorem cw_188 : (Jvm.Cond.fieldLink "CableStreet$Machine" (98 : Nat) "CableStreet$Plan" "ropesTold" "I") ∈ gU := tb_1 (List.mem_of_getElem? (i := 188) rfl) rfl
theorem cw_190 : (Jvm.Cond.fieldLink "CableStreet$Forecast" (132 : Nat) "CableStreet$Plan" "ropesTold" "I") ∈ gU := tb_1 (List.mem_of_getElem? (i := 190) rfl) rfl
theorem cw_191 : (Jvm.Cond.fieldLink "CableStreet" (323 : Nat) "CableStreet$Plan" "ropesTold" "I") ∈ gU := tb_1 (List.mem_of_getElem? (i := 191) rfl) rfl
theorem cw_192 : (Jvm.Cond.fieldLink "CableStreet$Plan" (11 : Nat) "CableStreet$Plan" "ropes" "[LCableStreet$Rope;") ∈ gU := tb_1 (List.mem_of_getElem? (i := 192) rfl) rfl
theorem cw_197 : (Jvm.Cond.fieldLink "CableStreet$Plan" (17 : Nat) "CableStreet$Plan" "ropeOn" "[I") ∈ gU := tb_1 (List.mem_of_getElem? (i := 197) rfl) rfl
theorem cw_198 : (Jvm.Cond.fieldLink "CableStreet$Plan" (59 : Nat) "CableStreet$Plan" "gradesTold" "I") ∈ gU := tb_1 (List.mem_of_getElem? (i := 198) rfl) rfl
theorem cw_200 : (Jvm.Cond.fieldLink "CableStreet$Plan" (21 : Nat) "CableStreet$Plan" "grade" "[I") ∈ gU := tb_1 (List.mem_of_getElem? (i := 200) rfl) rfl
theorem cw_201 : (Jvm.Cond.fieldLink "CableStreet$Plan" (62 : Nat) "CableStreet$Plan" "cars" "I") ∈ gU := tb_1 (List.mem_of_getElem? (i := 201) rfl) rfl
theorem cw_202 : (Jvm.Cond.fieldLink "CableStreet$Machine" (41 : Nat) "CableStreet$Plan" "cars" "I") ∈ gU := tb_1 (List.mem_of_getElem? (i := 202) rfl) rfl
theorem cw_203 : (Jvm.Cond.fieldLink "CableStreet$State" (89 : Nat) "CableStreet$Plan" "cars" "I") ∈ gU := tb_1 (List.mem_of_getElem? (i := 203) rfl) rfl
theorem cw_205 : (Jvm.Cond.fieldLink "CableStreet$Forecast" (115 : Nat) "CableStreet$Plan" "cars" "I") ∈ gU := tb_1 (List.mem_of_getElem? (i := 205) rfl) rfl
theorem cw_206 : (Jvm.Cond.fieldLink "CableStreet" (207 : Nat) "CableStreet$Plan" "cars" "I") ∈ gU := tb_1 (List.mem_of_getElem? (i := 206) rfl) rfl
theorem cw_207 : (Jvm.Cond.fieldLink "CableStreet$Plan" (24 : Nat) "CableStreet$Plan" "carAt" "[I") ∈ gU := tb_1 (List.mem_of_getElem? (i := 207) rfl) rfl
theorem cw_208 : (Jvm.Cond.fieldLink "CableStreet$State" (55 : Nat) "CableStreet$Plan" "carAt" "[I") ∈ gU := tb_1 (List.mem_of_getElem? (i := 208) rfl) rfl
theorem cw_210 : (Jvm.Cond.fieldLink "CableStreet$Plan" (27 : Nat) "CableStreet$Plan" "weighs" "[I") ∈ gU := tb_1 (List.mem_of_getElem? (i := 210) rfl) rfl
theorem cw_214 : (Jvm.Cond.fieldLink "CableStreet$Plan" (65 : Nat) "CableStreet$Plan" "marksTold" "I") ∈ gU := tb_1 (List.mem_of_getElem? (i := 214) rfl) rfl
theorem cw_216 : (Jvm.Cond.fieldLink "CableStreet" (326 : Nat) "CableStreet$Plan" "marksTold" "I") ∈ gU := tb_1 (List.mem_of_getElem? (i := 216) rfl) rfl
theorem cw_217 : (Jvm.Cond.fieldLink "CableStreet$Plan" (32 : Nat) "CableStreet$Plan" "marks" "[[I") ∈ gU := tb_1 (List.mem_of_getElem? (i := 217) rfl) rfl
theorem cw_218 : (Jvm.Cond.fieldLink "CableStreet$Plan" (71 : Nat) "CableStreet$Plan" "drag" "I") ∈ gU := tb_1 (List.mem_of_getElem? (i := 218) rfl) rfl
theorem cw_220 : (Jvm.Cond.fieldLink "CableStreet" (332 : Nat) "CableStreet$Plan" "drag" "I") ∈ gU := tb_1 (List.mem_of_getElem? (i := 220) rfl) rfl
theorem cw_221 : (Jvm.Cond.fieldLink "CableStreet$Plan" (74 : Nat) "CableStreet$Plan" "brake" "I") ∈ gU := tb_1 (List.mem_of_getElem? (i := 221) rfl) rfl
theorem cw_223 : (Jvm.Cond.fieldLink "CableStreet" (335 : Nat) "CableStreet$Plan" "brake" "I") ∈ gU := tb_1 (List.mem_of_getElem? (i := 223) rfl) rfl
theorem cw_224 : (Jvm.Cond.fieldLink "CableStreet$Plan" (77 : Nat) "CableStreet$Plan" "turn" "I") ∈ gU := tb_1 (List.mem_of_getElem? (i := 224) rfl) rfl
theorem cw_225 : (Jvm.Cond.fieldLink "CableStreet$Machine" (82 : Nat) "CableStreet$Plan" "turn" "I") ∈ gU := tb_1 (List.mem_of_getElem? (i := 225) rfl) rfl
theorem cw_227 : (Jvm.Cond.fieldLink "CableStreet$Plan" (68 : Nat) "CableStreet$Plan" "splices" "I") ∈ gU := tb_1 (List.mem_of_getElem? (i := 227) rfl) rfl
theorem cw_228 : (Jvm.Cond.fieldLink "CableStreet$Machine" (152 : Nat) "CableStreet$Plan" "splices" "I") ∈ gU := tb_1 (List.mem_of_getElem? (i := 228) rfl) rfl
theorem cw_230 : (Jvm.Cond.fieldLink "CableStreet" (338 : Nat) "CableStreet$Plan" "splices" "I") ∈ gU := tb_1 (List.mem_of_getElem? (i := 230) rfl) rfl
theorem cw_231 : (Jvm.Cond.fieldLink "CableStreet$Plan" (35 : Nat) "CableStreet$Plan" "spliceRope" "[I") ∈ gU := tb_1 (List.mem_of_getElem? (i := 231) rfl) rfl
theorem cw_236 : (Jvm.Cond.fieldLink "CableStreet$Plan" (38 : Nat) "CableStreet$Plan" "spliceAt" "[I") ∈ gU := tb_1 (List.mem_of_getElem? (i := 236) rfl) rfl
theorem cw_237 : (Jvm.Cond.fieldLink "CableStreet$State" (64 : Nat) "CableStreet$Plan" "spliceAt" "[I") ∈ gU := tb_1 (List.mem_of_getElem? (i := 237) rfl) rfl
theorem cw_239 : (Jvm.Cond.fieldLink "CableStreet$Plan" (41 : Nat) "CableStreet$Plan" "lasts" "[I") ∈ gU := tb_1 (List.mem_of_getElem? (i := 239) rfl) rfl
theorem cw_243 : (Jvm.Cond.fieldLink "CableStreet$Plan" (47 : Nat) "CableStreet$Plan" "crosses" "LCableStreet$Crosses;") ∈ gU := tb_2 (List.mem_of_getElem? (i := 3) rfl) rfl
theorem cw_246 : (Jvm.Cond.fieldLink "CableStreet" (222 : Nat) "CableStreet$Plan" "crosses" "LCableStreet$Crosses;") ∈ gU := tb_2 (List.mem_of_getElem? (i := 6) rfl) rfl
theorem cw_247 : (Jvm.Cond.lays "CableStreet$Plan" "CableStreet$Plan" "ropesTold" "I") ∈ gU := tb_2 (List.mem_of_getElem? (i := 7) rfl) rfl
theorem cw_249 : (Jvm.Cond.laysFinal "CableStreet$Plan" "CableStreet$Plan" "ropes" "[LCableStreet$Rope;") ∈ gU := tb_2 (List.mem_of_getElem? (i := 9) rfl) rfl
theorem cw_251 : (Jvm.Cond.laysFinal "CableStreet$Plan" "CableStreet$Plan" "ropeOn" "[I") ∈ gU := tb_2 (List.mem_of_getElem? (i := 11) rfl) rfl
theorem cw_253 : (Jvm.Cond.lays "CableStreet$Plan" "CableStreet$Plan" "gradesTold" "I") ∈ gU := tb_2 (List.mem_of_getElem? (i := 13) rfl) rfl
theorem cw_255 : (Jvm.Cond.laysFinal "CableStreet$Plan" "CableStreet$Plan" "grade" "[I") ∈ gU := tb_2 (List.mem_of_getElem? (i := 15) rfl) rfl
theorem cw_257 : (Jvm.Cond.lays "CableStreet$Plan" "CableStreet$Plan" "cars" "I") ∈ gU := tb_2 (List.mem_of_getElem? (i := 17) rfl) rfl
theorem cw_259 : (Jvm.Cond.laysFinal "CableStreet$Plan" "CableStreet$Plan" "carAt" "[I") ∈ gU := tb_2 (List.mem_of_getElem? (i := 19) rfl) rfl
theorem cw_261 : (Jvm.Cond.laysFinal "CableStreet$Plan" "CableStreet$Plan" "weighs" "[I") ∈ gU := tb_2 (List.mem_of_getElem? (i := 21) rfl) rfl
theorem cw_263 : (Jvm.Cond.lays "CableStreet$Plan" "CableStreet$Plan" "marksTold" "I") ∈ gU := tb_2 (List.mem_of_getElem? (i := 23) rfl) rfl
theorem cw_265 : (Jvm.Cond.laysFinal "CableStreet$Plan" "CableStreet$Plan" "marks" "[[I") ∈ gU := tb_2 (List.mem_of_getElem? (i := 25) rfl) rfl
theorem cw_267 : (Jvm.Cond.lays "CableStreet$Plan" "CableStreet$Plan" "drag" "I") ∈ gU := tb_2 (List.mem_of_getElem? (i := 27) rfl) rfl
theorem cw_269 : (Jvm.Cond.lays "CableStreet$Plan" "CableStreet$Plan" "brake" "I") ∈ gU := tb_2 (List.mem_of_getElem? (i := 29) rfl) rfl
theorem cw_271 : (Jvm.Cond.lays "CableStreet$Plan" "CableStreet$Plan" "turn" "I") ∈ gU := tb_2 (List.mem_of_getElem? (i := 31) rfl) rfl
theorem cw_273 : (Jvm.Cond.lays "CableStreet$Plan" "CableStreet$Plan" "splices" "I") ∈ gU := tb_2 (List.mem_of_getElem? (i := 33) rfl) rfl
theorem cw_275 : (Jvm.Cond.laysFinal "CableStreet$Plan" "CableStreet$Plan" "spliceRope" "[I") ∈ gU := tb_2 (List.mem_of_getElem? (i := 35) rfl) rfl
theorem cw_277 : (Jvm.Cond.laysFinal "CableStreet$Plan" "CableStreet$Plan" "spliceAt" "[I") ∈ gU := tb_2 (List.mem_of_getElem? (i := 37) rfl) rfl
theorem cw_279 : (Jvm.Cond.laysFinal "CableStreet$Plan" "CableStreet$Plan" "lasts" "[I") ∈ gU := tb_2 (List.mem_of_getElem? (i := 39) rfl) rfl
theorem cw_281 : (Jvm.Cond.laysFinal "CableStreet$Plan" "CableStreet$Plan" "crosses" "LCableStreet$Crosses;") ∈ gU := tb_2 (List.mem_of_getElem? (i := 41) rfl) rfl
theorem cw_284 : (Jvm.Cond.classLink "CableStreet" (34 : Nat) "CableStreet$State") ∈ gU := tb_2 (List.mem_of_getElem? (i := 44) rfl) rfl
theorem cw_285 : (Jvm.Cond.instantiable "CableStreet$State" (11 : Nat)) ∈ gU := tb_2 (List.mem_of_getElem? (i := 45) rfl) rfl
theorem cw_286 : (Jvm.Cond.methodLink "CableStreet" (36 : Nat) ({ cls := "CableStreet$State", name := "<init>", desc := "()V" } : Jvm.MethodName)) ∈ gU := tb_2 (List.mem_of_getElem? (i := 46) rfl) rfl
theorem cw_287 : (Jvm.Cond.instanceMethod ({ cls := "CableStreet$State", name := "<init>", desc := "()V" } : Jvm.MethodName)) ∈ gU := tb_2 (List.mem_of_getElem? (i := 47) rfl) rfl
theorem cw_288 : (Jvm.Cond.code ({ cls := "CableStreet$State", name := "<init>", desc := "()V" } : Jvm.MethodName) prog_12_method_1_code (2 : Nat) (Option.none : Option Jvm.ClassFile.FieldType)) ∈ gU := tb_2 (List.mem_of_getElem? (i := 48) rfl) rfl
theorem cw_289 : (Jvm.Cond.methodLink "CableStreet$State" (3 : Nat) ({ cls := "java/lang/Object", name := "<init>", desc := "()V" } : Jvm.MethodName)) ∈ gU := tb_2 (List.mem_of_getElem? (i := 49) rfl) rfl
theorem cw_290 : (Jvm.Cond.classLink "CableStreet$State" (9 : Nat) "CableStreet$Car") ∈ gU := tb_2 (List.mem_of_getElem? (i := 50) rfl) rfl
theorem cw_292 : (Jvm.Cond.classLink "CableStreet$State" (28 : Nat) "CableStreet$Events") ∈ gU := tb_2 (List.mem_of_getElem? (i := 52) rfl) rfl
theorem cw_293 : (Jvm.Cond.instantiable "CableStreet$Events" (3 : Nat)) ∈ gU := tb_2 (List.mem_of_getElem? (i := 53) rfl) rfl
theorem cw_295 : (Jvm.Cond.instanceMethod ({ cls := "CableStreet$Events", name := "<init>", desc := "()V" } : Jvm.MethodName)) ∈ gU := tb_2 (List.mem_of_getElem? (i := 55) rfl) rfl
theorem cw_296 : (Jvm.Cond.code ({ cls := "CableStreet$Events", name := "<init>", desc := "()V" } : Jvm.MethodName) prog_4_method_1_code (1 : Nat) (Option.none : Option Jvm.ClassFile.FieldType)) ∈ gU := tb_2 (List.mem_of_getElem? (i := 56) rfl) rfl
theorem cw_297 : (Jvm.Cond.methodLink "CableStreet$Events" (3 : Nat) ({ cls := "java/lang/Object", name := "<init>", desc := "()V" } : Jvm.MethodName)) ∈ gU := tb_2 (List.mem_of_getElem? (i := 57) rfl) rfl
theorem cw_298 : (Jvm.Cond.fieldLink "CableStreet$Events" (9 : Nat) "CableStreet$Events" "counts" "[I") ∈ gU := tb_2 (List.mem_of_getElem? (i := 58) rfl) rfl
theorem cw_300 : (Jvm.Cond.fieldLink "CableStreet" (153 : Nat) "CableStreet$Events" "counts" "[I") ∈ gU := tb_2 (List.mem_of_getElem? (i := 60) rfl) rfl
theorem cw_301 : (Jvm.Cond.fieldLink "CableStreet$Events" (15 : Nat) "CableStreet$Events" "cells" "[I") ∈ gU := tb_2 (List.mem_of_getElem? (i := 61) rfl) rfl
theorem cw_302 : (Jvm.Cond.fieldLink "CableStreet$Events" (18 : Nat) "CableStreet$Events" "kept" "I") ∈ gU := tb_2 (List.mem_of_getElem? (i := 62) rfl) rfl
theorem cw_303 : (Jvm.Cond.fieldLink "CableStreet" (345 : Nat) "CableStreet$Events" "kept" "I") ∈ gU := tb_2 (List.mem_of_getElem? (i := 63) rfl) rfl
theorem cw_304 : (Jvm.Cond.laysFinal "CableStreet$Events" "CableStreet$Events" "counts" "[I") ∈ gU := tb_2 (List.mem_of_getElem? (i := 64) rfl) rfl
theorem cw_306 : (Jvm.Cond.laysFinal "CableStreet$Events" "CableStreet$Events" "cells" "[I") ∈ gU := tb_2 (List.mem_of_getElem? (i := 66) rfl) rfl
theorem cw_308 : (Jvm.Cond.lays "CableStreet$Events" "CableStreet$Events" "kept" "I") ∈ gU := tb_2 (List.mem_of_getElem? (i := 68) rfl) rfl
theorem cw_311 : (Jvm.Cond.arrayClass Jvm.ClassFile.FieldType.boolean) ∈ gU := tb_2 (List.mem_of_getElem? (i := 71) rfl) rfl
theorem cw_312 : (Jvm.Cond.instantiable "CableStreet$Car" (11 : Nat)) ∈ gU := tb_2 (List.mem_of_getElem? (i := 72) rfl) rfl
theorem cw_314 : (Jvm.Cond.instanceMethod ({ cls := "CableStreet$Car", name := "<init>", desc := "()V" } : Jvm.MethodName)) ∈ gU := tb_2 (List.mem_of_getElem? (i := 74) rfl) rfl
theorem cw_315 : (Jvm.Cond.code ({ cls := "CableStreet$Car", name := "<init>", desc := "()V" } : Jvm.MethodName) prog_2_method_1_code (1 : Nat) (Option.none : Option Jvm.ClassFile.FieldType)) ∈ gU := tb_2 (List.mem_of_getElem? (i := 75) rfl) rfl
theorem cw_316 : (Jvm.Cond.methodLink "CableStreet$Car" (3 : Nat) ({ cls := "java/lang/Object", name := "<init>", desc := "()V" } : Jvm.MethodName)) ∈ gU := tb_2 (List.mem_of_getElem? (i := 76) rfl) rfl
theorem cw_317 : (Jvm.Cond.fieldLink "CableStreet$Car" (9 : Nat) "CableStreet$Car" "x" "I") ∈ gU := tb_2 (List.mem_of_getElem? (i := 77) rfl) rfl
theorem cw_321 : (Jvm.Cond.fieldLink "CableStreet$Car" (15 : Nat) "CableStreet$Car" "v" "I") ∈ gU := tb_2 (List.mem_of_getElem? (i := 81) rfl) rfl
theorem cw_324 : (Jvm.Cond.fieldLink "CableStreet$Car" (18 : Nat) "CableStreet$Car" "mode" "I") ∈ gU := tb_2 (List.mem_of_getElem? (i := 84) rfl) rfl
theorem cw_329 : (Jvm.Cond.fieldLink "CableStreet$Car" (21 : Nat) "CableStreet$Car" "waits" "I") ∈ gU := tb_2 (List.mem_of_getElem? (i := 89) rfl) rfl
theorem cw_332 : (Jvm.Cond.fieldLink "CableStreet$Car" (24 : Nat) "CableStreet$Car" "caught" "Z") ∈ gU := tb_2 (List.mem_of_getElem? (i := 92) rfl) rfl
theorem cw_335 : (Jvm.Cond.fieldLink "CableStreet$Car" (28 : Nat) "CableStreet$Car" "entered" "Z") ∈ gU := tb_2 (List.mem_of_getElem? (i := 95) rfl) rfl
theorem cw_337 : (Jvm.Cond.fieldLink "CableStreet$Car" (31 : Nat) "CableStreet$Car" "gripped" "I") ∈ gU := tb_2 (List.mem_of_getElem? (i := 97) rfl) rfl
theorem cw_339 : (Jvm.Cond.fieldLink "CableStreet$Car" (34 : Nat) "CableStreet$Car" "doneAt" "I") ∈ gU := tb_2 (List.mem_of_getElem? (i := 99) rfl) rfl
theorem cw_341 : (Jvm.Cond.fieldLink "CableStreet$Car" (37 : Nat) "CableStreet$Car" "trips" "I") ∈ gU := tb_2 (List.mem_of_getElem? (i := 101) rfl) rfl
theorem cw_344 : (Jvm.Cond.fieldLink "CableStreet$Car" (40 : Nat) "CableStreet$Car" "caughtEvent" "I") ∈ gU := tb_2 (List.mem_of_getElem? (i := 104) rfl) rfl
theorem cw_346 : (Jvm.Cond.fieldLink "CableStreet$Car" (43 : Nat) "CableStreet$Car" "heldEvent" "I") ∈ gU := tb_2 (List.mem_of_getElem? (i := 106) rfl) rfl
theorem cw_348 : (Jvm.Cond.lays "CableStreet$Car" "CableStreet$Car" "x" "I") ∈ gU := tb_2 (List.mem_of_getElem? (i := 108) rfl) rfl
theorem cw_350 : (Jvm.Cond.lays "CableStreet$Car" "CableStreet$Car" "v" "I") ∈ gU := tb_2 (List.mem_of_getElem? (i := 110) rfl) rfl
theorem cw_352 : (Jvm.Cond.lays "CableStreet$Car" "CableStreet$Car" "mode" "I") ∈ gU := tb_2 (List.mem_of_getElem? (i := 112) rfl) rfl
theorem cw_354 : (Jvm.Cond.lays "CableStreet$Car" "CableStreet$Car" "waits" "I") ∈ gU := tb_2 (List.mem_of_getElem? (i := 114) rfl) rfl
theorem cw_356 : (Jvm.Cond.lays "CableStreet$Car" "CableStreet$Car" "caught" "Z") ∈ gU := tb_2 (List.mem_of_getElem? (i := 116) rfl) rfl
theorem cw_358 : (Jvm.Cond.lays "CableStreet$Car" "CableStreet$Car" "entered" "Z") ∈ gU := tb_2 (List.mem_of_getElem? (i := 118) rfl) rfl
theorem cw_360 : (Jvm.Cond.lays "CableStreet$Car" "CableStreet$Car" "gripped" "I") ∈ gU := tb_2 (List.mem_of_getElem? (i := 120) rfl) rfl
theorem cw_362 : (Jvm.Cond.lays "CableStreet$Car" "CableStreet$Car" "doneAt" "I") ∈ gU := tb_2 (List.mem_of_getElem? (i := 122) rfl) rfl
theorem cw_364 : (Jvm.Cond.lays "CableStreet$Car" "CableStreet$Car" "trips" "I") ∈ gU := tb_2 (List.mem_of_getElem? (i := 124) rfl) rfl
theorem cw_366 : (Jvm.Cond.lays "CableStreet$Car" "CableStreet$Car" "caughtEvent" "I") ∈ gU := tb_2 (List.mem_of_getElem? (i := 126) rfl) rfl
theorem cw_368 : (Jvm.Cond.lays "CableStreet$Car" "CableStreet$Car" "heldEvent" "I") ∈ gU := tb_2 (List.mem_of_getElem? (i := 128) rfl) rfl
theorem cw_371 : (Jvm.Cond.fieldLink "CableStreet$State" (36 : Nat) "CableStreet$State" "tick" "I") ∈ gU := tb_2 (List.mem_of_getElem? (i := 131) rfl) rfl
theorem cw_372 : (Jvm.Cond.fieldLink "CableStreet$Machine" (26 : Nat) "CableStreet$State" "tick" "I") ∈ gU := tb_2 (List.mem_of_getElem? (i := 132) rfl) rfl
theorem cw_373 : (Jvm.Cond.fieldLink "CableStreet" (98 : Nat) "CableStreet$State" "tick" "I") ∈ gU := tb_2 (List.mem_of_getElem? (i := 133) rfl) rfl
theorem cw_374 : (Jvm.Cond.fieldLink "CableStreet$State" (11 : Nat) "CableStreet$State" "cars" "[LCableStreet$Car;") ∈ gU := tb_2 (List.mem_of_getElem? (i := 134) rfl) rfl
theorem cw_378 : (Jvm.Cond.fieldLink "CableStreet$State" (17 : Nat) "CableStreet$State" "cut" "[Z") ∈ gU := tb_2 (List.mem_of_getElem? (i := 138) rfl) rfl
theorem cw_382 : (Jvm.Cond.fieldLink "CableStreet$State" (40 : Nat) "CableStreet$State" "strandRope" "I") ∈ gU := tb_2 (List.mem_of_getElem? (i := 142) rfl) rfl
theorem cw_383 : (Jvm.Cond.fieldLink "CableStreet$Forecast" (63 : Nat) "CableStreet$State" "strandRope" "I") ∈ gU := tb_2 (List.mem_of_getElem? (i := 143) rfl) rfl
theorem cw_384 : (Jvm.Cond.fieldLink "CableStreet$Machine" (121 : Nat) "CableStreet$State" "strandRope" "I") ∈ gU := tb_2 (List.mem_of_getElem? (i := 144) rfl) rfl
theorem cw_385 : (Jvm.Cond.fieldLink "CableStreet" (163 : Nat) "CableStreet$State" "strandRope" "I") ∈ gU := tb_2 (List.mem_of_getElem? (i := 145) rfl) rfl
theorem cw_386 : (Jvm.Cond.fieldLink "CableStreet$State" (43 : Nat) "CableStreet$State" "strandPlace" "I") ∈ gU := tb_2 (List.mem_of_getElem? (i := 146) rfl) rfl
theorem cw_389 : (Jvm.Cond.fieldLink "CableStreet$State" (46 : Nat) "CableStreet$State" "strandTook" "I") ∈ gU := tb_2 (List.mem_of_getElem? (i := 149) rfl) rfl
theorem cw_392 : (Jvm.Cond.fieldLink "CableStreet$State" (21 : Nat) "CableStreet$State" "splicePlace" "[I") ∈ gU := tb_2 (List.mem_of_getElem? (i := 152) rfl) rfl
theorem cw_395 : (Jvm.Cond.fieldLink "CableStreet$State" (25 : Nat) "CableStreet$State" "wear" "[I") ∈ gU := tb_2 (List.mem_of_getElem? (i := 155) rfl) rfl
theorem cw_399 : (Jvm.Cond.fieldLink "CableStreet$State" (49 : Nat) "CableStreet$State" "onTable" "I") ∈ gU := tb_2 (List.mem_of_getElem? (i := 159) rfl) rfl
theorem cw_401 : (Jvm.Cond.fieldLink "CableStreet" (348 : Nat) "CableStreet$State" "onTable" "I") ∈ gU := tb_2 (List.mem_of_getElem? (i := 161) rfl) rfl
theorem cw_402 : (Jvm.Cond.fieldLink "CableStreet$State" (52 : Nat) "CableStreet$State" "tableTicks" "I") ∈ gU := tb_2 (List.mem_of_getElem? (i := 162) rfl) rfl
theorem cw_404 : (Jvm.Cond.fieldLink "CableStreet$State" (31 : Nat) "CableStreet$State" "events" "LCableStreet$Events;") ∈ gU := tb_2 (List.mem_of_getElem? (i := 164) rfl) rfl
theorem cw_406 : (Jvm.Cond.fieldLink "CableStreet" (149 : Nat) "CableStreet$State" "events" "LCableStreet$Events;") ∈ gU := tb_2 (List.mem_of_getElem? (i := 166) rfl) rfl
theorem cw_407 : (Jvm.Cond.lays "CableStreet$State" "CableStreet$State" "tick" "I") ∈ gU := tb_2 (List.mem_of_getElem? (i := 167) rfl) rfl
theorem cw_409 : (Jvm.Cond.laysFinal "CableStreet$State" "CableStreet$State" "cars" "[LCableStreet$Car;") ∈ gU := tb_2 (List.mem_of_getElem? (i := 169) rfl) rfl
theorem cw_411 : (Jvm.Cond.laysFinal "CableStreet$State" "CableStreet$State" "cut" "[Z") ∈ gU := tb_2 (List.mem_of_getElem? (i := 171) rfl) rfl
theorem cw_413 : (Jvm.Cond.lays "CableStreet$State" "CableStreet$State" "strandRope" "I") ∈ gU := tb_2 (List.mem_of_getElem? (i := 173) rfl) rfl
theorem cw_415 : (Jvm.Cond.lays "CableStreet$State" "CableStreet$State" "strandPlace" "I") ∈ gU := tb_2 (List.mem_of_getElem? (i := 175) rfl) rfl
theorem cw_417 : (Jvm.Cond.lays "CableStreet$State" "CableStreet$State" "strandTook" "I") ∈ gU := tb_2 (List.mem_of_getElem? (i := 177) rfl) rfl
theorem cw_419 : (Jvm.Cond.laysFinal "CableStreet$State" "CableStreet$State" "splicePlace" "[I") ∈ gU := tb_2 (List.mem_of_getElem? (i := 179) rfl) rfl
theorem cw_421 : (Jvm.Cond.laysFinal "CableStreet$State" "CableStreet$State" "wear" "[I") ∈ gU := tb_2 (List.mem_of_getElem? (i := 181) rfl) rfl
theorem cw_423 : (Jvm.Cond.lays "CableStreet$State" "CableStreet$State" "onTable" "I") ∈ gU := tb_2 (List.mem_of_getElem? (i := 183) rfl) rfl
theorem cw_425 : (Jvm.Cond.lays "CableStreet$State" "CableStreet$State" "tableTicks" "I") ∈ gU := tb_2 (List.mem_of_getElem? (i := 185) rfl) rfl
theorem cw_427 : (Jvm.Cond.laysFinal "CableStreet$State" "CableStreet$State" "events" "LCableStreet$Events;") ∈ gU := tb_2 (List.mem_of_getElem? (i := 187) rfl) rfl
theorem cw_431 : (Jvm.Cond.classLink "CableStreet" (49 : Nat) "CableStreet$Machine") ∈ gU := tb_2 (List.mem_of_getElem? (i := 191) rfl) rfl
theorem cw_432 : (Jvm.Cond.instantiable "CableStreet$Machine" (4 : Nat)) ∈ gU := tb_2 (List.mem_of_getElem? (i := 192) rfl) rfl
theorem cw_434 : (Jvm.Cond.instanceMethod ({ cls := "CableStreet$Machine", name := "<init>", desc := "()V" } : Jvm.MethodName)) ∈ gU := tb_2 (List.mem_of_getElem? (i := 194) rfl) rfl
theorem cw_435 : (Jvm.Cond.code ({ cls := "CableStreet$Machine", name := "<init>", desc := "()V" } : Jvm.MethodName) prog_8_method_1_code (1 : Nat) (Option.none : Option Jvm.ClassFile.FieldType)) ∈ gU := tb_2 (List.mem_of_getElem? (i := 195) rfl) rfl
theorem cw_436 : (Jvm.Cond.methodLink "CableStreet$Machine" (3 : Nat) ({ cls := "java/lang/Object", name := "<init>", desc := "()V" } : Jvm.MethodName)) ∈ gU := tb_2 (List.mem_of_getElem? (i := 196) rfl) rfl
theorem cw_437 : (Jvm.Cond.fieldLink "CableStreet$Machine" (18 : Nat) "CableStreet$Machine" "plan" "LCableStreet$Plan;") ∈ gU := tb_2 (List.mem_of_getElem? (i := 197) rfl) rfl
theorem cw_438 : (Jvm.Cond.fieldLink "CableStreet$Machine" (22 : Nat) "CableStreet$Machine" "state" "LCableStreet$State;") ∈ gU := tb_2 (List.mem_of_getElem? (i := 198) rfl) rfl
theorem cw_439 : (Jvm.Cond.fieldLink "CableStreet$Machine" (9 : Nat) "CableStreet$Machine" "ropeSpeed" "[I") ∈ gU := tb_2 (List.mem_of_getElem? (i := 199) rfl) rfl
theorem cw_440 : (Jvm.Cond.fieldLink "CableStreet$Machine" (15 : Nat) "CableStreet$Machine" "stack" "[I") ∈ gU := tb_2 (List.mem_of_getElem? (i := 200) rfl) rfl
theorem cw_441 : (Jvm.Cond.lays "CableStreet$Machine" "CableStreet$Machine" "plan" "LCableStreet$Plan;") ∈ gU := tb_2 (List.mem_of_getElem? (i := 201) rfl) rfl
theorem cw_443 : (Jvm.Cond.lays "CableStreet$Machine" "CableStreet$Machine" "state" "LCableStreet$State;") ∈ gU := tb_2 (List.mem_of_getElem? (i := 203) rfl) rfl
theorem cw_445 : (Jvm.Cond.laysFinal "CableStreet$Machine" "CableStreet$Machine" "ropeSpeed" "[I") ∈ gU := tb_2 (List.mem_of_getElem? (i := 205) rfl) rfl
theorem cw_447 : (Jvm.Cond.laysFinal "CableStreet$Machine" "CableStreet$Machine" "stack" "[I") ∈ gU := tb_2 (List.mem_of_getElem? (i := 207) rfl) rfl
theorem cw_450 : (Jvm.Cond.classLink "CableStreet" (56 : Nat) "CableStreet$Forecast") ∈ gU := tb_2 (List.mem_of_getElem? (i := 210) rfl) rfl
theorem cw_451 : (Jvm.Cond.instantiable "CableStreet$Forecast" (7 : Nat)) ∈ gU := tb_2 (List.mem_of_getElem? (i := 211) rfl) rfl
theorem cw_453 : (Jvm.Cond.instanceMethod ({ cls := "CableStreet$Forecast", name := "<init>", desc := "()V" } : Jvm.MethodName)) ∈ gU := tb_2 (List.mem_of_getElem? (i := 213) rfl) rfl
theorem cw_454 : (Jvm.Cond.code ({ cls := "CableStreet$Forecast", name := "<init>", desc := "()V" } : Jvm.MethodName) prog_5_method_1_code (1 : Nat) (Option.none : Option Jvm.ClassFile.FieldType)) ∈ gU := tb_2 (List.mem_of_getElem? (i := 214) rfl) rfl
theorem cw_455 : (Jvm.Cond.methodLink "CableStreet$Forecast" (3 : Nat) ({ cls := "java/lang/Object", name := "<init>", desc := "()V" } : Jvm.MethodName)) ∈ gU := tb_2 (List.mem_of_getElem? (i := 215) rfl) rfl
theorem cw_456 : (Jvm.Cond.classLink "CableStreet$Forecast" (9 : Nat) "CableStreet$Machine") ∈ gU := tb_2 (List.mem_of_getElem? (i := 216) rfl) rfl
theorem cw_458 : (Jvm.Cond.classLink "CableStreet$Forecast" (18 : Nat) "CableStreet$State") ∈ gU := tb_2 (List.mem_of_getElem? (i := 218) rfl) rfl
theorem cw_459 : (Jvm.Cond.methodLink "CableStreet$Forecast" (20 : Nat) ({ cls := "CableStreet$State", name := "<init>", desc := "()V" } : Jvm.MethodName)) ∈ gU := tb_2 (List.mem_of_getElem? (i := 219) rfl) rfl
theorem cw_460 : (Jvm.Cond.fieldLink "CableStreet$Forecast" (12 : Nat) "CableStreet$Forecast" "machine" "LCableStreet$Machine;") ∈ gU := tb_2 (List.mem_of_getElem? (i := 220) rfl) rfl
theorem cw_461 : (Jvm.Cond.fieldLink "CableStreet$Forecast" (21 : Nat) "CableStreet$Forecast" "trial" "LCableStreet$State;") ∈ gU := tb_2 (List.mem_of_getElem? (i := 221) rfl) rfl
theorem cw_462 : (Jvm.Cond.fieldLink "CableStreet$Forecast" (35 : Nat) "CableStreet$Forecast" "coastSegment" "I") ∈ gU := tb_2 (List.mem_of_getElem? (i := 222) rfl) rfl
theorem cw_463 : (Jvm.Cond.fieldLink "CableStreet" (246 : Nat) "CableStreet$Forecast" "coastSegment" "I") ∈ gU := tb_2 (List.mem_of_getElem? (i := 223) rfl) rfl
theorem cw_464 : (Jvm.Cond.fieldLink "CableStreet$Forecast" (42 : Nat) "CableStreet$Forecast" "coastMeetsRope" "Z") ∈ gU := tb_2 (List.mem_of_getElem? (i := 224) rfl) rfl
theorem cw_465 : (Jvm.Cond.fieldLink "CableStreet" (249 : Nat) "CableStreet$Forecast" "coastMeetsRope" "Z") ∈ gU := tb_2 (List.mem_of_getElem? (i := 225) rfl) rfl
theorem cw_466 : (Jvm.Cond.fieldLink "CableStreet$Forecast" (31 : Nat) "CableStreet$Forecast" "coastTicks" "I") ∈ gU := tb_2 (List.mem_of_getElem? (i := 226) rfl) rfl
theorem cw_467 : (Jvm.Cond.fieldLink "CableStreet" (252 : Nat) "CableStreet$Forecast" "coastTicks" "I") ∈ gU := tb_2 (List.mem_of_getElem? (i := 227) rfl) rfl
theorem cw_468 : (Jvm.Cond.fieldLink "CableStreet$Forecast" (126 : Nat) "CableStreet$Forecast" "powerSum" "I") ∈ gU := tb_2 (List.mem_of_getElem? (i := 228) rfl) rfl
theorem cw_469 : (Jvm.Cond.fieldLink "CableStreet" (200 : Nat) "CableStreet$Forecast" "powerSum" "I") ∈ gU := tb_2 (List.mem_of_getElem? (i := 229) rfl) rfl
theorem cw_470 : (Jvm.Cond.fieldLink "CableStreet$Forecast" (129 : Nat) "CableStreet$Forecast" "powerPeak" "I") ∈ gU := tb_2 (List.mem_of_getElem? (i := 230) rfl) rfl
theorem cw_471 : (Jvm.Cond.fieldLink "CableStreet" (266 : Nat) "CableStreet$Forecast" "powerPeak" "I") ∈ gU := tb_2 (List.mem_of_getElem? (i := 231) rfl) rfl
theorem cw_472 : (Jvm.Cond.laysFinal "CableStreet$Forecast" "CableStreet$Forecast" "machine" "LCableStreet$Machine;") ∈ gU := tb_2 (List.mem_of_getElem? (i := 232) rfl) rfl
theorem cw_474 : (Jvm.Cond.laysFinal "CableStreet$Forecast" "CableStreet$Forecast" "trial" "LCableStreet$State;") ∈ gU := tb_2 (List.mem_of_getElem? (i := 234) rfl) rfl
theorem cw_476 : (Jvm.Cond.lays "CableStreet$Forecast" "CableStreet$Forecast" "coastSegment" "I") ∈ gU := tb_2 (List.mem_of_getElem? (i := 236) rfl) rfl
theorem cw_478 : (Jvm.Cond.lays "CableStreet$Forecast" "CableStreet$Forecast" "coastMeetsRope" "Z") ∈ gU := tb_2 (List.mem_of_getElem? (i := 238) rfl) rfl
theorem cw_480 : (Jvm.Cond.lays "CableStreet$Forecast" "CableStreet$Forecast" "coastTicks" "I") ∈ gU := tb_3 (List.mem_of_getElem? (i := 0) rfl) rfl
theorem cw_482 : (Jvm.Cond.lays "CableStreet$Forecast" "CableStreet$Forecast" "powerSum" "I") ∈ gU := tb_3 (List.mem_of_getElem? (i := 2) rfl) rfl
theorem cw_484 : (Jvm.Cond.lays "CableStreet$Forecast" "CableStreet$Forecast" "powerPeak" "I") ∈ gU := tb_3 (List.mem_of_getElem? (i := 4) rfl) rfl
theorem cw_487 : (Jvm.Cond.classLink "CableStreet" (63 : Nat) "CableStreet$Logs") ∈ gU := tb_3 (List.mem_of_getElem? (i := 7) rfl) rfl
theorem cw_488 : (Jvm.Cond.instantiable "CableStreet$Logs" (9 : Nat)) ∈ gU := tb_3 (List.mem_of_getElem? (i := 8) rfl) rfl
theorem cw_490 : (Jvm.Cond.instanceMethod ({ cls := "CableStreet$Logs", name := "<init>", desc := "()V" } : Jvm.MethodName)) ∈ gU := tb_3 (List.mem_of_getElem? (i := 10) rfl) rfl
theorem cw_491 : (Jvm.Cond.code ({ cls := "CableStreet$Logs", name := "<init>", desc := "()V" } : Jvm.MethodName) prog_7_method_1_code (1 : Nat) (Option.none : Option Jvm.ClassFile.FieldType)) ∈ gU := tb_3 (List.mem_of_getElem? (i := 11) rfl) rfl
theorem cw_492 : (Jvm.Cond.methodLink "CableStreet$Logs" (3 : Nat) ({ cls := "java/lang/Object", name := "<init>", desc := "()V" } : Jvm.MethodName)) ∈ gU := tb_3 (List.mem_of_getElem? (i := 12) rfl) rfl
theorem cw_493 : (Jvm.Cond.fieldLink "CableStreet$Logs" (9 : Nat) "CableStreet$Logs" "time" "I") ∈ gU := tb_3 (List.mem_of_getElem? (i := 13) rfl) rfl
theorem cw_494 : (Jvm.Cond.fieldLink "CableStreet" (297 : Nat) "CableStreet$Logs" "time" "I") ∈ gU := tb_3 (List.mem_of_getElem? (i := 14) rfl) rfl
theorem cw_495 : (Jvm.Cond.fieldLink "CableStreet$Logs" (15 : Nat) "CableStreet$Logs" "told" "I") ∈ gU := tb_3 (List.mem_of_getElem? (i := 15) rfl) rfl
theorem cw_496 : (Jvm.Cond.fieldLink "CableStreet" (329 : Nat) "CableStreet$Logs" "told" "I") ∈ gU := tb_3 (List.mem_of_getElem? (i := 16) rfl) rfl
theorem cw_497 : (Jvm.Cond.fieldLink "CableStreet$Logs" (18 : Nat) "CableStreet$Logs" "car" "[I") ∈ gU := tb_3 (List.mem_of_getElem? (i := 17) rfl) rfl
theorem cw_498 : (Jvm.Cond.fieldLink "CableStreet$Logs" (22 : Nat) "CableStreet$Logs" "tick" "[I") ∈ gU := tb_3 (List.mem_of_getElem? (i := 18) rfl) rfl
theorem cw_499 : (Jvm.Cond.fieldLink "CableStreet$Logs" (25 : Nat) "CableStreet$Logs" "segment" "[I") ∈ gU := tb_3 (List.mem_of_getElem? (i := 19) rfl) rfl
theorem cw_500 : (Jvm.Cond.fieldLink "CableStreet$Logs" (28 : Nat) "CableStreet$Logs" "toldAt" "[I") ∈ gU := tb_3 (List.mem_of_getElem? (i := 20) rfl) rfl
theorem cw_501 : (Jvm.Cond.fieldLink "CableStreet$Logs" (31 : Nat) "CableStreet$Logs" "untoldAt" "[I") ∈ gU := tb_3 (List.mem_of_getElem? (i := 21) rfl) rfl
theorem cw_502 : (Jvm.Cond.fieldLink "CableStreet$Logs" (34 : Nat) "CableStreet$Logs" "timetable" "[I") ∈ gU := tb_3 (List.mem_of_getElem? (i := 22) rfl) rfl
theorem cw_503 : (Jvm.Cond.fieldLink "CableStreet" (303 : Nat) "CableStreet$Logs" "timetable" "[I") ∈ gU := tb_3 (List.mem_of_getElem? (i := 23) rfl) rfl
theorem cw_504 : (Jvm.Cond.fieldLink "CableStreet$Logs" (37 : Nat) "CableStreet$Logs" "timetableDrawn" "Z") ∈ gU := tb_3 (List.mem_of_getElem? (i := 24) rfl) rfl
theorem cw_505 : (Jvm.Cond.fieldLink "CableStreet" (300 : Nat) "CableStreet$Logs" "timetableDrawn" "Z") ∈ gU := tb_3 (List.mem_of_getElem? (i := 25) rfl) rfl
theorem cw_506 : (Jvm.Cond.lays "CableStreet$Logs" "CableStreet$Logs" "time" "I") ∈ gU := tb_3 (List.mem_of_getElem? (i := 26) rfl) rfl
theorem cw_508 : (Jvm.Cond.lays "CableStreet$Logs" "CableStreet$Logs" "told" "I") ∈ gU := tb_3 (List.mem_of_getElem? (i := 28) rfl) rfl
theorem cw_510 : (Jvm.Cond.laysFinal "CableStreet$Logs" "CableStreet$Logs" "car" "[I") ∈ gU := tb_3 (List.mem_of_getElem? (i := 30) rfl) rfl
theorem cw_512 : (Jvm.Cond.laysFinal "CableStreet$Logs" "CableStreet$Logs" "tick" "[I") ∈ gU := tb_3 (List.mem_of_getElem? (i := 32) rfl) rfl
theorem cw_514 : (Jvm.Cond.laysFinal "CableStreet$Logs" "CableStreet$Logs" "segment" "[I") ∈ gU := tb_3 (List.mem_of_getElem? (i := 34) rfl) rfl
theorem cw_516 : (Jvm.Cond.laysFinal "CableStreet$Logs" "CableStreet$Logs" "toldAt" "[I") ∈ gU := tb_3 (List.mem_of_getElem? (i := 36) rfl) rfl
theorem cw_518 : (Jvm.Cond.laysFinal "CableStreet$Logs" "CableStreet$Logs" "untoldAt" "[I") ∈ gU := tb_3 (List.mem_of_getElem? (i := 38) rfl) rfl
theorem cw_520 : (Jvm.Cond.laysFinal "CableStreet$Logs" "CableStreet$Logs" "timetable" "[I") ∈ gU := tb_3 (List.mem_of_getElem? (i := 40) rfl) rfl
theorem cw_522 : (Jvm.Cond.lays "CableStreet$Logs" "CableStreet$Logs" "timetableDrawn" "Z") ∈ gU := tb_3 (List.mem_of_getElem? (i := 42) rfl) rfl
theorem cw_525 : (Jvm.Cond.methodLink "CableStreet" (70 : Nat) ({ cls := "CableStreet$State", name := "begin", desc := "(LCableStreet$Plan;)V" } : Jvm.MethodName)) ∈ gU := tb_3 (List.mem_of_getElem? (i := 45) rfl) rfl
theorem cw_526 : (Jvm.Cond.instanceMethod ({ cls := "CableStreet$State", name := "begin", desc := "(LCableStreet$Plan;)V" } : Jvm.MethodName)) ∈ gU := tb_3 (List.mem_of_getElem? (i := 46) rfl) rfl
theorem cw_527 : (Jvm.Cond.selects "CableStreet$State" ({ cls := "CableStreet$State", name := "begin", desc := "(LCableStreet$Plan;)V" } : Jvm.MethodName) ({ cls := "CableStreet$State", name := "begin", desc := "(LCableStreet$Plan;)V" } : Jvm.MethodName)) ∈ gU := tb_3 (List.mem_of_getElem? (i := 47) rfl) rfl
theorem cw_528 : (Jvm.Cond.code ({ cls := "CableStreet$State", name := "begin", desc := "(LCableStreet$Plan;)V" } : Jvm.MethodName) prog_12_method_2_code (3 : Nat) (Option.none : Option Jvm.ClassFile.FieldType)) ∈ gU := tb_3 (List.mem_of_getElem? (i := 48) rfl) rfl
theorem cw_529 : (Jvm.Cond.methodLink "CableStreet$State" (60 : Nat) ({ cls := "CableStreet$Car", name := "begin", desc := "(I)V" } : Jvm.MethodName)) ∈ gU := tb_3 (List.mem_of_getElem? (i := 49) rfl) rfl
theorem cw_530 : (Jvm.Cond.instanceMethod ({ cls := "CableStreet$Car", name := "begin", desc := "(I)V" } : Jvm.MethodName)) ∈ gU := tb_3 (List.mem_of_getElem? (i := 50) rfl) rfl
theorem cw_531 : (Jvm.Cond.selects "CableStreet$Car" ({ cls := "CableStreet$Car", name := "begin", desc := "(I)V" } : Jvm.MethodName) ({ cls := "CableStreet$Car", name := "begin", desc := "(I)V" } : Jvm.MethodName)) ∈ gU := tb_3 (List.mem_of_getElem? (i := 51) rfl) rfl
theorem cw_532 : (Jvm.Cond.code ({ cls := "CableStreet$Car", name := "begin", desc := "(I)V" } : Jvm.MethodName) prog_2_method_2_code (2 : Nat) (Option.none : Option Jvm.ClassFile.FieldType)) ∈ gU := tb_3 (List.mem_of_getElem? (i := 52) rfl) rfl
theorem cw_533 : (Jvm.Cond.methodLink "CableStreet$State" (67 : Nat) ({ cls := "java/lang/System", name := "arraycopy", desc := "(Ljava/lang/Object;ILjava/lang/Object;II)V" } : Jvm.MethodName)) ∈ gU := tb_3 (List.mem_of_getElem? (i := 53) rfl) rfl
theorem cw_534 : (Jvm.Cond.static ({ cls := "java/lang/System", name := "arraycopy", desc := "(Ljava/lang/Object;ILjava/lang/Object;II)V" } : Jvm.MethodName)) ∈ gU := tb_3 (List.mem_of_getElem? (i := 54) rfl) rfl
theorem cw_535 : (Jvm.Cond.native ({ cls := "java/lang/System", name := "arraycopy", desc := "(Ljava/lang/Object;ILjava/lang/Object;II)V" } : Jvm.MethodName)) ∈ gU := tb_3 (List.mem_of_getElem? (i := 55) rfl) rfl
theorem cw_536 : (Jvm.Cond.methodLink "CableStreet$State" (73 : Nat) ({ cls := "java/util/Arrays", name := "fill", desc := "([II)V" } : Jvm.MethodName)) ∈ gU := tb_3 (List.mem_of_getElem? (i := 56) rfl) rfl
theorem cw_537 : (Jvm.Cond.methodLink "CableStreet$State" (79 : Nat) ({ cls := "CableStreet$Events", name := "clear", desc := "()V" } : Jvm.MethodName)) ∈ gU := tb_3 (List.mem_of_getElem? (i := 57) rfl) rfl
theorem cw_538 : (Jvm.Cond.instanceMethod ({ cls := "CableStreet$Events", name := "clear", desc := "()V" } : Jvm.MethodName)) ∈ gU := tb_3 (List.mem_of_getElem? (i := 58) rfl) rfl
theorem cw_539 : (Jvm.Cond.selects "CableStreet$Events" ({ cls := "CableStreet$Events", name := "clear", desc := "()V" } : Jvm.MethodName) ({ cls := "CableStreet$Events", name := "clear", desc := "()V" } : Jvm.MethodName)) ∈ gU := tb_3 (List.mem_of_getElem? (i := 59) rfl) rfl
theorem cw_540 : (Jvm.Cond.code ({ cls := "CableStreet$Events", name := "clear", desc := "()V" } : Jvm.MethodName) prog_4_method_2_code (1 : Nat) (Option.none : Option Jvm.ClassFile.FieldType)) ∈ gU := tb_3 (List.mem_of_getElem? (i := 60) rfl) rfl
theorem cw_541 : (Jvm.Cond.methodLink "CableStreet$Events" (22 : Nat) ({ cls := "java/util/Arrays", name := "fill", desc := "([II)V" } : Jvm.MethodName)) ∈ gU := tb_3 (List.mem_of_getElem? (i := 61) rfl) rfl
theorem cw_542 : (Jvm.Cond.fieldLink "CableStreet" (9 : Nat) "CableStreet" "tape" "[B") ∈ gU := tb_3 (List.mem_of_getElem? (i := 62) rfl) rfl
theorem cw_543 : (Jvm.Cond.fieldLink "CableStreet" (13 : Nat) "CableStreet" "taped" "I") ∈ gU := tb_3 (List.mem_of_getElem? (i := 63) rfl) rfl
theorem cw_544 : (Jvm.Cond.fieldLink "CableStreet" (20 : Nat) "CableStreet" "reader" "LCableStreet$Reader;") ∈ gU := tb_3 (List.mem_of_getElem? (i := 64) rfl) rfl
theorem cw_545 : (Jvm.Cond.fieldLink "CableStreet" (27 : Nat) "CableStreet" "plan" "LCableStreet$Plan;") ∈ gU := tb_3 (List.mem_of_getElem? (i := 65) rfl) rfl
theorem cw_546 : (Jvm.Cond.fieldLink "CableStreet" (31 : Nat) "CableStreet" "sparePlan" "LCableStreet$Plan;") ∈ gU := tb_3 (List.mem_of_getElem? (i := 66) rfl) rfl
theorem cw_547 : (Jvm.Cond.fieldLink "CableStreet" (37 : Nat) "CableStreet" "now" "LCableStreet$State;") ∈ gU := tb_3 (List.mem_of_getElem? (i := 67) rfl) rfl
theorem cw_548 : (Jvm.Cond.fieldLink "CableStreet" (41 : Nat) "CableStreet" "boxes" "[LCableStreet$State;") ∈ gU := tb_3 (List.mem_of_getElem? (i := 68) rfl) rfl
theorem cw_549 : (Jvm.Cond.fieldLink "CableStreet" (45 : Nat) "CableStreet" "boxFull" "[Z") ∈ gU := tb_3 (List.mem_of_getElem? (i := 69) rfl) rfl
theorem cw_550 : (Jvm.Cond.fieldLink "CableStreet" (52 : Nat) "CableStreet" "machine" "LCableStreet$Machine;") ∈ gU := tb_3 (List.mem_of_getElem? (i := 70) rfl) rfl
theorem cw_551 : (Jvm.Cond.fieldLink "CableStreet" (59 : Nat) "CableStreet" "forecast" "LCableStreet$Forecast;") ∈ gU := tb_3 (List.mem_of_getElem? (i := 71) rfl) rfl
theorem cw_552 : (Jvm.Cond.fieldLink "CableStreet" (66 : Nat) "CableStreet" "logs" "LCableStreet$Logs;") ∈ gU := tb_3 (List.mem_of_getElem? (i := 72) rfl) rfl
theorem cw_553 : (Jvm.Cond.laysFinal "CableStreet" "CableStreet" "tape" "[B") ∈ gU := tb_3 (List.mem_of_getElem? (i := 73) rfl) rfl
theorem cw_555 : (Jvm.Cond.lays "CableStreet" "CableStreet" "taped" "I") ∈ gU := tb_3 (List.mem_of_getElem? (i := 75) rfl) rfl
theorem cw_557 : (Jvm.Cond.laysFinal "CableStreet" "CableStreet" "reader" "LCableStreet$Reader;") ∈ gU := tb_3 (List.mem_of_getElem? (i := 77) rfl) rfl
theorem cw_559 : (Jvm.Cond.lays "CableStreet" "CableStreet" "plan" "LCableStreet$Plan;") ∈ gU := tb_3 (List.mem_of_getElem? (i := 79) rfl) rfl
theorem cw_561 : (Jvm.Cond.lays "CableStreet" "CableStreet" "sparePlan" "LCableStreet$Plan;") ∈ gU := tb_3 (List.mem_of_getElem? (i := 81) rfl) rfl
theorem cw_563 : (Jvm.Cond.laysFinal "CableStreet" "CableStreet" "now" "LCableStreet$State;") ∈ gU := tb_3 (List.mem_of_getElem? (i := 83) rfl) rfl
theorem cw_565 : (Jvm.Cond.laysFinal "CableStreet" "CableStreet" "boxes" "[LCableStreet$State;") ∈ gU := tb_3 (List.mem_of_getElem? (i := 85) rfl) rfl
theorem cw_567 : (Jvm.Cond.laysFinal "CableStreet" "CableStreet" "boxFull" "[Z") ∈ gU := tb_3 (List.mem_of_getElem? (i := 87) rfl) rfl
theorem cw_569 : (Jvm.Cond.laysFinal "CableStreet" "CableStreet" "machine" "LCableStreet$Machine;") ∈ gU := tb_3 (List.mem_of_getElem? (i := 89) rfl) rfl
theorem cw_571 : (Jvm.Cond.laysFinal "CableStreet" "CableStreet" "forecast" "LCableStreet$Forecast;") ∈ gU := tb_3 (List.mem_of_getElem? (i := 91) rfl) rfl
theorem cw_573 : (Jvm.Cond.laysFinal "CableStreet" "CableStreet" "logs" "LCableStreet$Logs;") ∈ gU := tb_3 (List.mem_of_getElem? (i := 93) rfl) rfl
theorem cw_576 : (Jvm.Cond.methodLink "CableStreetLaw" (13 : Nat) ({ cls := "CableStreet", name := "feed", desc := "(IIIII)I" } : Jvm.MethodName)) ∈ gU := tb_3 (List.mem_of_getElem? (i := 96) rfl) rfl
theorem cw_577 : (Jvm.Cond.instanceMethod ({ cls := "CableStreet", name := "feed", desc := "(IIIII)I" } : Jvm.MethodName)) ∈ gU := tb_3 (List.mem_of_getElem? (i := 97) rfl) rfl
theorem cw_578 : (Jvm.Cond.selects "CableStreet" ({ cls := "CableStreet", name := "feed", desc := "(IIIII)I" } : Jvm.MethodName) ({ cls := "CableStreet", name := "feed", desc := "(IIIII)I" } : Jvm.MethodName)) ∈ gU := tb_3 (List.mem_of_getElem? (i := 98) rfl) rfl
theorem cw_579 : (Jvm.Cond.code ({ cls := "CableStreet", name := "feed", desc := "(IIIII)I" } : Jvm.MethodName) prog_1_method_2_code (6 : Nat) (Option.some Jvm.ClassFile.FieldType.int)) ∈ gU := tb_3 (List.mem_of_getElem? (i := 99) rfl) rfl
theorem cw_580 : (Jvm.Cond.methodLink "CableStreet" (74 : Nat) ({ cls := "CableStreet", name := "putBytes", desc := "(I)V" } : Jvm.MethodName)) ∈ gU := tb_3 (List.mem_of_getElem? (i := 100) rfl) rfl
theorem cw_582 : (Jvm.Cond.instanceMethod ({ cls := "CableStreet", name := "putBytes", desc := "(I)V" } : Jvm.MethodName)) ∈ gU := tb_3 (List.mem_of_getElem? (i := 102) rfl) rfl
theorem cw_583 : (Jvm.Cond.code ({ cls := "CableStreet", name := "putBytes", desc := "(I)V" } : Jvm.MethodName) prog_1_method_3_code (3 : Nat) (Option.none : Option Jvm.ClassFile.FieldType)) ∈ gU := tb_3 (List.mem_of_getElem? (i := 103) rfl) rfl
theorem cw_584 : (Jvm.Cond.methodLink "CableStreetLaw" (18 : Nat) ({ cls := "CableStreet", name := "end", desc := "(I)I" } : Jvm.MethodName)) ∈ gU := tb_3 (List.mem_of_getElem? (i := 104) rfl) rfl
theorem cw_585 : (Jvm.Cond.instanceMethod ({ cls := "CableStreet", name := "end", desc := "(I)I" } : Jvm.MethodName)) ∈ gU := tb_3 (List.mem_of_getElem? (i := 105) rfl) rfl
theorem cw_586 : (Jvm.Cond.selects "CableStreet" ({ cls := "CableStreet", name := "end", desc := "(I)I" } : Jvm.MethodName) ({ cls := "CableStreet", name := "end", desc := "(I)I" } : Jvm.MethodName)) ∈ gU := tb_3 (List.mem_of_getElem? (i := 106) rfl) rfl
theorem cw_587 : (Jvm.Cond.code ({ cls := "CableStreet", name := "end", desc := "(I)I" } : Jvm.MethodName) prog_1_method_4_code (2 : Nat) (Option.some Jvm.ClassFile.FieldType.int)) ∈ gU := tb_3 (List.mem_of_getElem? (i := 107) rfl) rfl
theorem cw_588 : (Jvm.Cond.methodLink "CableStreetLaw" (23 : Nat) ({ cls := "CableStreet", name := "street", desc := "()I" } : Jvm.MethodName)) ∈ gU := tb_3 (List.mem_of_getElem? (i := 108) rfl) rfl
theorem cw_589 : (Jvm.Cond.instanceMethod ({ cls := "CableStreet", name := "street", desc := "()I" } : Jvm.MethodName)) ∈ gU := tb_3 (List.mem_of_getElem? (i := 109) rfl) rfl
theorem cw_590 : (Jvm.Cond.selects "CableStreet" ({ cls := "CableStreet", name := "street", desc := "()I" } : Jvm.MethodName) ({ cls := "CableStreet", name := "street", desc := "()I" } : Jvm.MethodName)) ∈ gU := tb_3 (List.mem_of_getElem? (i := 110) rfl) rfl
theorem cw_591 : (Jvm.Cond.code ({ cls := "CableStreet", name := "street", desc := "()I" } : Jvm.MethodName) prog_1_method_5_code (4 : Nat) (Option.some Jvm.ClassFile.FieldType.int)) ∈ gU := tb_3 (List.mem_of_getElem? (i := 111) rfl) rfl
theorem cw_592 : (Jvm.Cond.methodLink "CableStreet" (78 : Nat) ({ cls := "CableStreet$Reader", name := "open", desc := "(LCableStreet$Plan;[BI)V" } : Jvm.MethodName)) ∈ gU := tb_3 (List.mem_of_getElem? (i := 112) rfl) rfl
theorem cw_593 : (Jvm.Cond.instanceMethod ({ cls := "CableStreet$Reader", name := "open", desc := "(LCableStreet$Plan;[BI)V" } : Jvm.MethodName)) ∈ gU := tb_3 (List.mem_of_getElem? (i := 113) rfl) rfl
theorem cw_594 : (Jvm.Cond.selects "CableStreet$Reader" ({ cls := "CableStreet$Reader", name := "open", desc := "(LCableStreet$Plan;[BI)V" } : Jvm.MethodName) ({ cls := "CableStreet$Reader", name := "open", desc := "(LCableStreet$Plan;[BI)V" } : Jvm.MethodName)) ∈ gU := tb_3 (List.mem_of_getElem? (i := 114) rfl) rfl
theorem cw_595 : (Jvm.Cond.code ({ cls := "CableStreet$Reader", name := "open", desc := "(LCableStreet$Plan;[BI)V" } : Jvm.MethodName) prog_10_method_2_code (4 : Nat) (Option.none : Option Jvm.ClassFile.FieldType)) ∈ gU := tb_3 (List.mem_of_getElem? (i := 115) rfl) rfl
theorem cw_596 : (Jvm.Cond.methodLink "CableStreet$Reader" (39 : Nat) ({ cls := "CableStreet$Plan", name := "clear", desc := "()V" } : Jvm.MethodName)) ∈ gU := tb_3 (List.mem_of_getElem? (i := 116) rfl) rfl
theorem cw_597 : (Jvm.Cond.methodLink "CableStreet$Reader" (54 : Nat) ({ cls := "CableStreet$Lexer", name := "open", desc := "([BI)V" } : Jvm.MethodName)) ∈ gU := tb_3 (List.mem_of_getElem? (i := 117) rfl) rfl
theorem cw_598 : (Jvm.Cond.instanceMethod ({ cls := "CableStreet$Lexer", name := "open", desc := "([BI)V" } : Jvm.MethodName)) ∈ gU := tb_3 (List.mem_of_getElem? (i := 118) rfl) rfl
theorem cw_599 : (Jvm.Cond.selects "CableStreet$Lexer" ({ cls := "CableStreet$Lexer", name := "open", desc := "([BI)V" } : Jvm.MethodName) ({ cls := "CableStreet$Lexer", name := "open", desc := "([BI)V" } : Jvm.MethodName)) ∈ gU := tb_3 (List.mem_of_getElem? (i := 119) rfl) rfl
theorem cw_600 : (Jvm.Cond.code ({ cls := "CableStreet$Lexer", name := "open", desc := "([BI)V" } : Jvm.MethodName) prog_6_method_2_code (3 : Nat) (Option.none : Option Jvm.ClassFile.FieldType)) ∈ gU := tb_3 (List.mem_of_getElem? (i := 120) rfl) rfl
theorem cw_601 : (Jvm.Cond.methodLink "CableStreet$Lexer" (15 : Nat) ({ cls := "java/lang/Math", name := "min", desc := "(II)I" } : Jvm.MethodName)) ∈ gU := tb_3 (List.mem_of_getElem? (i := 121) rfl) rfl
theorem cw_602 : (Jvm.Cond.static ({ cls := "java/lang/Math", name := "min", desc := "(II)I" } : Jvm.MethodName)) ∈ gU := tb_3 (List.mem_of_getElem? (i := 122) rfl) rfl
theorem cw_603 : (Jvm.Cond.code ({ cls := "java/lang/Math", name := "min", desc := "(II)I" } : Jvm.MethodName) prog_17_method_69_code (2 : Nat) (Option.some Jvm.ClassFile.FieldType.int)) ∈ gU := tb_3 (List.mem_of_getElem? (i := 123) rfl) rfl
theorem cw_604 : (Jvm.Cond.methodLink "CableStreet$Lexer" (21 : Nat) ({ cls := "java/lang/Math", name := "max", desc := "(II)I" } : Jvm.MethodName)) ∈ gU := tb_3 (List.mem_of_getElem? (i := 124) rfl) rfl
theorem cw_605 : (Jvm.Cond.static ({ cls := "java/lang/Math", name := "max", desc := "(II)I" } : Jvm.MethodName)) ∈ gU := tb_3 (List.mem_of_getElem? (i := 125) rfl) rfl
theorem cw_606 : (Jvm.Cond.code ({ cls := "java/lang/Math", name := "max", desc := "(II)I" } : Jvm.MethodName) prog_17_method_65_code (2 : Nat) (Option.some Jvm.ClassFile.FieldType.int)) ∈ gU := tb_3 (List.mem_of_getElem? (i := 126) rfl) rfl
theorem cw_607 : (Jvm.Cond.methodLink "CableStreet$Lexer" (31 : Nat) ({ cls := "CableStreet$Lexer", name := "advance", desc := "()V" } : Jvm.MethodName)) ∈ gU := tb_3 (List.mem_of_getElem? (i := 127) rfl) rfl
theorem cw_608 : (Jvm.Cond.instanceMethod ({ cls := "CableStreet$Lexer", name := "advance", desc := "()V" } : Jvm.MethodName)) ∈ gU := tb_3 (List.mem_of_getElem? (i := 128) rfl) rfl
theorem cw_609 : (Jvm.Cond.selects "CableStreet$Lexer" ({ cls := "CableStreet$Lexer", name := "advance", desc := "()V" } : Jvm.MethodName) ({ cls := "CableStreet$Lexer", name := "advance", desc := "()V" } : Jvm.MethodName)) ∈ gU := tb_3 (List.mem_of_getElem? (i := 129) rfl) rfl
theorem cw_610 : (Jvm.Cond.code ({ cls := "CableStreet$Lexer", name := "advance", desc := "()V" } : Jvm.MethodName) prog_6_method_3_code (1 : Nat) (Option.none : Option Jvm.ClassFile.FieldType)) ∈ gU := tb_3 (List.mem_of_getElem? (i := 130) rfl) rfl
theorem cw_736 : (Jvm.Cond.methodLink "CableStreet" (82 : Nat) ({ cls := "CableStreet$Reader", name := "hasLine", desc := "()Z" } : Jvm.MethodName)) ∈ gU := tb_4 (List.mem_of_getElem? (i := 16) rfl) rfl
theorem cw_737 : (Jvm.Cond.instanceMethod ({ cls := "CableStreet$Reader", name := "hasLine", desc := "()Z" } : Jvm.MethodName)) ∈ gU := tb_4 (List.mem_of_getElem? (i := 17) rfl) rfl
theorem cw_738 : (Jvm.Cond.selects "CableStreet$Reader" ({ cls := "CableStreet$Reader", name := "hasLine", desc := "()Z" } : Jvm.MethodName) ({ cls := "CableStreet$Reader", name := "hasLine", desc := "()Z" } : Jvm.MethodName)) ∈ gU := tb_4 (List.mem_of_getElem? (i := 18) rfl) rfl
theorem cw_739 : (Jvm.Cond.code ({ cls := "CableStreet$Reader", name := "hasLine", desc := "()Z" } : Jvm.MethodName) prog_10_method_3_code (1 : Nat) (Option.some Jvm.ClassFile.FieldType.boolean)) ∈ gU := tb_4 (List.mem_of_getElem? (i := 19) rfl) rfl
theorem cw_795 : (Jvm.Cond.instanceMethod ({ cls := "CableStreet$Plan", name := "ropeOn", desc := "(I)I" } : Jvm.MethodName)) ∈ gU := tb_4 (List.mem_of_getElem? (i := 75) rfl) rfl
theorem cw_796 : (Jvm.Cond.selects "CableStreet$Plan" ({ cls := "CableStreet$Plan", name := "ropeOn", desc := "(I)I" } : Jvm.MethodName) ({ cls := "CableStreet$Plan", name := "ropeOn", desc := "(I)I" } : Jvm.MethodName)) ∈ gU := tb_4 (List.mem_of_getElem? (i := 76) rfl) rfl
theorem cw_797 : (Jvm.Cond.code ({ cls := "CableStreet$Plan", name := "ropeOn", desc := "(I)I" } : Jvm.MethodName) prog_9_method_8_code (2 : Nat) (Option.some Jvm.ClassFile.FieldType.int)) ∈ gU := tb_4 (List.mem_of_getElem? (i := 77) rfl) rfl
theorem cw_806 : (Jvm.Cond.methodLink "CableStreet$Plan" (87 : Nat) ({ cls := "CableStreet$Plan", name := "hasRope", desc := "(I)Z" } : Jvm.MethodName)) ∈ gU := tb_4 (List.mem_of_getElem? (i := 86) rfl) rfl
theorem cw_807 : (Jvm.Cond.instanceMethod ({ cls := "CableStreet$Plan", name := "hasRope", desc := "(I)Z" } : Jvm.MethodName)) ∈ gU := tb_4 (List.mem_of_getElem? (i := 87) rfl) rfl
theorem cw_808 : (Jvm.Cond.selects "CableStreet$Plan" ({ cls := "CableStreet$Plan", name := "hasRope", desc := "(I)Z" } : Jvm.MethodName) ({ cls := "CableStreet$Plan", name := "hasRope", desc := "(I)Z" } : Jvm.MethodName)) ∈ gU := tb_4 (List.mem_of_getElem? (i := 88) rfl) rfl
theorem cw_809 : (Jvm.Cond.code ({ cls := "CableStreet$Plan", name := "hasRope", desc := "(I)Z" } : Jvm.MethodName) prog_9_method_4_code (2 : Nat) (Option.some Jvm.ClassFile.FieldType.boolean)) ∈ gU := tb_4 (List.mem_of_getElem? (i := 89) rfl) rfl
theorem cw_826 : (Jvm.Cond.methodLink "CableStreet$Plan" (100 : Nat) ({ cls := "java/lang/Math", name := "max", desc := "(II)I" } : Jvm.MethodName)) ∈ gU := tb_4 (List.mem_of_getElem? (i := 106) rfl) rfl
theorem cw_845 : (Jvm.Cond.instanceMethod ({ cls := "CableStreet$Crosses", name := "numberOn", desc := "(I)I" } : Jvm.MethodName)) ∈ gU := tb_4 (List.mem_of_getElem? (i := 125) rfl) rfl
theorem cw_846 : (Jvm.Cond.selects "CableStreet$Crosses" ({ cls := "CableStreet$Crosses", name := "numberOn", desc := "(I)I" } : Jvm.MethodName) ({ cls := "CableStreet$Crosses", name := "numberOn", desc := "(I)I" } : Jvm.MethodName)) ∈ gU := tb_4 (List.mem_of_getElem? (i := 126) rfl) rfl
theorem cw_847 : (Jvm.Cond.code ({ cls := "CableStreet$Crosses", name := "numberOn", desc := "(I)I" } : Jvm.MethodName) prog_3_method_3_code (2 : Nat) (Option.some Jvm.ClassFile.FieldType.int)) ∈ gU := tb_4 (List.mem_of_getElem? (i := 127) rfl) rfl
theorem cw_902 : (Jvm.Cond.static ({ cls := "CableStreet$Plan", name := "isSegment", desc := "(I)Z" } : Jvm.MethodName)) ∈ gU := tb_4 (List.mem_of_getElem? (i := 182) rfl) rfl
theorem cw_903 : (Jvm.Cond.code ({ cls := "CableStreet$Plan", name := "isSegment", desc := "(I)Z" } : Jvm.MethodName) prog_9_method_3_code (1 : Nat) (Option.some Jvm.ClassFile.FieldType.boolean)) ∈ gU := tb_4 (List.mem_of_getElem? (i := 183) rfl) rfl
theorem cw_909 : (Jvm.Cond.instanceMethod ({ cls := "CableStreet$Plan", name := "mark", desc := "(II)I" } : Jvm.MethodName)) ∈ gU := tb_4 (List.mem_of_getElem? (i := 189) rfl) rfl
theorem cw_910 : (Jvm.Cond.selects "CableStreet$Plan" ({ cls := "CableStreet$Plan", name := "mark", desc := "(II)I" } : Jvm.MethodName) ({ cls := "CableStreet$Plan", name := "mark", desc := "(II)I" } : Jvm.MethodName)) ∈ gU := tb_4 (List.mem_of_getElem? (i := 190) rfl) rfl
theorem cw_911 : (Jvm.Cond.code ({ cls := "CableStreet$Plan", name := "mark", desc := "(II)I" } : Jvm.MethodName) prog_9_method_12_code (3 : Nat) (Option.some Jvm.ClassFile.FieldType.int)) ∈ gU := tb_4 (List.mem_of_getElem? (i := 191) rfl) rfl
theorem cw_912 : (Jvm.Cond.methodLink "CableStreet$Plan" (106 : Nat) ({ cls := "CableStreet$Plan", name := "isSegment", desc := "(I)Z" } : Jvm.MethodName)) ∈ gU := tb_4 (List.mem_of_getElem? (i := 192) rfl) rfl
theorem cw_921 : (Jvm.Cond.methodLink "CableStreet" (92 : Nat) ({ cls := "CableStreet$Logs", name := "forget", desc := "()V" } : Jvm.MethodName)) ∈ gU := tb_4 (List.mem_of_getElem? (i := 201) rfl) rfl
theorem cw_922 : (Jvm.Cond.instanceMethod ({ cls := "CableStreet$Logs", name := "forget", desc := "()V" } : Jvm.MethodName)) ∈ gU := tb_4 (List.mem_of_getElem? (i := 202) rfl) rfl
theorem cw_923 : (Jvm.Cond.selects "CableStreet$Logs" ({ cls := "CableStreet$Logs", name := "forget", desc := "()V" } : Jvm.MethodName) ({ cls := "CableStreet$Logs", name := "forget", desc := "()V" } : Jvm.MethodName)) ∈ gU := tb_4 (List.mem_of_getElem? (i := 203) rfl) rfl
theorem cw_924 : (Jvm.Cond.code ({ cls := "CableStreet$Logs", name := "forget", desc := "()V" } : Jvm.MethodName) prog_7_method_2_code (1 : Nat) (Option.none : Option Jvm.ClassFile.FieldType)) ∈ gU := tb_4 (List.mem_of_getElem? (i := 204) rfl) rfl
theorem cw_925 : (Jvm.Cond.methodLink "CableStreetLaw" (28 : Nat) ({ cls := "CableStreet", name := "fault", desc := "(I)I" } : Jvm.MethodName)) ∈ gU := tb_4 (List.mem_of_getElem? (i := 205) rfl) rfl
theorem cw_926 : (Jvm.Cond.instanceMethod ({ cls := "CableStreet", name := "fault", desc := "(I)I" } : Jvm.MethodName)) ∈ gU := tb_4 (List.mem_of_getElem? (i := 206) rfl) rfl
theorem cw_927 : (Jvm.Cond.selects "CableStreet" ({ cls := "CableStreet", name := "fault", desc := "(I)I" } : Jvm.MethodName) ({ cls := "CableStreet", name := "fault", desc := "(I)I" } : Jvm.MethodName)) ∈ gU := tb_4 (List.mem_of_getElem? (i := 207) rfl) rfl
theorem cw_928 : (Jvm.Cond.code ({ cls := "CableStreet", name := "fault", desc := "(I)I" } : Jvm.MethodName) prog_1_method_6_code (2 : Nat) (Option.some Jvm.ClassFile.FieldType.int)) ∈ gU := tb_4 (List.mem_of_getElem? (i := 208) rfl) rfl
theorem cw_929 : (Jvm.Cond.methodLink "CableStreetLaw" (32 : Nat) ({ cls := "CableStreet", name := "run", desc := "(I)I" } : Jvm.MethodName)) ∈ gU := tb_4 (List.mem_of_getElem? (i := 209) rfl) rfl
theorem cw_930 : (Jvm.Cond.instanceMethod ({ cls := "CableStreet", name := "run", desc := "(I)I" } : Jvm.MethodName)) ∈ gU := tb_4 (List.mem_of_getElem? (i := 210) rfl) rfl
theorem cw_931 : (Jvm.Cond.selects "CableStreet" ({ cls := "CableStreet", name := "run", desc := "(I)I" } : Jvm.MethodName) ({ cls := "CableStreet", name := "run", desc := "(I)I" } : Jvm.MethodName)) ∈ gU := tb_4 (List.mem_of_getElem? (i := 211) rfl) rfl
theorem cw_932 : (Jvm.Cond.code ({ cls := "CableStreet", name := "run", desc := "(I)I" } : Jvm.MethodName) prog_1_method_7_code (3 : Nat) (Option.some Jvm.ClassFile.FieldType.int)) ∈ gU := tb_4 (List.mem_of_getElem? (i := 212) rfl) rfl
theorem cw_933 : (Jvm.Cond.constant "CableStreet" (101 : Nat) (100000 : Int32)) ∈ gU := tb_4 (List.mem_of_getElem? (i := 213) rfl) rfl
theorem cw_934 : (Jvm.Cond.methodLink "CableStreet" (102 : Nat) ({ cls := "CableStreet$Machine", name := "tick", desc := "(LCableStreet$Plan;LCableStreet$State;)V" } : Jvm.MethodName)) ∈ gU := tb_4 (List.mem_of_getElem? (i := 214) rfl) rfl
theorem cw_935 : (Jvm.Cond.instanceMethod ({ cls := "CableStreet$Machine", name := "tick", desc := "(LCableStreet$Plan;LCableStreet$State;)V" } : Jvm.MethodName)) ∈ gU := tb_4 (List.mem_of_getElem? (i := 215) rfl) rfl
theorem cw_936 : (Jvm.Cond.selects "CableStreet$Machine" ({ cls := "CableStreet$Machine", name := "tick", desc := "(LCableStreet$Plan;LCableStreet$State;)V" } : Jvm.MethodName) ({ cls := "CableStreet$Machine", name := "tick", desc := "(LCableStreet$Plan;LCableStreet$State;)V" } : Jvm.MethodName)) ∈ gU := tb_4 (List.mem_of_getElem? (i := 216) rfl) rfl
theorem cw_937 : (Jvm.Cond.code ({ cls := "CableStreet$Machine", name := "tick", desc := "(LCableStreet$Plan;LCableStreet$State;)V" } : Jvm.MethodName) prog_8_method_2_code (5 : Nat) (Option.none : Option Jvm.ClassFile.FieldType)) ∈ gU := tb_4 (List.mem_of_getElem? (i := 217) rfl) rfl
theorem cw_938 : (Jvm.Cond.methodLink "CableStreet$Machine" (32 : Nat) ({ cls := "CableStreet$Machine", name := "dipRopes", desc := "()V" } : Jvm.MethodName)) ∈ gU := tb_4 (List.mem_of_getElem? (i := 218) rfl) rfl
theorem cw_940 : (Jvm.Cond.instanceMethod ({ cls := "CableStreet$Machine", name := "dipRopes", desc := "()V" } : Jvm.MethodName)) ∈ gU := tb_4 (List.mem_of_getElem? (i := 220) rfl) rfl
theorem cw_941 : (Jvm.Cond.code ({ cls := "CableStreet$Machine", name := "dipRopes", desc := "()V" } : Jvm.MethodName) prog_8_method_4_code (2 : Nat) (Option.none : Option Jvm.ClassFile.FieldType)) ∈ gU := tb_4 (List.mem_of_getElem? (i := 221) rfl) rfl
theorem cw_957 : (Jvm.Cond.instanceMethod ({ cls := "CableStreet$Plan", name := "grade", desc := "(I)I" } : Jvm.MethodName)) ∈ gU := tb_4 (List.mem_of_getElem? (i := 237) rfl) rfl
theorem cw_958 : (Jvm.Cond.selects "CableStreet$Plan" ({ cls := "CableStreet$Plan", name := "grade", desc := "(I)I" } : Jvm.MethodName) ({ cls := "CableStreet$Plan", name := "grade", desc := "(I)I" } : Jvm.MethodName)) ∈ gU := tb_4 (List.mem_of_getElem? (i := 238) rfl) rfl
theorem cw_959 : (Jvm.Cond.code ({ cls := "CableStreet$Plan", name := "grade", desc := "(I)I" } : Jvm.MethodName) prog_9_method_10_code (2 : Nat) (Option.some Jvm.ClassFile.FieldType.int)) ∈ gU := tb_4 (List.mem_of_getElem? (i := 239) rfl) rfl
theorem cw_969 : (Jvm.Cond.methodLink "CableStreet$Machine" (35 : Nat) ({ cls := "CableStreet$Machine", name := "moveStrand", desc := "()V" } : Jvm.MethodName)) ∈ gU := tb_5 (List.mem_of_getElem? (i := 9) rfl) rfl
theorem cw_971 : (Jvm.Cond.instanceMethod ({ cls := "CableStreet$Machine", name := "moveStrand", desc := "()V" } : Jvm.MethodName)) ∈ gU := tb_5 (List.mem_of_getElem? (i := 11) rfl) rfl
theorem cw_972 : (Jvm.Cond.code ({ cls := "CableStreet$Machine", name := "moveStrand", desc := "()V" } : Jvm.MethodName) prog_8_method_5_code (5 : Nat) (Option.none : Option Jvm.ClassFile.FieldType)) ∈ gU := tb_5 (List.mem_of_getElem? (i := 12) rfl) rfl
theorem cw_973 : (Jvm.Cond.methodLink "CableStreet$Machine" (124 : Nat) ({ cls := "CableStreet$Plan", name := "hasRope", desc := "(I)Z" } : Jvm.MethodName)) ∈ gU := tb_5 (List.mem_of_getElem? (i := 13) rfl) rfl
theorem cw_983 : (Jvm.Cond.instanceMethod ({ cls := "CableStreet$Plan", name := "hasPlace", desc := "(II)Z" } : Jvm.MethodName)) ∈ gU := tb_5 (List.mem_of_getElem? (i := 23) rfl) rfl
theorem cw_984 : (Jvm.Cond.selects "CableStreet$Plan" ({ cls := "CableStreet$Plan", name := "hasPlace", desc := "(II)Z" } : Jvm.MethodName) ({ cls := "CableStreet$Plan", name := "hasPlace", desc := "(II)Z" } : Jvm.MethodName)) ∈ gU := tb_5 (List.mem_of_getElem? (i := 24) rfl) rfl
theorem cw_985 : (Jvm.Cond.code ({ cls := "CableStreet$Plan", name := "hasPlace", desc := "(II)Z" } : Jvm.MethodName) prog_9_method_7_code (3 : Nat) (Option.some Jvm.ClassFile.FieldType.boolean)) ∈ gU := tb_5 (List.mem_of_getElem? (i := 25) rfl) rfl
theorem cw_987 : (Jvm.Cond.methodLink "CableStreet$Machine" (38 : Nat) ({ cls := "CableStreet$Machine", name := "wearSplices", desc := "()V" } : Jvm.MethodName)) ∈ gU := tb_5 (List.mem_of_getElem? (i := 27) rfl) rfl
theorem cw_989 : (Jvm.Cond.instanceMethod ({ cls := "CableStreet$Machine", name := "wearSplices", desc := "()V" } : Jvm.MethodName)) ∈ gU := tb_5 (List.mem_of_getElem? (i := 29) rfl) rfl
theorem cw_990 : (Jvm.Cond.code ({ cls := "CableStreet$Machine", name := "wearSplices", desc := "()V" } : Jvm.MethodName) prog_8_method_6_code (3 : Nat) (Option.none : Option Jvm.ClassFile.FieldType)) ∈ gU := tb_5 (List.mem_of_getElem? (i := 30) rfl) rfl
theorem cw_1021 : (Jvm.Cond.instanceMethod ({ cls := "CableStreet$Plan", name := "hasCar", desc := "(I)Z" } : Jvm.MethodName)) ∈ gU := tb_5 (List.mem_of_getElem? (i := 61) rfl) rfl
theorem cw_1022 : (Jvm.Cond.selects "CableStreet$Plan" ({ cls := "CableStreet$Plan", name := "hasCar", desc := "(I)Z" } : Jvm.MethodName) ({ cls := "CableStreet$Plan", name := "hasCar", desc := "(I)Z" } : Jvm.MethodName)) ∈ gU := tb_5 (List.mem_of_getElem? (i := 62) rfl) rfl
theorem cw_1023 : (Jvm.Cond.code ({ cls := "CableStreet$Plan", name := "hasCar", desc := "(I)Z" } : Jvm.MethodName) prog_9_method_5_code (2 : Nat) (Option.some Jvm.ClassFile.FieldType.boolean)) ∈ gU := tb_5 (List.mem_of_getElem? (i := 63) rfl) rfl
theorem cw_1024 : (Jvm.Cond.methodLink "CableStreet$Plan" (112 : Nat) ({ cls := "CableStreet$Plan", name := "grade", desc := "(I)I" } : Jvm.MethodName)) ∈ gU := tb_5 (List.mem_of_getElem? (i := 64) rfl) rfl
theorem cw_1043 : (Jvm.Cond.instanceMethod ({ cls := "CableStreet$Plan", name := "coasted", desc := "(II)I" } : Jvm.MethodName)) ∈ gU := tb_5 (List.mem_of_getElem? (i := 83) rfl) rfl
theorem cw_1044 : (Jvm.Cond.selects "CableStreet$Plan" ({ cls := "CableStreet$Plan", name := "coasted", desc := "(II)I" } : Jvm.MethodName) ({ cls := "CableStreet$Plan", name := "coasted", desc := "(II)I" } : Jvm.MethodName)) ∈ gU := tb_5 (List.mem_of_getElem? (i := 84) rfl) rfl
theorem cw_1045 : (Jvm.Cond.code ({ cls := "CableStreet$Plan", name := "coasted", desc := "(II)I" } : Jvm.MethodName) prog_9_method_16_code (4 : Nat) (Option.some Jvm.ClassFile.FieldType.int)) ∈ gU := tb_5 (List.mem_of_getElem? (i := 85) rfl) rfl
theorem cw_1046 : (Jvm.Cond.methodLink "CableStreet$Plan" (121 : Nat) ({ cls := "java/lang/Math", name := "min", desc := "(II)I" } : Jvm.MethodName)) ∈ gU := tb_5 (List.mem_of_getElem? (i := 86) rfl) rfl
theorem cw_1085 : (Jvm.Cond.methodLink "CableStreet$Machine" (79 : Nat) ({ cls := "CableStreet$Machine", name := "countBumps", desc := "()V" } : Jvm.MethodName)) ∈ gU := tb_5 (List.mem_of_getElem? (i := 125) rfl) rfl
theorem cw_1087 : (Jvm.Cond.instanceMethod ({ cls := "CableStreet$Machine", name := "countBumps", desc := "()V" } : Jvm.MethodName)) ∈ gU := tb_5 (List.mem_of_getElem? (i := 127) rfl) rfl
theorem cw_1088 : (Jvm.Cond.code ({ cls := "CableStreet$Machine", name := "countBumps", desc := "()V" } : Jvm.MethodName) prog_8_method_14_code (5 : Nat) (Option.none : Option Jvm.ClassFile.FieldType)) ∈ gU := tb_5 (List.mem_of_getElem? (i := 128) rfl) rfl
theorem cw_1102 : (Jvm.Cond.methodLink "CableStreet" (105 : Nat) ({ cls := "CableStreet$State", name := "notDone", desc := "(LCableStreet$Plan;)I" } : Jvm.MethodName)) ∈ gU := tb_5 (List.mem_of_getElem? (i := 142) rfl) rfl
theorem cw_1103 : (Jvm.Cond.instanceMethod ({ cls := "CableStreet$State", name := "notDone", desc := "(LCableStreet$Plan;)I" } : Jvm.MethodName)) ∈ gU := tb_5 (List.mem_of_getElem? (i := 143) rfl) rfl
theorem cw_1104 : (Jvm.Cond.selects "CableStreet$State" ({ cls := "CableStreet$State", name := "notDone", desc := "(LCableStreet$Plan;)I" } : Jvm.MethodName) ({ cls := "CableStreet$State", name := "notDone", desc := "(LCableStreet$Plan;)I" } : Jvm.MethodName)) ∈ gU := tb_5 (List.mem_of_getElem? (i := 144) rfl) rfl
theorem cw_1105 : (Jvm.Cond.code ({ cls := "CableStreet$State", name := "notDone", desc := "(LCableStreet$Plan;)I" } : Jvm.MethodName) prog_12_method_4_code (4 : Nat) (Option.some Jvm.ClassFile.FieldType.int)) ∈ gU := tb_5 (List.mem_of_getElem? (i := 145) rfl) rfl
theorem cw_1106 : (Jvm.Cond.methodLink "CableStreetLaw" (36 : Nat) ({ cls := "CableStreet", name := "car", desc := "(II)I" } : Jvm.MethodName)) ∈ gU := tb_5 (List.mem_of_getElem? (i := 146) rfl) rfl
theorem cw_1107 : (Jvm.Cond.instanceMethod ({ cls := "CableStreet", name := "car", desc := "(II)I" } : Jvm.MethodName)) ∈ gU := tb_5 (List.mem_of_getElem? (i := 147) rfl) rfl
theorem cw_1108 : (Jvm.Cond.selects "CableStreet" ({ cls := "CableStreet", name := "car", desc := "(II)I" } : Jvm.MethodName) ({ cls := "CableStreet", name := "car", desc := "(II)I" } : Jvm.MethodName)) ∈ gU := tb_5 (List.mem_of_getElem? (i := 148) rfl) rfl
theorem cw_1109 : (Jvm.Cond.code ({ cls := "CableStreet", name := "car", desc := "(II)I" } : Jvm.MethodName) prog_1_method_8_code (4 : Nat) (Option.some Jvm.ClassFile.FieldType.int)) ∈ gU := tb_5 (List.mem_of_getElem? (i := 149) rfl) rfl
theorem cw_1110 : (Jvm.Cond.methodLink "CableStreet" (109 : Nat) ({ cls := "CableStreet$Plan", name := "hasCar", desc := "(I)Z" } : Jvm.MethodName)) ∈ gU := tb_5 (List.mem_of_getElem? (i := 150) rfl) rfl
theorem cw_1111 : (Jvm.Cond.methodLink "CableStreetLaw" (41 : Nat) ({ cls := "CableStreet", name := "speed", desc := "(I)I" } : Jvm.MethodName)) ∈ gU := tb_5 (List.mem_of_getElem? (i := 151) rfl) rfl
theorem cw_1112 : (Jvm.Cond.instanceMethod ({ cls := "CableStreet", name := "speed", desc := "(I)I" } : Jvm.MethodName)) ∈ gU := tb_5 (List.mem_of_getElem? (i := 152) rfl) rfl
theorem cw_1113 : (Jvm.Cond.selects "CableStreet" ({ cls := "CableStreet", name := "speed", desc := "(I)I" } : Jvm.MethodName) ({ cls := "CableStreet", name := "speed", desc := "(I)I" } : Jvm.MethodName)) ∈ gU := tb_5 (List.mem_of_getElem? (i := 153) rfl) rfl
theorem cw_1114 : (Jvm.Cond.code ({ cls := "CableStreet", name := "speed", desc := "(I)I" } : Jvm.MethodName) prog_1_method_9_code (2 : Nat) (Option.some Jvm.ClassFile.FieldType.int)) ∈ gU := tb_5 (List.mem_of_getElem? (i := 154) rfl) rfl
theorem cw_1115 : (Jvm.Cond.methodLink "CableStreetLaw" (45 : Nat) ({ cls := "CableStreet", name := "rope", desc := "(II)I" } : Jvm.MethodName)) ∈ gU := tb_5 (List.mem_of_getElem? (i := 155) rfl) rfl
theorem cw_1116 : (Jvm.Cond.instanceMethod ({ cls := "CableStreet", name := "rope", desc := "(II)I" } : Jvm.MethodName)) ∈ gU := tb_5 (List.mem_of_getElem? (i := 156) rfl) rfl
theorem cw_1117 : (Jvm.Cond.selects "CableStreet" ({ cls := "CableStreet", name := "rope", desc := "(II)I" } : Jvm.MethodName) ({ cls := "CableStreet", name := "rope", desc := "(II)I" } : Jvm.MethodName)) ∈ gU := tb_5 (List.mem_of_getElem? (i := 157) rfl) rfl
theorem cw_1118 : (Jvm.Cond.code ({ cls := "CableStreet", name := "rope", desc := "(II)I" } : Jvm.MethodName) prog_1_method_10_code (3 : Nat) (Option.some Jvm.ClassFile.FieldType.int)) ∈ gU := tb_5 (List.mem_of_getElem? (i := 158) rfl) rfl
theorem cw_1119 : (Jvm.Cond.methodLink "CableStreet" (135 : Nat) ({ cls := "CableStreet$Plan", name := "hasRope", desc := "(I)Z" } : Jvm.MethodName)) ∈ gU := tb_5 (List.mem_of_getElem? (i := 159) rfl) rfl
theorem cw_1122 : (Jvm.Cond.methodLink "CableStreetLaw" (49 : Nat) ({ cls := "CableStreet", name := "count", desc := "(I)I" } : Jvm.MethodName)) ∈ gU := tb_5 (List.mem_of_getElem? (i := 162) rfl) rfl
theorem cw_1123 : (Jvm.Cond.instanceMethod ({ cls := "CableStreet", name := "count", desc := "(I)I" } : Jvm.MethodName)) ∈ gU := tb_5 (List.mem_of_getElem? (i := 163) rfl) rfl
theorem cw_1124 : (Jvm.Cond.selects "CableStreet" ({ cls := "CableStreet", name := "count", desc := "(I)I" } : Jvm.MethodName) ({ cls := "CableStreet", name := "count", desc := "(I)I" } : Jvm.MethodName)) ∈ gU := tb_5 (List.mem_of_getElem? (i := 164) rfl) rfl
theorem cw_1125 : (Jvm.Cond.code ({ cls := "CableStreet", name := "count", desc := "(I)I" } : Jvm.MethodName) prog_1_method_11_code (2 : Nat) (Option.some Jvm.ClassFile.FieldType.int)) ∈ gU := tb_5 (List.mem_of_getElem? (i := 165) rfl) rfl
theorem cw_1126 : (Jvm.Cond.methodLink "CableStreetLaw" (53 : Nat) ({ cls := "CableStreet", name := "strand", desc := "(II)Z" } : Jvm.MethodName)) ∈ gU := tb_5 (List.mem_of_getElem? (i := 166) rfl) rfl
theorem cw_1127 : (Jvm.Cond.instanceMethod ({ cls := "CableStreet", name := "strand", desc := "(II)Z" } : Jvm.MethodName)) ∈ gU := tb_5 (List.mem_of_getElem? (i := 167) rfl) rfl
theorem cw_1128 : (Jvm.Cond.selects "CableStreet" ({ cls := "CableStreet", name := "strand", desc := "(II)Z" } : Jvm.MethodName) ({ cls := "CableStreet", name := "strand", desc := "(II)Z" } : Jvm.MethodName)) ∈ gU := tb_5 (List.mem_of_getElem? (i := 168) rfl) rfl
theorem cw_1129 : (Jvm.Cond.code ({ cls := "CableStreet", name := "strand", desc := "(II)Z" } : Jvm.MethodName) prog_1_method_12_code (3 : Nat) (Option.some Jvm.ClassFile.FieldType.boolean)) ∈ gU := tb_5 (List.mem_of_getElem? (i := 169) rfl) rfl
theorem cw_1130 : (Jvm.Cond.methodLink "CableStreet" (159 : Nat) ({ cls := "CableStreet$Plan", name := "hasPlace", desc := "(II)Z" } : Jvm.MethodName)) ∈ gU := tb_5 (List.mem_of_getElem? (i := 170) rfl) rfl
theorem cw_1131 : (Jvm.Cond.methodLink "CableStreetLaw" (58 : Nat) ({ cls := "CableStreet", name := "strandNow", desc := "(I)I" } : Jvm.MethodName)) ∈ gU := tb_5 (List.mem_of_getElem? (i := 171) rfl) rfl
theorem cw_1132 : (Jvm.Cond.instanceMethod ({ cls := "CableStreet", name := "strandNow", desc := "(I)I" } : Jvm.MethodName)) ∈ gU := tb_5 (List.mem_of_getElem? (i := 172) rfl) rfl
theorem cw_1133 : (Jvm.Cond.selects "CableStreet" ({ cls := "CableStreet", name := "strandNow", desc := "(I)I" } : Jvm.MethodName) ({ cls := "CableStreet", name := "strandNow", desc := "(I)I" } : Jvm.MethodName)) ∈ gU := tb_5 (List.mem_of_getElem? (i := 173) rfl) rfl
theorem cw_1134 : (Jvm.Cond.code ({ cls := "CableStreet", name := "strandNow", desc := "(I)I" } : Jvm.MethodName) prog_1_method_13_code (2 : Nat) (Option.some Jvm.ClassFile.FieldType.int)) ∈ gU := tb_5 (List.mem_of_getElem? (i := 174) rfl) rfl
theorem cw_1136 : (Jvm.Cond.methodLink "CableStreetLaw" (62 : Nat) ({ cls := "CableStreet", name := "free", desc := "(I)Z" } : Jvm.MethodName)) ∈ gU := tb_5 (List.mem_of_getElem? (i := 176) rfl) rfl
theorem cw_1137 : (Jvm.Cond.instanceMethod ({ cls := "CableStreet", name := "free", desc := "(I)Z" } : Jvm.MethodName)) ∈ gU := tb_5 (List.mem_of_getElem? (i := 177) rfl) rfl
theorem cw_1138 : (Jvm.Cond.selects "CableStreet" ({ cls := "CableStreet", name := "free", desc := "(I)Z" } : Jvm.MethodName) ({ cls := "CableStreet", name := "free", desc := "(I)Z" } : Jvm.MethodName)) ∈ gU := tb_5 (List.mem_of_getElem? (i := 178) rfl) rfl
theorem cw_1139 : (Jvm.Cond.code ({ cls := "CableStreet", name := "free", desc := "(I)Z" } : Jvm.MethodName) prog_1_method_14_code (2 : Nat) (Option.some Jvm.ClassFile.FieldType.boolean)) ∈ gU := tb_5 (List.mem_of_getElem? (i := 179) rfl) rfl
theorem cw_1140 : (Jvm.Cond.methodLink "CableStreetLaw" (67 : Nat) ({ cls := "CableStreet", name := "splice", desc := "(II)I" } : Jvm.MethodName)) ∈ gU := tb_5 (List.mem_of_getElem? (i := 180) rfl) rfl
theorem cw_1141 : (Jvm.Cond.instanceMethod ({ cls := "CableStreet", name := "splice", desc := "(II)I" } : Jvm.MethodName)) ∈ gU := tb_5 (List.mem_of_getElem? (i := 181) rfl) rfl
theorem cw_1142 : (Jvm.Cond.selects "CableStreet" ({ cls := "CableStreet", name := "splice", desc := "(II)I" } : Jvm.MethodName) ({ cls := "CableStreet", name := "splice", desc := "(II)I" } : Jvm.MethodName)) ∈ gU := tb_5 (List.mem_of_getElem? (i := 182) rfl) rfl
theorem cw_1143 : (Jvm.Cond.code ({ cls := "CableStreet", name := "splice", desc := "(II)I" } : Jvm.MethodName) prog_1_method_15_code (3 : Nat) (Option.some Jvm.ClassFile.FieldType.int)) ∈ gU := tb_5 (List.mem_of_getElem? (i := 183) rfl) rfl
theorem cw_1144 : (Jvm.Cond.methodLink "CableStreet" (173 : Nat) ({ cls := "CableStreet$Plan", name := "hasSplice", desc := "(I)Z" } : Jvm.MethodName)) ∈ gU := tb_5 (List.mem_of_getElem? (i := 184) rfl) rfl
theorem cw_1145 : (Jvm.Cond.instanceMethod ({ cls := "CableStreet$Plan", name := "hasSplice", desc := "(I)Z" } : Jvm.MethodName)) ∈ gU := tb_5 (List.mem_of_getElem? (i := 185) rfl) rfl
theorem cw_1146 : (Jvm.Cond.selects "CableStreet$Plan" ({ cls := "CableStreet$Plan", name := "hasSplice", desc := "(I)Z" } : Jvm.MethodName) ({ cls := "CableStreet$Plan", name := "hasSplice", desc := "(I)Z" } : Jvm.MethodName)) ∈ gU := tb_5 (List.mem_of_getElem? (i := 186) rfl) rfl
theorem cw_1147 : (Jvm.Cond.code ({ cls := "CableStreet$Plan", name := "hasSplice", desc := "(I)Z" } : Jvm.MethodName) prog_9_method_6_code (2 : Nat) (Option.some Jvm.ClassFile.FieldType.boolean)) ∈ gU := tb_5 (List.mem_of_getElem? (i := 187) rfl) rfl
theorem cw_1148 : (Jvm.Cond.methodLink "CableStreetLaw" (71 : Nat) ({ cls := "CableStreet", name := "due", desc := "(I)I" } : Jvm.MethodName)) ∈ gU := tb_5 (List.mem_of_getElem? (i := 188) rfl) rfl
theorem cw_1149 : (Jvm.Cond.instanceMethod ({ cls := "CableStreet", name := "due", desc := "(I)I" } : Jvm.MethodName)) ∈ gU := tb_5 (List.mem_of_getElem? (i := 189) rfl) rfl
theorem cw_1150 : (Jvm.Cond.selects "CableStreet" ({ cls := "CableStreet", name := "due", desc := "(I)I" } : Jvm.MethodName) ({ cls := "CableStreet", name := "due", desc := "(I)I" } : Jvm.MethodName)) ∈ gU := tb_5 (List.mem_of_getElem? (i := 190) rfl) rfl
theorem cw_1151 : (Jvm.Cond.code ({ cls := "CableStreet", name := "due", desc := "(I)I" } : Jvm.MethodName) prog_1_method_16_code (2 : Nat) (Option.some Jvm.ClassFile.FieldType.int)) ∈ gU := tb_5 (List.mem_of_getElem? (i := 191) rfl) rfl
theorem cw_1152 : (Jvm.Cond.methodLink "CableStreet" (185 : Nat) ({ cls := "CableStreet$Forecast", name := "ticksTillWorn", desc := "(LCableStreet$Plan;LCableStreet$State;I)I" } : Jvm.MethodName)) ∈ gU := tb_5 (List.mem_of_getElem? (i := 192) rfl) rfl
theorem cw_1153 : (Jvm.Cond.instanceMethod ({ cls := "CableStreet$Forecast", name := "ticksTillWorn", desc := "(LCableStreet$Plan;LCableStreet$State;I)I" } : Jvm.MethodName)) ∈ gU := tb_5 (List.mem_of_getElem? (i := 193) rfl) rfl
theorem cw_1154 : (Jvm.Cond.selects "CableStreet$Forecast" ({ cls := "CableStreet$Forecast", name := "ticksTillWorn", desc := "(LCableStreet$Plan;LCableStreet$State;I)I" } : Jvm.MethodName) ({ cls := "CableStreet$Forecast", name := "ticksTillWorn", desc := "(LCableStreet$Plan;LCableStreet$State;I)I" } : Jvm.MethodName)) ∈ gU := tb_5 (List.mem_of_getElem? (i := 194) rfl) rfl
theorem cw_1155 : (Jvm.Cond.code ({ cls := "CableStreet$Forecast", name := "ticksTillWorn", desc := "(LCableStreet$Plan;LCableStreet$State;I)I" } : Jvm.MethodName) prog_5_method_6_code (6 : Nat) (Option.some Jvm.ClassFile.FieldType.int)) ∈ gU := tb_5 (List.mem_of_getElem? (i := 195) rfl) rfl
theorem cw_1156 : (Jvm.Cond.methodLink "CableStreet$Forecast" (85 : Nat) ({ cls := "CableStreet$Plan", name := "hasSplice", desc := "(I)Z" } : Jvm.MethodName)) ∈ gU := tb_5 (List.mem_of_getElem? (i := 196) rfl) rfl
theorem cw_1157 : (Jvm.Cond.methodLink "CableStreet$Forecast" (66 : Nat) ({ cls := "CableStreet$State", name := "copyFrom", desc := "(LCableStreet$State;)V" } : Jvm.MethodName)) ∈ gU := tb_5 (List.mem_of_getElem? (i := 197) rfl) rfl
theorem cw_1158 : (Jvm.Cond.instanceMethod ({ cls := "CableStreet$State", name := "copyFrom", desc := "(LCableStreet$State;)V" } : Jvm.MethodName)) ∈ gU := tb_5 (List.mem_of_getElem? (i := 198) rfl) rfl
theorem cw_1159 : (Jvm.Cond.selects "CableStreet$State" ({ cls := "CableStreet$State", name := "copyFrom", desc := "(LCableStreet$State;)V" } : Jvm.MethodName) ({ cls := "CableStreet$State", name := "copyFrom", desc := "(LCableStreet$State;)V" } : Jvm.MethodName)) ∈ gU := tb_5 (List.mem_of_getElem? (i := 199) rfl) rfl
theorem cw_1160 : (Jvm.Cond.code ({ cls := "CableStreet$State", name := "copyFrom", desc := "(LCableStreet$State;)V" } : Jvm.MethodName) prog_12_method_3_code (3 : Nat) (Option.none : Option Jvm.ClassFile.FieldType)) ∈ gU := tb_5 (List.mem_of_getElem? (i := 200) rfl) rfl
theorem cw_1161 : (Jvm.Cond.methodLink "CableStreet$State" (82 : Nat) ({ cls := "CableStreet$Car", name := "copyFrom", desc := "(LCableStreet$Car;)V" } : Jvm.MethodName)) ∈ gU := tb_5 (List.mem_of_getElem? (i := 201) rfl) rfl
theorem cw_1162 : (Jvm.Cond.instanceMethod ({ cls := "CableStreet$Car", name := "copyFrom", desc := "(LCableStreet$Car;)V" } : Jvm.MethodName)) ∈ gU := tb_5 (List.mem_of_getElem? (i := 202) rfl) rfl
theorem cw_1163 : (Jvm.Cond.selects "CableStreet$Car" ({ cls := "CableStreet$Car", name := "copyFrom", desc := "(LCableStreet$Car;)V" } : Jvm.MethodName) ({ cls := "CableStreet$Car", name := "copyFrom", desc := "(LCableStreet$Car;)V" } : Jvm.MethodName)) ∈ gU := tb_5 (List.mem_of_getElem? (i := 203) rfl) rfl
theorem cw_1164 : (Jvm.Cond.code ({ cls := "CableStreet$Car", name := "copyFrom", desc := "(LCableStreet$Car;)V" } : Jvm.MethodName) prog_2_method_3_code (2 : Nat) (Option.none : Option Jvm.ClassFile.FieldType)) ∈ gU := tb_5 (List.mem_of_getElem? (i := 204) rfl) rfl
theorem cw_1165 : (Jvm.Cond.methodLink "CableStreet$State" (86 : Nat) ({ cls := "CableStreet$Events", name := "copyFrom", desc := "(LCableStreet$Events;)V" } : Jvm.MethodName)) ∈ gU := tb_5 (List.mem_of_getElem? (i := 205) rfl) rfl
theorem cw_1166 : (Jvm.Cond.instanceMethod ({ cls := "CableStreet$Events", name := "copyFrom", desc := "(LCableStreet$Events;)V" } : Jvm.MethodName)) ∈ gU := tb_5 (List.mem_of_getElem? (i := 206) rfl) rfl
theorem cw_1167 : (Jvm.Cond.selects "CableStreet$Events" ({ cls := "CableStreet$Events", name := "copyFrom", desc := "(LCableStreet$Events;)V" } : Jvm.MethodName) ({ cls := "CableStreet$Events", name := "copyFrom", desc := "(LCableStreet$Events;)V" } : Jvm.MethodName)) ∈ gU := tb_5 (List.mem_of_getElem? (i := 207) rfl) rfl
theorem cw_1168 : (Jvm.Cond.code ({ cls := "CableStreet$Events", name := "copyFrom", desc := "(LCableStreet$Events;)V" } : Jvm.MethodName) prog_4_method_3_code (2 : Nat) (Option.none : Option Jvm.ClassFile.FieldType)) ∈ gU := tb_5 (List.mem_of_getElem? (i := 208) rfl) rfl
theorem cw_1169 : (Jvm.Cond.methodLink "CableStreet$Events" (28 : Nat) ({ cls := "java/lang/System", name := "arraycopy", desc := "(Ljava/lang/Object;ILjava/lang/Object;II)V" } : Jvm.MethodName)) ∈ gU := tb_5 (List.mem_of_getElem? (i := 209) rfl) rfl
theorem cw_1170 : (Jvm.Cond.methodLink "CableStreet$Forecast" (70 : Nat) ({ cls := "CableStreet$Plan", name := "hasRope", desc := "(I)Z" } : Jvm.MethodName)) ∈ gU := tb_5 (List.mem_of_getElem? (i := 210) rfl) rfl
theorem cw_1171 : (Jvm.Cond.methodLink "CableStreet$Forecast" (78 : Nat) ({ cls := "CableStreet$Machine", name := "tick", desc := "(LCableStreet$Plan;LCableStreet$State;)V" } : Jvm.MethodName)) ∈ gU := tb_5 (List.mem_of_getElem? (i := 211) rfl) rfl
theorem cw_1172 : (Jvm.Cond.methodLink "CableStreetLaw" (75 : Nat) ({ cls := "CableStreet", name := "cost", desc := "(II)I" } : Jvm.MethodName)) ∈ gU := tb_5 (List.mem_of_getElem? (i := 212) rfl) rfl
theorem cw_1173 : (Jvm.Cond.instanceMethod ({ cls := "CableStreet", name := "cost", desc := "(II)I" } : Jvm.MethodName)) ∈ gU := tb_5 (List.mem_of_getElem? (i := 213) rfl) rfl
theorem cw_1174 : (Jvm.Cond.selects "CableStreet" ({ cls := "CableStreet", name := "cost", desc := "(II)I" } : Jvm.MethodName) ({ cls := "CableStreet", name := "cost", desc := "(II)I" } : Jvm.MethodName)) ∈ gU := tb_5 (List.mem_of_getElem? (i := 214) rfl) rfl
theorem cw_1175 : (Jvm.Cond.code ({ cls := "CableStreet", name := "cost", desc := "(II)I" } : Jvm.MethodName) prog_1_method_17_code (5 : Nat) (Option.some Jvm.ClassFile.FieldType.int)) ∈ gU := tb_5 (List.mem_of_getElem? (i := 215) rfl) rfl
theorem cw_1176 : (Jvm.Cond.methodLink "CableStreet" (189 : Nat) ({ cls := "CableStreet$Plan", name := "mark", desc := "(II)I" } : Jvm.MethodName)) ∈ gU := tb_5 (List.mem_of_getElem? (i := 216) rfl) rfl
theorem cw_1177 : (Jvm.Cond.methodLink "CableStreet" (192 : Nat) ({ cls := "CableStreet", name := "isAhead", desc := "(I)Z" } : Jvm.MethodName)) ∈ gU := tb_5 (List.mem_of_getElem? (i := 217) rfl) rfl
theorem cw_1178 : (Jvm.Cond.static ({ cls := "CableStreet", name := "isAhead", desc := "(I)Z" } : Jvm.MethodName)) ∈ gU := tb_5 (List.mem_of_getElem? (i := 218) rfl) rfl
theorem cw_1179 : (Jvm.Cond.code ({ cls := "CableStreet", name := "isAhead", desc := "(I)Z" } : Jvm.MethodName) prog_1_method_18_code (1 : Nat) (Option.some Jvm.ClassFile.FieldType.boolean)) ∈ gU := tb_5 (List.mem_of_getElem? (i := 219) rfl) rfl
theorem cw_1180 : (Jvm.Cond.constant "CableStreet" (195 : Nat) (-1000000 : Int32)) ∈ gU := tb_5 (List.mem_of_getElem? (i := 220) rfl) rfl
theorem cw_1181 : (Jvm.Cond.methodLink "CableStreet" (196 : Nat) ({ cls := "CableStreet$Forecast", name := "drawPower", desc := "(LCableStreet$Plan;LCableStreet$State;I)V" } : Jvm.MethodName)) ∈ gU := tb_5 (List.mem_of_getElem? (i := 221) rfl) rfl
theorem cw_1182 : (Jvm.Cond.instanceMethod ({ cls := "CableStreet$Forecast", name := "drawPower", desc := "(LCableStreet$Plan;LCableStreet$State;I)V" } : Jvm.MethodName)) ∈ gU := tb_5 (List.mem_of_getElem? (i := 222) rfl) rfl
theorem cw_1183 : (Jvm.Cond.selects "CableStreet$Forecast" ({ cls := "CableStreet$Forecast", name := "drawPower", desc := "(LCableStreet$Plan;LCableStreet$State;I)V" } : Jvm.MethodName) ({ cls := "CableStreet$Forecast", name := "drawPower", desc := "(LCableStreet$Plan;LCableStreet$State;I)V" } : Jvm.MethodName)) ∈ gU := tb_5 (List.mem_of_getElem? (i := 223) rfl) rfl
theorem cw_1184 : (Jvm.Cond.code ({ cls := "CableStreet$Forecast", name := "drawPower", desc := "(LCableStreet$Plan;LCableStreet$State;I)V" } : Jvm.MethodName) prog_5_method_9_code (7 : Nat) (Option.none : Option Jvm.ClassFile.FieldType)) ∈ gU := tb_5 (List.mem_of_getElem? (i := 224) rfl) rfl
theorem cw_1186 : (Jvm.Cond.methodLink "CableStreet$Forecast" (60 : Nat) ({ cls := "java/lang/Math", name := "max", desc := "(II)I" } : Jvm.MethodName)) ∈ gU := tb_5 (List.mem_of_getElem? (i := 226) rfl) rfl
theorem cw_1188 : (Jvm.Cond.methodLink "CableStreetLaw" (79 : Nat) ({ cls := "CableStreet", name := "halt", desc := "(I)I" } : Jvm.MethodName)) ∈ gU := tb_5 (List.mem_of_getElem? (i := 228) rfl) rfl
theorem cw_1189 : (Jvm.Cond.instanceMethod ({ cls := "CableStreet", name := "halt", desc := "(I)I" } : Jvm.MethodName)) ∈ gU := tb_5 (List.mem_of_getElem? (i := 229) rfl) rfl
theorem cw_1190 : (Jvm.Cond.selects "CableStreet" ({ cls := "CableStreet", name := "halt", desc := "(I)I" } : Jvm.MethodName) ({ cls := "CableStreet", name := "halt", desc := "(I)I" } : Jvm.MethodName)) ∈ gU := tb_5 (List.mem_of_getElem? (i := 230) rfl) rfl
theorem cw_1191 : (Jvm.Cond.code ({ cls := "CableStreet", name := "halt", desc := "(I)I" } : Jvm.MethodName) prog_1_method_19_code (5 : Nat) (Option.some Jvm.ClassFile.FieldType.int)) ∈ gU := tb_5 (List.mem_of_getElem? (i := 231) rfl) rfl
theorem cw_1193 : (Jvm.Cond.methodLink "CableStreetLaw" (83 : Nat) ({ cls := "CableStreet", name := "rolls", desc := "()I" } : Jvm.MethodName)) ∈ gU := tb_5 (List.mem_of_getElem? (i := 233) rfl) rfl
theorem cw_1194 : (Jvm.Cond.instanceMethod ({ cls := "CableStreet", name := "rolls", desc := "()I" } : Jvm.MethodName)) ∈ gU := tb_5 (List.mem_of_getElem? (i := 234) rfl) rfl
theorem cw_1195 : (Jvm.Cond.selects "CableStreet" ({ cls := "CableStreet", name := "rolls", desc := "()I" } : Jvm.MethodName) ({ cls := "CableStreet", name := "rolls", desc := "()I" } : Jvm.MethodName)) ∈ gU := tb_5 (List.mem_of_getElem? (i := 235) rfl) rfl
theorem cw_1196 : (Jvm.Cond.code ({ cls := "CableStreet", name := "rolls", desc := "()I" } : Jvm.MethodName) prog_1_method_20_code (4 : Nat) (Option.some Jvm.ClassFile.FieldType.int)) ∈ gU := tb_5 (List.mem_of_getElem? (i := 236) rfl) rfl
theorem cw_1199 : (Jvm.Cond.methodLink "CableStreetLaw" (87 : Nat) ({ cls := "CableStreet", name := "trips", desc := "(I)I" } : Jvm.MethodName)) ∈ gU := tb_5 (List.mem_of_getElem? (i := 239) rfl) rfl
theorem cw_1200 : (Jvm.Cond.instanceMethod ({ cls := "CableStreet", name := "trips", desc := "(I)I" } : Jvm.MethodName)) ∈ gU := tb_6 (List.mem_of_getElem? (i := 0) rfl) rfl
theorem cw_1201 : (Jvm.Cond.selects "CableStreet" ({ cls := "CableStreet", name := "trips", desc := "(I)I" } : Jvm.MethodName) ({ cls := "CableStreet", name := "trips", desc := "(I)I" } : Jvm.MethodName)) ∈ gU := tb_6 (List.mem_of_getElem? (i := 1) rfl) rfl
theorem cw_1202 : (Jvm.Cond.code ({ cls := "CableStreet", name := "trips", desc := "(I)I" } : Jvm.MethodName) prog_1_method_21_code (2 : Nat) (Option.some Jvm.ClassFile.FieldType.int)) ∈ gU := tb_6 (List.mem_of_getElem? (i := 2) rfl) rfl
theorem cw_1203 : (Jvm.Cond.methodLink "CableStreetLaw" (91 : Nat) ({ cls := "CableStreet", name := "asks", desc := "(II)I" } : Jvm.MethodName)) ∈ gU := tb_6 (List.mem_of_getElem? (i := 3) rfl) rfl
theorem cw_1204 : (Jvm.Cond.instanceMethod ({ cls := "CableStreet", name := "asks", desc := "(II)I" } : Jvm.MethodName)) ∈ gU := tb_6 (List.mem_of_getElem? (i := 4) rfl) rfl
theorem cw_1205 : (Jvm.Cond.selects "CableStreet" ({ cls := "CableStreet", name := "asks", desc := "(II)I" } : Jvm.MethodName) ({ cls := "CableStreet", name := "asks", desc := "(II)I" } : Jvm.MethodName)) ∈ gU := tb_6 (List.mem_of_getElem? (i := 5) rfl) rfl
theorem cw_1206 : (Jvm.Cond.code ({ cls := "CableStreet", name := "asks", desc := "(II)I" } : Jvm.MethodName) prog_1_method_22_code (4 : Nat) (Option.some Jvm.ClassFile.FieldType.int)) ∈ gU := tb_6 (List.mem_of_getElem? (i := 6) rfl) rfl
theorem cw_1207 : (Jvm.Cond.methodLink "CableStreet" (226 : Nat) ({ cls := "CableStreet$Crosses", name := "numberOn", desc := "(I)I" } : Jvm.MethodName)) ∈ gU := tb_6 (List.mem_of_getElem? (i := 7) rfl) rfl
theorem cw_1212 : (Jvm.Cond.methodLink "CableStreetLaw" (95 : Nat) ({ cls := "CableStreet", name := "event", desc := "(II)I" } : Jvm.MethodName)) ∈ gU := tb_6 (List.mem_of_getElem? (i := 12) rfl) rfl
theorem cw_1213 : (Jvm.Cond.instanceMethod ({ cls := "CableStreet", name := "event", desc := "(II)I" } : Jvm.MethodName)) ∈ gU := tb_6 (List.mem_of_getElem? (i := 13) rfl) rfl
theorem cw_1214 : (Jvm.Cond.selects "CableStreet" ({ cls := "CableStreet", name := "event", desc := "(II)I" } : Jvm.MethodName) ({ cls := "CableStreet", name := "event", desc := "(II)I" } : Jvm.MethodName)) ∈ gU := tb_6 (List.mem_of_getElem? (i := 14) rfl) rfl
theorem cw_1215 : (Jvm.Cond.code ({ cls := "CableStreet", name := "event", desc := "(II)I" } : Jvm.MethodName) prog_1_method_23_code (3 : Nat) (Option.some Jvm.ClassFile.FieldType.int)) ∈ gU := tb_6 (List.mem_of_getElem? (i := 15) rfl) rfl
theorem cw_1216 : (Jvm.Cond.methodLink "CableStreet" (236 : Nat) ({ cls := "CableStreet$Events", name := "cell", desc := "(II)I" } : Jvm.MethodName)) ∈ gU := tb_6 (List.mem_of_getElem? (i := 16) rfl) rfl
theorem cw_1217 : (Jvm.Cond.instanceMethod ({ cls := "CableStreet$Events", name := "cell", desc := "(II)I" } : Jvm.MethodName)) ∈ gU := tb_6 (List.mem_of_getElem? (i := 17) rfl) rfl
theorem cw_1218 : (Jvm.Cond.selects "CableStreet$Events" ({ cls := "CableStreet$Events", name := "cell", desc := "(II)I" } : Jvm.MethodName) ({ cls := "CableStreet$Events", name := "cell", desc := "(II)I" } : Jvm.MethodName)) ∈ gU := tb_6 (List.mem_of_getElem? (i := 18) rfl) rfl
theorem cw_1219 : (Jvm.Cond.code ({ cls := "CableStreet$Events", name := "cell", desc := "(II)I" } : Jvm.MethodName) prog_4_method_5_code (3 : Nat) (Option.some Jvm.ClassFile.FieldType.int)) ∈ gU := tb_6 (List.mem_of_getElem? (i := 19) rfl) rfl
theorem cw_1220 : (Jvm.Cond.methodLink "CableStreetLaw" (99 : Nat) ({ cls := "CableStreet", name := "coasts", desc := "(III)I" } : Jvm.MethodName)) ∈ gU := tb_6 (List.mem_of_getElem? (i := 20) rfl) rfl
theorem cw_1221 : (Jvm.Cond.instanceMethod ({ cls := "CableStreet", name := "coasts", desc := "(III)I" } : Jvm.MethodName)) ∈ gU := tb_6 (List.mem_of_getElem? (i := 21) rfl) rfl
theorem cw_1222 : (Jvm.Cond.selects "CableStreet" ({ cls := "CableStreet", name := "coasts", desc := "(III)I" } : Jvm.MethodName) ({ cls := "CableStreet", name := "coasts", desc := "(III)I" } : Jvm.MethodName)) ∈ gU := tb_6 (List.mem_of_getElem? (i := 22) rfl) rfl
theorem cw_1223 : (Jvm.Cond.code ({ cls := "CableStreet", name := "coasts", desc := "(III)I" } : Jvm.MethodName) prog_1_method_24_code (4 : Nat) (Option.some Jvm.ClassFile.FieldType.int)) ∈ gU := tb_6 (List.mem_of_getElem? (i := 23) rfl) rfl
theorem cw_1224 : (Jvm.Cond.methodLink "CableStreet" (239 : Nat) ({ cls := "CableStreet$Plan", name := "isSegment", desc := "(I)Z" } : Jvm.MethodName)) ∈ gU := tb_6 (List.mem_of_getElem? (i := 24) rfl) rfl
theorem cw_1225 : (Jvm.Cond.methodLink "CableStreet" (242 : Nat) ({ cls := "CableStreet$Forecast", name := "followCoast", desc := "(LCableStreet$Plan;II)V" } : Jvm.MethodName)) ∈ gU := tb_6 (List.mem_of_getElem? (i := 25) rfl) rfl
theorem cw_1226 : (Jvm.Cond.instanceMethod ({ cls := "CableStreet$Forecast", name := "followCoast", desc := "(LCableStreet$Plan;II)V" } : Jvm.MethodName)) ∈ gU := tb_6 (List.mem_of_getElem? (i := 26) rfl) rfl
theorem cw_1227 : (Jvm.Cond.selects "CableStreet$Forecast" ({ cls := "CableStreet$Forecast", name := "followCoast", desc := "(LCableStreet$Plan;II)V" } : Jvm.MethodName) ({ cls := "CableStreet$Forecast", name := "followCoast", desc := "(LCableStreet$Plan;II)V" } : Jvm.MethodName)) ∈ gU := tb_6 (List.mem_of_getElem? (i := 27) rfl) rfl
theorem cw_1228 : (Jvm.Cond.code ({ cls := "CableStreet$Forecast", name := "followCoast", desc := "(LCableStreet$Plan;II)V" } : Jvm.MethodName) prog_5_method_2_code (8 : Nat) (Option.none : Option Jvm.ClassFile.FieldType)) ∈ gU := tb_6 (List.mem_of_getElem? (i := 28) rfl) rfl
theorem cw_1229 : (Jvm.Cond.methodLink "CableStreet$Forecast" (25 : Nat) ({ cls := "CableStreet$Plan", name := "coasted", desc := "(II)I" } : Jvm.MethodName)) ∈ gU := tb_6 (List.mem_of_getElem? (i := 29) rfl) rfl
theorem cw_1230 : (Jvm.Cond.methodLink "CableStreet$Forecast" (38 : Nat) ({ cls := "CableStreet$Plan", name := "ropeOn", desc := "(I)I" } : Jvm.MethodName)) ∈ gU := tb_6 (List.mem_of_getElem? (i := 30) rfl) rfl
theorem cw_1231 : (Jvm.Cond.methodLink "CableStreet$Forecast" (46 : Nat) ({ cls := "java/lang/Integer", name := "signum", desc := "(I)I" } : Jvm.MethodName)) ∈ gU := tb_6 (List.mem_of_getElem? (i := 31) rfl) rfl
theorem cw_1232 : (Jvm.Cond.static ({ cls := "java/lang/Integer", name := "signum", desc := "(I)I" } : Jvm.MethodName)) ∈ gU := tb_6 (List.mem_of_getElem? (i := 32) rfl) rfl
theorem cw_1233 : (Jvm.Cond.code ({ cls := "java/lang/Integer", name := "signum", desc := "(I)I" } : Jvm.MethodName) prog_16_method_56_code (1 : Nat) (Option.some Jvm.ClassFile.FieldType.int)) ∈ gU := tb_6 (List.mem_of_getElem? (i := 33) rfl) rfl
theorem cw_1234 : (Jvm.Cond.methodLink "CableStreetLaw" (104 : Nat) ({ cls := "CableStreet", name := "need", desc := "(I)I" } : Jvm.MethodName)) ∈ gU := tb_6 (List.mem_of_getElem? (i := 34) rfl) rfl
theorem cw_1235 : (Jvm.Cond.instanceMethod ({ cls := "CableStreet", name := "need", desc := "(I)I" } : Jvm.MethodName)) ∈ gU := tb_6 (List.mem_of_getElem? (i := 35) rfl) rfl
theorem cw_1236 : (Jvm.Cond.selects "CableStreet" ({ cls := "CableStreet", name := "need", desc := "(I)I" } : Jvm.MethodName) ({ cls := "CableStreet", name := "need", desc := "(I)I" } : Jvm.MethodName)) ∈ gU := tb_6 (List.mem_of_getElem? (i := 36) rfl) rfl
theorem cw_1237 : (Jvm.Cond.code ({ cls := "CableStreet", name := "need", desc := "(I)I" } : Jvm.MethodName) prog_1_method_25_code (2 : Nat) (Option.some Jvm.ClassFile.FieldType.int)) ∈ gU := tb_6 (List.mem_of_getElem? (i := 37) rfl) rfl
theorem cw_1238 : (Jvm.Cond.methodLink "CableStreet" (255 : Nat) ({ cls := "CableStreet$Forecast", name := "leastSpeedToRope", desc := "(LCableStreet$Plan;I)I" } : Jvm.MethodName)) ∈ gU := tb_6 (List.mem_of_getElem? (i := 38) rfl) rfl
theorem cw_1239 : (Jvm.Cond.instanceMethod ({ cls := "CableStreet$Forecast", name := "leastSpeedToRope", desc := "(LCableStreet$Plan;I)I" } : Jvm.MethodName)) ∈ gU := tb_6 (List.mem_of_getElem? (i := 39) rfl) rfl
theorem cw_1240 : (Jvm.Cond.selects "CableStreet$Forecast" ({ cls := "CableStreet$Forecast", name := "leastSpeedToRope", desc := "(LCableStreet$Plan;I)I" } : Jvm.MethodName) ({ cls := "CableStreet$Forecast", name := "leastSpeedToRope", desc := "(LCableStreet$Plan;I)I" } : Jvm.MethodName)) ∈ gU := tb_6 (List.mem_of_getElem? (i := 40) rfl) rfl
theorem cw_1241 : (Jvm.Cond.code ({ cls := "CableStreet$Forecast", name := "leastSpeedToRope", desc := "(LCableStreet$Plan;I)I" } : Jvm.MethodName) prog_5_method_3_code (4 : Nat) (Option.some Jvm.ClassFile.FieldType.int)) ∈ gU := tb_6 (List.mem_of_getElem? (i := 41) rfl) rfl
theorem cw_1242 : (Jvm.Cond.methodLink "CableStreet$Forecast" (51 : Nat) ({ cls := "CableStreet$Forecast", name := "followCoast", desc := "(LCableStreet$Plan;II)V" } : Jvm.MethodName)) ∈ gU := tb_6 (List.mem_of_getElem? (i := 42) rfl) rfl
theorem cw_1243 : (Jvm.Cond.methodLink "CableStreetLaw" (108 : Nat) ({ cls := "CableStreet", name := "takes", desc := "()I" } : Jvm.MethodName)) ∈ gU := tb_6 (List.mem_of_getElem? (i := 43) rfl) rfl
theorem cw_1244 : (Jvm.Cond.instanceMethod ({ cls := "CableStreet", name := "takes", desc := "()I" } : Jvm.MethodName)) ∈ gU := tb_6 (List.mem_of_getElem? (i := 44) rfl) rfl
theorem cw_1245 : (Jvm.Cond.selects "CableStreet" ({ cls := "CableStreet", name := "takes", desc := "()I" } : Jvm.MethodName) ({ cls := "CableStreet", name := "takes", desc := "()I" } : Jvm.MethodName)) ∈ gU := tb_6 (List.mem_of_getElem? (i := 45) rfl) rfl
theorem cw_1246 : (Jvm.Cond.code ({ cls := "CableStreet", name := "takes", desc := "()I" } : Jvm.MethodName) prog_1_method_26_code (1 : Nat) (Option.some Jvm.ClassFile.FieldType.int)) ∈ gU := tb_6 (List.mem_of_getElem? (i := 46) rfl) rfl
theorem cw_1247 : (Jvm.Cond.methodLink "CableStreet" (258 : Nat) ({ cls := "CableStreet$Forecast", name := "carOfStrand", desc := "(LCableStreet$Plan;LCableStreet$State;)I" } : Jvm.MethodName)) ∈ gU := tb_6 (List.mem_of_getElem? (i := 47) rfl) rfl
theorem cw_1248 : (Jvm.Cond.instanceMethod ({ cls := "CableStreet$Forecast", name := "carOfStrand", desc := "(LCableStreet$Plan;LCableStreet$State;)I" } : Jvm.MethodName)) ∈ gU := tb_6 (List.mem_of_getElem? (i := 48) rfl) rfl
theorem cw_1249 : (Jvm.Cond.selects "CableStreet$Forecast" ({ cls := "CableStreet$Forecast", name := "carOfStrand", desc := "(LCableStreet$Plan;LCableStreet$State;)I" } : Jvm.MethodName) ({ cls := "CableStreet$Forecast", name := "carOfStrand", desc := "(LCableStreet$Plan;LCableStreet$State;)I" } : Jvm.MethodName)) ∈ gU := tb_6 (List.mem_of_getElem? (i := 49) rfl) rfl
theorem cw_1250 : (Jvm.Cond.code ({ cls := "CableStreet$Forecast", name := "carOfStrand", desc := "(LCableStreet$Plan;LCableStreet$State;)I" } : Jvm.MethodName) prog_5_method_5_code (5 : Nat) (Option.some Jvm.ClassFile.FieldType.int)) ∈ gU := tb_6 (List.mem_of_getElem? (i := 50) rfl) rfl
theorem cw_1251 : (Jvm.Cond.methodLink "CableStreetLaw" (112 : Nat) ({ cls := "CableStreet", name := "head", desc := "(I)I" } : Jvm.MethodName)) ∈ gU := tb_6 (List.mem_of_getElem? (i := 51) rfl) rfl
theorem cw_1252 : (Jvm.Cond.instanceMethod ({ cls := "CableStreet", name := "head", desc := "(I)I" } : Jvm.MethodName)) ∈ gU := tb_6 (List.mem_of_getElem? (i := 52) rfl) rfl
theorem cw_1253 : (Jvm.Cond.selects "CableStreet" ({ cls := "CableStreet", name := "head", desc := "(I)I" } : Jvm.MethodName) ({ cls := "CableStreet", name := "head", desc := "(I)I" } : Jvm.MethodName)) ∈ gU := tb_6 (List.mem_of_getElem? (i := 53) rfl) rfl
theorem cw_1254 : (Jvm.Cond.code ({ cls := "CableStreet", name := "head", desc := "(I)I" } : Jvm.MethodName) prog_1_method_27_code (2 : Nat) (Option.some Jvm.ClassFile.FieldType.int)) ∈ gU := tb_6 (List.mem_of_getElem? (i := 54) rfl) rfl
theorem cw_1255 : (Jvm.Cond.methodLink "CableStreet" (262 : Nat) ({ cls := "CableStreet$Forecast", name := "leastGapIfWaits", desc := "(LCableStreet$Plan;LCableStreet$State;III)I" } : Jvm.MethodName)) ∈ gU := tb_6 (List.mem_of_getElem? (i := 55) rfl) rfl
theorem cw_1256 : (Jvm.Cond.instanceMethod ({ cls := "CableStreet$Forecast", name := "leastGapIfWaits", desc := "(LCableStreet$Plan;LCableStreet$State;III)I" } : Jvm.MethodName)) ∈ gU := tb_6 (List.mem_of_getElem? (i := 56) rfl) rfl
theorem cw_1257 : (Jvm.Cond.selects "CableStreet$Forecast" ({ cls := "CableStreet$Forecast", name := "leastGapIfWaits", desc := "(LCableStreet$Plan;LCableStreet$State;III)I" } : Jvm.MethodName) ({ cls := "CableStreet$Forecast", name := "leastGapIfWaits", desc := "(LCableStreet$Plan;LCableStreet$State;III)I" } : Jvm.MethodName)) ∈ gU := tb_6 (List.mem_of_getElem? (i := 57) rfl) rfl
theorem cw_1258 : (Jvm.Cond.code ({ cls := "CableStreet$Forecast", name := "leastGapIfWaits", desc := "(LCableStreet$Plan;LCableStreet$State;III)I" } : Jvm.MethodName) prog_5_method_7_code (9 : Nat) (Option.some Jvm.ClassFile.FieldType.int)) ∈ gU := tb_6 (List.mem_of_getElem? (i := 58) rfl) rfl
theorem cw_1265 : (Jvm.Cond.methodLink "CableStreet$Forecast" (111 : Nat) ({ cls := "CableStreet$Forecast", name := "gapNow", desc := "(LCableStreet$Plan;)I" } : Jvm.MethodName)) ∈ gU := tb_6 (List.mem_of_getElem? (i := 65) rfl) rfl
theorem cw_1267 : (Jvm.Cond.instanceMethod ({ cls := "CableStreet$Forecast", name := "gapNow", desc := "(LCableStreet$Plan;)I" } : Jvm.MethodName)) ∈ gU := tb_6 (List.mem_of_getElem? (i := 67) rfl) rfl
theorem cw_1268 : (Jvm.Cond.code ({ cls := "CableStreet$Forecast", name := "gapNow", desc := "(LCableStreet$Plan;)I" } : Jvm.MethodName) prog_5_method_8_code (6 : Nat) (Option.some Jvm.ClassFile.FieldType.int)) ∈ gU := tb_6 (List.mem_of_getElem? (i := 68) rfl) rfl
theorem cw_1271 : (Jvm.Cond.methodLink "CableStreetLaw" (116 : Nat) ({ cls := "CableStreet", name := "spread", desc := "(II)I" } : Jvm.MethodName)) ∈ gU := tb_6 (List.mem_of_getElem? (i := 71) rfl) rfl
theorem cw_1272 : (Jvm.Cond.instanceMethod ({ cls := "CableStreet", name := "spread", desc := "(II)I" } : Jvm.MethodName)) ∈ gU := tb_6 (List.mem_of_getElem? (i := 72) rfl) rfl
theorem cw_1273 : (Jvm.Cond.selects "CableStreet" ({ cls := "CableStreet", name := "spread", desc := "(II)I" } : Jvm.MethodName) ({ cls := "CableStreet", name := "spread", desc := "(II)I" } : Jvm.MethodName)) ∈ gU := tb_6 (List.mem_of_getElem? (i := 73) rfl) rfl
theorem cw_1274 : (Jvm.Cond.code ({ cls := "CableStreet", name := "spread", desc := "(II)I" } : Jvm.MethodName) prog_1_method_28_code (7 : Nat) (Option.some Jvm.ClassFile.FieldType.int)) ∈ gU := tb_6 (List.mem_of_getElem? (i := 74) rfl) rfl
theorem cw_1275 : (Jvm.Cond.methodLink "CableStreetLaw" (120 : Nat) ({ cls := "CableStreet", name := "power", desc := "(II)I" } : Jvm.MethodName)) ∈ gU := tb_6 (List.mem_of_getElem? (i := 75) rfl) rfl
theorem cw_1276 : (Jvm.Cond.instanceMethod ({ cls := "CableStreet", name := "power", desc := "(II)I" } : Jvm.MethodName)) ∈ gU := tb_6 (List.mem_of_getElem? (i := 76) rfl) rfl
theorem cw_1277 : (Jvm.Cond.selects "CableStreet" ({ cls := "CableStreet", name := "power", desc := "(II)I" } : Jvm.MethodName) ({ cls := "CableStreet", name := "power", desc := "(II)I" } : Jvm.MethodName)) ∈ gU := tb_6 (List.mem_of_getElem? (i := 77) rfl) rfl
theorem cw_1278 : (Jvm.Cond.code ({ cls := "CableStreet", name := "power", desc := "(II)I" } : Jvm.MethodName) prog_1_method_29_code (3 : Nat) (Option.some Jvm.ClassFile.FieldType.int)) ∈ gU := tb_6 (List.mem_of_getElem? (i := 78) rfl) rfl
theorem cw_1279 : (Jvm.Cond.methodLink "CableStreetLaw" (124 : Nat) ({ cls := "CableStreet", name := "runaway", desc := "(II)I" } : Jvm.MethodName)) ∈ gU := tb_6 (List.mem_of_getElem? (i := 79) rfl) rfl
theorem cw_1280 : (Jvm.Cond.instanceMethod ({ cls := "CableStreet", name := "runaway", desc := "(II)I" } : Jvm.MethodName)) ∈ gU := tb_6 (List.mem_of_getElem? (i := 80) rfl) rfl
theorem cw_1281 : (Jvm.Cond.selects "CableStreet" ({ cls := "CableStreet", name := "runaway", desc := "(II)I" } : Jvm.MethodName) ({ cls := "CableStreet", name := "runaway", desc := "(II)I" } : Jvm.MethodName)) ∈ gU := tb_6 (List.mem_of_getElem? (i := 81) rfl) rfl
theorem cw_1282 : (Jvm.Cond.code ({ cls := "CableStreet", name := "runaway", desc := "(II)I" } : Jvm.MethodName) prog_1_method_30_code (3 : Nat) (Option.some Jvm.ClassFile.FieldType.int)) ∈ gU := tb_6 (List.mem_of_getElem? (i := 82) rfl) rfl
theorem cw_1287 : (Jvm.Cond.methodLink "CableStreetLaw" (128 : Nat) ({ cls := "CableStreet", name := "order", desc := "(I)I" } : Jvm.MethodName)) ∈ gU := tb_6 (List.mem_of_getElem? (i := 87) rfl) rfl
theorem cw_1288 : (Jvm.Cond.instanceMethod ({ cls := "CableStreet", name := "order", desc := "(I)I" } : Jvm.MethodName)) ∈ gU := tb_6 (List.mem_of_getElem? (i := 88) rfl) rfl
theorem cw_1289 : (Jvm.Cond.selects "CableStreet" ({ cls := "CableStreet", name := "order", desc := "(I)I" } : Jvm.MethodName) ({ cls := "CableStreet", name := "order", desc := "(I)I" } : Jvm.MethodName)) ∈ gU := tb_6 (List.mem_of_getElem? (i := 89) rfl) rfl
theorem cw_1290 : (Jvm.Cond.code ({ cls := "CableStreet", name := "order", desc := "(I)I" } : Jvm.MethodName) prog_1_method_31_code (3 : Nat) (Option.some Jvm.ClassFile.FieldType.int)) ∈ gU := tb_6 (List.mem_of_getElem? (i := 90) rfl) rfl
theorem cw_1296 : (Jvm.Cond.methodLink "CableStreetLaw" (132 : Nat) ({ cls := "CableStreet", name := "where", desc := "(III)I" } : Jvm.MethodName)) ∈ gU := tb_6 (List.mem_of_getElem? (i := 96) rfl) rfl
theorem cw_1297 : (Jvm.Cond.instanceMethod ({ cls := "CableStreet", name := "where", desc := "(III)I" } : Jvm.MethodName)) ∈ gU := tb_6 (List.mem_of_getElem? (i := 97) rfl) rfl
theorem cw_1298 : (Jvm.Cond.selects "CableStreet" ({ cls := "CableStreet", name := "where", desc := "(III)I" } : Jvm.MethodName) ({ cls := "CableStreet", name := "where", desc := "(III)I" } : Jvm.MethodName)) ∈ gU := tb_6 (List.mem_of_getElem? (i := 98) rfl) rfl
theorem cw_1299 : (Jvm.Cond.code ({ cls := "CableStreet", name := "where", desc := "(III)I" } : Jvm.MethodName) prog_1_method_33_code (5 : Nat) (Option.some Jvm.ClassFile.FieldType.int)) ∈ gU := tb_6 (List.mem_of_getElem? (i := 99) rfl) rfl
theorem cw_1301 : (Jvm.Cond.methodLink "CableStreetLaw" (136 : Nat) ({ cls := "CableStreet", name := "log", desc := "(III)I" } : Jvm.MethodName)) ∈ gU := tb_6 (List.mem_of_getElem? (i := 101) rfl) rfl
theorem cw_1302 : (Jvm.Cond.instanceMethod ({ cls := "CableStreet", name := "log", desc := "(III)I" } : Jvm.MethodName)) ∈ gU := tb_6 (List.mem_of_getElem? (i := 102) rfl) rfl
theorem cw_1303 : (Jvm.Cond.selects "CableStreet" ({ cls := "CableStreet", name := "log", desc := "(III)I" } : Jvm.MethodName) ({ cls := "CableStreet", name := "log", desc := "(III)I" } : Jvm.MethodName)) ∈ gU := tb_6 (List.mem_of_getElem? (i := 103) rfl) rfl
theorem cw_1304 : (Jvm.Cond.code ({ cls := "CableStreet", name := "log", desc := "(III)I" } : Jvm.MethodName) prog_1_method_34_code (4 : Nat) (Option.some Jvm.ClassFile.FieldType.int)) ∈ gU := tb_6 (List.mem_of_getElem? (i := 104) rfl) rfl
theorem cw_1309 : (Jvm.Cond.methodLink "CableStreetLaw" (140 : Nat) ({ cls := "CableStreet", name := "untell", desc := "(I)Z" } : Jvm.MethodName)) ∈ gU := tb_6 (List.mem_of_getElem? (i := 109) rfl) rfl
theorem cw_1310 : (Jvm.Cond.instanceMethod ({ cls := "CableStreet", name := "untell", desc := "(I)Z" } : Jvm.MethodName)) ∈ gU := tb_6 (List.mem_of_getElem? (i := 110) rfl) rfl
theorem cw_1311 : (Jvm.Cond.selects "CableStreet" ({ cls := "CableStreet", name := "untell", desc := "(I)Z" } : Jvm.MethodName) ({ cls := "CableStreet", name := "untell", desc := "(I)Z" } : Jvm.MethodName)) ∈ gU := tb_6 (List.mem_of_getElem? (i := 111) rfl) rfl
theorem cw_1312 : (Jvm.Cond.code ({ cls := "CableStreet", name := "untell", desc := "(I)Z" } : Jvm.MethodName) prog_1_method_35_code (2 : Nat) (Option.some Jvm.ClassFile.FieldType.boolean)) ∈ gU := tb_6 (List.mem_of_getElem? (i := 112) rfl) rfl
theorem cw_1313 : (Jvm.Cond.methodLink "CableStreet" (294 : Nat) ({ cls := "CableStreet$Logs", name := "takeBack", desc := "(I)Z" } : Jvm.MethodName)) ∈ gU := tb_6 (List.mem_of_getElem? (i := 113) rfl) rfl
theorem cw_1314 : (Jvm.Cond.instanceMethod ({ cls := "CableStreet$Logs", name := "takeBack", desc := "(I)Z" } : Jvm.MethodName)) ∈ gU := tb_6 (List.mem_of_getElem? (i := 114) rfl) rfl
theorem cw_1315 : (Jvm.Cond.selects "CableStreet$Logs" ({ cls := "CableStreet$Logs", name := "takeBack", desc := "(I)Z" } : Jvm.MethodName) ({ cls := "CableStreet$Logs", name := "takeBack", desc := "(I)Z" } : Jvm.MethodName)) ∈ gU := tb_6 (List.mem_of_getElem? (i := 115) rfl) rfl
theorem cw_1316 : (Jvm.Cond.code ({ cls := "CableStreet$Logs", name := "takeBack", desc := "(I)Z" } : Jvm.MethodName) prog_7_method_4_code (2 : Nat) (Option.some Jvm.ClassFile.FieldType.boolean)) ∈ gU := tb_6 (List.mem_of_getElem? (i := 116) rfl) rfl
theorem cw_1317 : (Jvm.Cond.methodLink "CableStreetLaw" (144 : Nat) ({ cls := "CableStreet", name := "later", desc := "(I)I" } : Jvm.MethodName)) ∈ gU := tb_6 (List.mem_of_getElem? (i := 117) rfl) rfl
theorem cw_1318 : (Jvm.Cond.instanceMethod ({ cls := "CableStreet", name := "later", desc := "(I)I" } : Jvm.MethodName)) ∈ gU := tb_6 (List.mem_of_getElem? (i := 118) rfl) rfl
theorem cw_1319 : (Jvm.Cond.selects "CableStreet" ({ cls := "CableStreet", name := "later", desc := "(I)I" } : Jvm.MethodName) ({ cls := "CableStreet", name := "later", desc := "(I)I" } : Jvm.MethodName)) ∈ gU := tb_6 (List.mem_of_getElem? (i := 119) rfl) rfl
theorem cw_1320 : (Jvm.Cond.code ({ cls := "CableStreet", name := "later", desc := "(I)I" } : Jvm.MethodName) prog_1_method_36_code (2 : Nat) (Option.some Jvm.ClassFile.FieldType.int)) ∈ gU := tb_6 (List.mem_of_getElem? (i := 120) rfl) rfl
theorem cw_1321 : (Jvm.Cond.methodLink "CableStreetLaw" (148 : Nat) ({ cls := "CableStreet", name := "judge", desc := "(II)I" } : Jvm.MethodName)) ∈ gU := tb_6 (List.mem_of_getElem? (i := 121) rfl) rfl
theorem cw_1322 : (Jvm.Cond.instanceMethod ({ cls := "CableStreet", name := "judge", desc := "(II)I" } : Jvm.MethodName)) ∈ gU := tb_6 (List.mem_of_getElem? (i := 122) rfl) rfl
theorem cw_1323 : (Jvm.Cond.selects "CableStreet" ({ cls := "CableStreet", name := "judge", desc := "(II)I" } : Jvm.MethodName) ({ cls := "CableStreet", name := "judge", desc := "(II)I" } : Jvm.MethodName)) ∈ gU := tb_6 (List.mem_of_getElem? (i := 123) rfl) rfl
theorem cw_1324 : (Jvm.Cond.code ({ cls := "CableStreet", name := "judge", desc := "(II)I" } : Jvm.MethodName) prog_1_method_37_code (3 : Nat) (Option.some Jvm.ClassFile.FieldType.int)) ∈ gU := tb_6 (List.mem_of_getElem? (i := 124) rfl) rfl
theorem cw_1325 : (Jvm.Cond.methodLink "CableStreet" (306 : Nat) ({ cls := "CableStreet$Forecast", name := "drawTimetable", desc := "(LCableStreet$Plan;[I)V" } : Jvm.MethodName)) ∈ gU := tb_6 (List.mem_of_getElem? (i := 125) rfl) rfl
theorem cw_1326 : (Jvm.Cond.instanceMethod ({ cls := "CableStreet$Forecast", name := "drawTimetable", desc := "(LCableStreet$Plan;[I)V" } : Jvm.MethodName)) ∈ gU := tb_6 (List.mem_of_getElem? (i := 126) rfl) rfl
theorem cw_1327 : (Jvm.Cond.selects "CableStreet$Forecast" ({ cls := "CableStreet$Forecast", name := "drawTimetable", desc := "(LCableStreet$Plan;[I)V" } : Jvm.MethodName) ({ cls := "CableStreet$Forecast", name := "drawTimetable", desc := "(LCableStreet$Plan;[I)V" } : Jvm.MethodName)) ∈ gU := tb_6 (List.mem_of_getElem? (i := 127) rfl) rfl
theorem cw_1328 : (Jvm.Cond.code ({ cls := "CableStreet$Forecast", name := "drawTimetable", desc := "(LCableStreet$Plan;[I)V" } : Jvm.MethodName) prog_5_method_10_code (6 : Nat) (Option.none : Option Jvm.ClassFile.FieldType)) ∈ gU := tb_6 (List.mem_of_getElem? (i := 128) rfl) rfl
theorem cw_1329 : (Jvm.Cond.methodLink "CableStreet$Forecast" (139 : Nat) ({ cls := "CableStreet$State", name := "begin", desc := "(LCableStreet$Plan;)V" } : Jvm.MethodName)) ∈ gU := tb_6 (List.mem_of_getElem? (i := 129) rfl) rfl
theorem cw_1331 : (Jvm.Cond.methodLink "CableStreet" (310 : Nat) ({ cls := "CableStreet$Logs", name := "falseOnes", desc := "(I)I" } : Jvm.MethodName)) ∈ gU := tb_6 (List.mem_of_getElem? (i := 131) rfl) rfl
theorem cw_1332 : (Jvm.Cond.instanceMethod ({ cls := "CableStreet$Logs", name := "falseOnes", desc := "(I)I" } : Jvm.MethodName)) ∈ gU := tb_6 (List.mem_of_getElem? (i := 132) rfl) rfl
theorem cw_1333 : (Jvm.Cond.selects "CableStreet$Logs" ({ cls := "CableStreet$Logs", name := "falseOnes", desc := "(I)I" } : Jvm.MethodName) ({ cls := "CableStreet$Logs", name := "falseOnes", desc := "(I)I" } : Jvm.MethodName)) ∈ gU := tb_6 (List.mem_of_getElem? (i := 133) rfl) rfl
theorem cw_1334 : (Jvm.Cond.code ({ cls := "CableStreet$Logs", name := "falseOnes", desc := "(I)I" } : Jvm.MethodName) prog_7_method_7_code (4 : Nat) (Option.some Jvm.ClassFile.FieldType.int)) ∈ gU := tb_6 (List.mem_of_getElem? (i := 134) rfl) rfl
theorem cw_1343 : (Jvm.Cond.methodLink "CableStreet" (313 : Nat) ({ cls := "CableStreet$Logs", name := "firstFalse", desc := "(I)I" } : Jvm.MethodName)) ∈ gU := tb_6 (List.mem_of_getElem? (i := 143) rfl) rfl
theorem cw_1344 : (Jvm.Cond.instanceMethod ({ cls := "CableStreet$Logs", name := "firstFalse", desc := "(I)I" } : Jvm.MethodName)) ∈ gU := tb_6 (List.mem_of_getElem? (i := 144) rfl) rfl
theorem cw_1345 : (Jvm.Cond.selects "CableStreet$Logs" ({ cls := "CableStreet$Logs", name := "firstFalse", desc := "(I)I" } : Jvm.MethodName) ({ cls := "CableStreet$Logs", name := "firstFalse", desc := "(I)I" } : Jvm.MethodName)) ∈ gU := tb_6 (List.mem_of_getElem? (i := 145) rfl) rfl
theorem cw_1346 : (Jvm.Cond.code ({ cls := "CableStreet$Logs", name := "firstFalse", desc := "(I)I" } : Jvm.MethodName) prog_7_method_8_code (3 : Nat) (Option.some Jvm.ClassFile.FieldType.int)) ∈ gU := tb_6 (List.mem_of_getElem? (i := 146) rfl) rfl
theorem cw_1347 : (Jvm.Cond.methodLink "CableStreetLaw" (152 : Nat) ({ cls := "CableStreet", name := "logged", desc := "(II)I" } : Jvm.MethodName)) ∈ gU := tb_6 (List.mem_of_getElem? (i := 147) rfl) rfl
theorem cw_1348 : (Jvm.Cond.instanceMethod ({ cls := "CableStreet", name := "logged", desc := "(II)I" } : Jvm.MethodName)) ∈ gU := tb_6 (List.mem_of_getElem? (i := 148) rfl) rfl
theorem cw_1349 : (Jvm.Cond.selects "CableStreet" ({ cls := "CableStreet", name := "logged", desc := "(II)I" } : Jvm.MethodName) ({ cls := "CableStreet", name := "logged", desc := "(II)I" } : Jvm.MethodName)) ∈ gU := tb_6 (List.mem_of_getElem? (i := 149) rfl) rfl
theorem cw_1350 : (Jvm.Cond.code ({ cls := "CableStreet", name := "logged", desc := "(II)I" } : Jvm.MethodName) prog_1_method_38_code (3 : Nat) (Option.some Jvm.ClassFile.FieldType.int)) ∈ gU := tb_6 (List.mem_of_getElem? (i := 150) rfl) rfl
theorem cw_1359 : (Jvm.Cond.methodLink "CableStreetLaw" (156 : Nat) ({ cls := "CableStreet", name := "image", desc := "(I)I" } : Jvm.MethodName)) ∈ gU := tb_6 (List.mem_of_getElem? (i := 159) rfl) rfl
theorem cw_1360 : (Jvm.Cond.instanceMethod ({ cls := "CableStreet", name := "image", desc := "(I)I" } : Jvm.MethodName)) ∈ gU := tb_6 (List.mem_of_getElem? (i := 160) rfl) rfl
theorem cw_1361 : (Jvm.Cond.selects "CableStreet" ({ cls := "CableStreet", name := "image", desc := "(I)I" } : Jvm.MethodName) ({ cls := "CableStreet", name := "image", desc := "(I)I" } : Jvm.MethodName)) ∈ gU := tb_6 (List.mem_of_getElem? (i := 161) rfl) rfl
theorem cw_1362 : (Jvm.Cond.code ({ cls := "CableStreet", name := "image", desc := "(I)I" } : Jvm.MethodName) prog_1_method_39_code (2 : Nat) (Option.some Jvm.ClassFile.FieldType.int)) ∈ gU := tb_6 (List.mem_of_getElem? (i := 162) rfl) rfl
theorem cw_1363 : (Jvm.Cond.methodLink "CableStreet" (319 : Nat) ({ cls := "CableStreet$State", name := "copyFrom", desc := "(LCableStreet$State;)V" } : Jvm.MethodName)) ∈ gU := tb_6 (List.mem_of_getElem? (i := 163) rfl) rfl
theorem cw_1364 : (Jvm.Cond.methodLink "CableStreetLaw" (160 : Nat) ({ cls := "CableStreet", name := "back", desc := "(I)I" } : Jvm.MethodName)) ∈ gU := tb_6 (List.mem_of_getElem? (i := 164) rfl) rfl
theorem cw_1365 : (Jvm.Cond.instanceMethod ({ cls := "CableStreet", name := "back", desc := "(I)I" } : Jvm.MethodName)) ∈ gU := tb_6 (List.mem_of_getElem? (i := 165) rfl) rfl
theorem cw_1366 : (Jvm.Cond.selects "CableStreet" ({ cls := "CableStreet", name := "back", desc := "(I)I" } : Jvm.MethodName) ({ cls := "CableStreet", name := "back", desc := "(I)I" } : Jvm.MethodName)) ∈ gU := tb_6 (List.mem_of_getElem? (i := 166) rfl) rfl
theorem cw_1367 : (Jvm.Cond.code ({ cls := "CableStreet", name := "back", desc := "(I)I" } : Jvm.MethodName) prog_1_method_40_code (2 : Nat) (Option.some Jvm.ClassFile.FieldType.int)) ∈ gU := tb_6 (List.mem_of_getElem? (i := 167) rfl) rfl
theorem cw_1368 : (Jvm.Cond.methodLink "CableStreetLaw" (164 : Nat) ({ cls := "CableStreet", name := "about", desc := "(I)I" } : Jvm.MethodName)) ∈ gU := tb_6 (List.mem_of_getElem? (i := 168) rfl) rfl
theorem cw_1369 : (Jvm.Cond.instanceMethod ({ cls := "CableStreet", name := "about", desc := "(I)I" } : Jvm.MethodName)) ∈ gU := tb_6 (List.mem_of_getElem? (i := 169) rfl) rfl
theorem cw_1370 : (Jvm.Cond.selects "CableStreet" ({ cls := "CableStreet", name := "about", desc := "(I)I" } : Jvm.MethodName) ({ cls := "CableStreet", name := "about", desc := "(I)I" } : Jvm.MethodName)) ∈ gU := tb_6 (List.mem_of_getElem? (i := 170) rfl) rfl
theorem cw_1371 : (Jvm.Cond.code ({ cls := "CableStreet", name := "about", desc := "(I)I" } : Jvm.MethodName) prog_1_method_41_code (2 : Nat) (Option.some Jvm.ClassFile.FieldType.int)) ∈ gU := tb_6 (List.mem_of_getElem? (i := 171) rfl) rfl
theorem cw_1372 : (Jvm.Cond.classLink "CableStreetLaw" (10 : Nat) "CableStreetModel") ∈ gU := tb_6 (List.mem_of_getElem? (i := 172) rfl) rfl
theorem cw_1373 : (Jvm.Cond.instantiable "CableStreetModel" (113 : Nat)) ∈ gU := tb_6 (List.mem_of_getElem? (i := 173) rfl) rfl
theorem cw_1374 : (Jvm.Cond.methodLink "CableStreetLaw" (12 : Nat) ({ cls := "CableStreetModel", name := "<init>", desc := "()V" } : Jvm.MethodName)) ∈ gU := tb_6 (List.mem_of_getElem? (i := 174) rfl) rfl
theorem cw_1375 : (Jvm.Cond.instanceMethod ({ cls := "CableStreetModel", name := "<init>", desc := "()V" } : Jvm.MethodName)) ∈ gU := tb_6 (List.mem_of_getElem? (i := 175) rfl) rfl
theorem cw_1376 : (Jvm.Cond.code ({ cls := "CableStreetModel", name := "<init>", desc := "()V" } : Jvm.MethodName) prog_14_method_1_code (2 : Nat) (Option.none : Option Jvm.ClassFile.FieldType)) ∈ gU := tb_6 (List.mem_of_getElem? (i := 176) rfl) rfl
theorem cw_1377 : (Jvm.Cond.methodLink "CableStreetModel" (1 : Nat) ({ cls := "java/lang/Object", name := "<init>", desc := "()V" } : Jvm.MethodName)) ∈ gU := tb_6 (List.mem_of_getElem? (i := 177) rfl) rfl
theorem cw_1378 : (Jvm.Cond.methodLink "CableStreetModel" (254 : Nat) ({ cls := "CableStreetModel", name := "clearBank", desc := "()V" } : Jvm.MethodName)) ∈ gU := tb_6 (List.mem_of_getElem? (i := 178) rfl) rfl
theorem cw_1380 : (Jvm.Cond.instanceMethod ({ cls := "CableStreetModel", name := "clearBank", desc := "()V" } : Jvm.MethodName)) ∈ gU := tb_6 (List.mem_of_getElem? (i := 180) rfl) rfl
theorem cw_1381 : (Jvm.Cond.code ({ cls := "CableStreetModel", name := "clearBank", desc := "()V" } : Jvm.MethodName) prog_14_method_16_code (2 : Nat) (Option.none : Option Jvm.ClassFile.FieldType)) ∈ gU := tb_6 (List.mem_of_getElem? (i := 181) rfl) rfl
theorem cw_1382 : (Jvm.Cond.methodLink "CableStreetModel" (257 : Nat) ({ cls := "CableStreetModel", name := "begin", desc := "()V" } : Jvm.MethodName)) ∈ gU := tb_6 (List.mem_of_getElem? (i := 182) rfl) rfl
theorem cw_1384 : (Jvm.Cond.instanceMethod ({ cls := "CableStreetModel", name := "begin", desc := "()V" } : Jvm.MethodName)) ∈ gU := tb_6 (List.mem_of_getElem? (i := 184) rfl) rfl
theorem cw_1385 : (Jvm.Cond.code ({ cls := "CableStreetModel", name := "begin", desc := "()V" } : Jvm.MethodName) prog_14_method_55_code (2 : Nat) (Option.none : Option Jvm.ClassFile.FieldType)) ∈ gU := tb_6 (List.mem_of_getElem? (i := 185) rfl) rfl
theorem cw_1386 : (Jvm.Cond.fieldLink "CableStreetModel" (7 : Nat) "CableStreetModel" "tape" "[B") ∈ gU := tb_6 (List.mem_of_getElem? (i := 186) rfl) rfl
theorem cw_1387 : (Jvm.Cond.fieldLink "CableStreetModel" (13 : Nat) "CableStreetModel" "text" "[B") ∈ gU := tb_6 (List.mem_of_getElem? (i := 187) rfl) rfl
theorem cw_1388 : (Jvm.Cond.fieldLink "CableStreetModel" (383 : Nat) "CableStreetModel" "taped" "I") ∈ gU := tb_6 (List.mem_of_getElem? (i := 188) rfl) rfl
theorem cw_1389 : (Jvm.Cond.fieldLink "CableStreetModel" (260 : Nat) "CableStreetModel" "size" "I") ∈ gU := tb_6 (List.mem_of_getElem? (i := 189) rfl) rfl
theorem cw_1390 : (Jvm.Cond.fieldLink "CableStreetModel" (263 : Nat) "CableStreetModel" "faultKind" "I") ∈ gU := tb_6 (List.mem_of_getElem? (i := 190) rfl) rfl
theorem cw_1391 : (Jvm.Cond.fieldLink "CableStreetModel" (16 : Nat) "CableStreetModel" "faultPlace" "I") ∈ gU := tb_6 (List.mem_of_getElem? (i := 191) rfl) rfl
theorem cw_1392 : (Jvm.Cond.fieldLink "CableStreetModel" (329 : Nat) "CableStreetModel" "at" "I") ∈ gU := tb_6 (List.mem_of_getElem? (i := 192) rfl) rfl
theorem cw_1393 : (Jvm.Cond.fieldLink "CableStreetModel" (326 : Nat) "CableStreetModel" "end" "I") ∈ gU := tb_6 (List.mem_of_getElem? (i := 193) rfl) rfl
theorem cw_1394 : (Jvm.Cond.fieldLink "CableStreetModel" (336 : Nat) "CableStreetModel" "token" "I") ∈ gU := tb_6 (List.mem_of_getElem? (i := 194) rfl) rfl
theorem cw_1397 : (Jvm.Cond.fieldLink "CableStreetModel" (20 : Nat) "CableStreetModel" "ropes" "[I") ∈ gU := tb_6 (List.mem_of_getElem? (i := 197) rfl) rfl
theorem cw_1398 : (Jvm.Cond.fieldLink "CableStreetModel" (24 : Nat) "CableStreetModel" "cars" "[I") ∈ gU := tb_6 (List.mem_of_getElem? (i := 198) rfl) rfl
theorem cw_1399 : (Jvm.Cond.fieldLink "CableStreetModel" (27 : Nat) "CableStreetModel" "grades" "[I") ∈ gU := tb_6 (List.mem_of_getElem? (i := 199) rfl) rfl
theorem cw_1400 : (Jvm.Cond.fieldLink "CableStreetModel" (30 : Nat) "CableStreetModel" "marks" "[I") ∈ gU := tb_6 (List.mem_of_getElem? (i := 200) rfl) rfl
theorem cw_1401 : (Jvm.Cond.fieldLink "CableStreetModel" (33 : Nat) "CableStreetModel" "lines" "[I") ∈ gU := tb_6 (List.mem_of_getElem? (i := 201) rfl) rfl
theorem cw_1402 : (Jvm.Cond.fieldLink "CableStreetModel" (36 : Nat) "CableStreetModel" "drag" "[I") ∈ gU := tb_6 (List.mem_of_getElem? (i := 202) rfl) rfl
theorem cw_1403 : (Jvm.Cond.fieldLink "CableStreetModel" (39 : Nat) "CableStreetModel" "brake" "[I") ∈ gU := tb_6 (List.mem_of_getElem? (i := 203) rfl) rfl
theorem cw_1404 : (Jvm.Cond.fieldLink "CableStreetModel" (42 : Nat) "CableStreetModel" "isDrag" "[Z") ∈ gU := tb_6 (List.mem_of_getElem? (i := 204) rfl) rfl
theorem cw_1405 : (Jvm.Cond.fieldLink "CableStreetModel" (46 : Nat) "CableStreetModel" "isBrake" "[Z") ∈ gU := tb_6 (List.mem_of_getElem? (i := 205) rfl) rfl
theorem cw_1406 : (Jvm.Cond.fieldLink "CableStreetModel" (49 : Nat) "CableStreetModel" "isMark" "[Z") ∈ gU := tb_6 (List.mem_of_getElem? (i := 206) rfl) rfl
theorem cw_1407 : (Jvm.Cond.fieldLink "CableStreetModel" (52 : Nat) "CableStreetModel" "rName" "[J") ∈ gU := tb_6 (List.mem_of_getElem? (i := 207) rfl) rfl
theorem cw_1408 : (Jvm.Cond.fieldLink "CableStreetModel" (56 : Nat) "CableStreetModel" "cName" "[J") ∈ gU := tb_6 (List.mem_of_getElem? (i := 208) rfl) rfl
theorem cw_1409 : (Jvm.Cond.fieldLink "CableStreetModel" (59 : Nat) "CableStreetModel" "rSpeed" "[I") ∈ gU := tb_6 (List.mem_of_getElem? (i := 209) rfl) rfl
theorem cw_1410 : (Jvm.Cond.fieldLink "CableStreetModel" (62 : Nat) "CableStreetModel" "rLong" "[I") ∈ gU := tb_6 (List.mem_of_getElem? (i := 210) rfl) rfl
theorem cw_1411 : (Jvm.Cond.fieldLink "CableStreetModel" (65 : Nat) "CableStreetModel" "rFrom" "[I") ∈ gU := tb_6 (List.mem_of_getElem? (i := 211) rfl) rfl
theorem cw_1412 : (Jvm.Cond.fieldLink "CableStreetModel" (68 : Nat) "CableStreetModel" "rTo" "[I") ∈ gU := tb_6 (List.mem_of_getElem? (i := 212) rfl) rfl
theorem cw_1413 : (Jvm.Cond.fieldLink "CableStreetModel" (71 : Nat) "CableStreetModel" "rBears" "[I") ∈ gU := tb_6 (List.mem_of_getElem? (i := 213) rfl) rfl
theorem cw_1414 : (Jvm.Cond.fieldLink "CableStreetModel" (74 : Nat) "CableStreetModel" "grade" "[I") ∈ gU := tb_6 (List.mem_of_getElem? (i := 214) rfl) rfl
theorem cw_1415 : (Jvm.Cond.fieldLink "CableStreetModel" (77 : Nat) "CableStreetModel" "ropeOn" "[I") ∈ gU := tb_6 (List.mem_of_getElem? (i := 215) rfl) rfl
theorem cw_1416 : (Jvm.Cond.fieldLink "CableStreetModel" (80 : Nat) "CableStreetModel" "stopFor" "[I") ∈ gU := tb_6 (List.mem_of_getElem? (i := 216) rfl) rfl
theorem cw_1417 : (Jvm.Cond.fieldLink "CableStreetModel" (83 : Nat) "CableStreetModel" "cAt" "[I") ∈ gU := tb_6 (List.mem_of_getElem? (i := 217) rfl) rfl
theorem cw_1418 : (Jvm.Cond.fieldLink "CableStreetModel" (86 : Nat) "CableStreetModel" "weighs" "[I") ∈ gU := tb_6 (List.mem_of_getElem? (i := 218) rfl) rfl
theorem cw_1419 : (Jvm.Cond.fieldLink "CableStreetModel" (89 : Nat) "CableStreetModel" "splices" "[I") ∈ gU := tb_6 (List.mem_of_getElem? (i := 219) rfl) rfl
theorem cw_1420 : (Jvm.Cond.fieldLink "CableStreetModel" (92 : Nat) "CableStreetModel" "turn" "[I") ∈ gU := tb_6 (List.mem_of_getElem? (i := 220) rfl) rfl
theorem cw_1421 : (Jvm.Cond.fieldLink "CableStreetModel" (95 : Nat) "CableStreetModel" "crosses" "[I") ∈ gU := tb_6 (List.mem_of_getElem? (i := 221) rfl) rfl
theorem cw_1422 : (Jvm.Cond.fieldLink "CableStreetModel" (98 : Nat) "CableStreetModel" "unitsOf" "[I") ∈ gU := tb_6 (List.mem_of_getElem? (i := 222) rfl) rfl
theorem cw_1423 : (Jvm.Cond.fieldLink "CableStreetModel" (101 : Nat) "CableStreetModel" "pRope" "[I") ∈ gU := tb_6 (List.mem_of_getElem? (i := 223) rfl) rfl
theorem cw_1424 : (Jvm.Cond.fieldLink "CableStreetModel" (104 : Nat) "CableStreetModel" "pAt" "[I") ∈ gU := tb_6 (List.mem_of_getElem? (i := 224) rfl) rfl
theorem cw_1425 : (Jvm.Cond.fieldLink "CableStreetModel" (107 : Nat) "CableStreetModel" "pLasts" "[I") ∈ gU := tb_6 (List.mem_of_getElem? (i := 225) rfl) rfl
theorem cw_1426 : (Jvm.Cond.fieldLink "CableStreetModel" (110 : Nat) "CableStreetModel" "xOn" "[I") ∈ gU := tb_6 (List.mem_of_getElem? (i := 226) rfl) rfl
theorem cw_1427 : (Jvm.Cond.fieldLink "CableStreetModel" (113 : Nat) "CableStreetModel" "uFrom" "[I") ∈ gU := tb_6 (List.mem_of_getElem? (i := 227) rfl) rfl
theorem cw_1428 : (Jvm.Cond.fieldLink "CableStreetModel" (116 : Nat) "CableStreetModel" "uTo" "[I") ∈ gU := tb_6 (List.mem_of_getElem? (i := 228) rfl) rfl
theorem cw_1429 : (Jvm.Cond.fieldLink "CableStreetModel" (119 : Nat) "CableStreetModel" "pName" "[J") ∈ gU := tb_6 (List.mem_of_getElem? (i := 229) rfl) rfl
theorem cw_1430 : (Jvm.Cond.fieldLink "CableStreetModel" (386 : Nat) "CableStreetModel" "bank" "I") ∈ gU := tb_6 (List.mem_of_getElem? (i := 230) rfl) rfl
theorem cw_1431 : (Jvm.Cond.fieldLink "CableStreetModel" (377 : Nat) "CableStreetModel" "rb" "I") ∈ gU := tb_6 (List.mem_of_getElem? (i := 231) rfl) rfl
theorem cw_1432 : (Jvm.Cond.fieldLink "CableStreetModel" (122 : Nat) "CableStreetModel" "code" "[I") ∈ gU := tb_6 (List.mem_of_getElem? (i := 232) rfl) rfl
theorem cw_1433 : (Jvm.Cond.fieldLink "CableStreetModel" (125 : Nat) "CableStreetModel" "codeNumber" "[I") ∈ gU := tb_6 (List.mem_of_getElem? (i := 233) rfl) rfl
theorem cw_1434 : (Jvm.Cond.fieldLink "CableStreetModel" (128 : Nat) "CableStreetModel" "eWhat" "[I") ∈ gU := tb_6 (List.mem_of_getElem? (i := 234) rfl) rfl
theorem cw_1435 : (Jvm.Cond.fieldLink "CableStreetModel" (131 : Nat) "CableStreetModel" "eSign" "[I") ∈ gU := tb_6 (List.mem_of_getElem? (i := 235) rfl) rfl
theorem cw_1436 : (Jvm.Cond.fieldLink "CableStreetModel" (134 : Nat) "CableStreetModel" "pile" "[I") ∈ gU := tb_6 (List.mem_of_getElem? (i := 236) rfl) rfl
theorem cw_1437 : (Jvm.Cond.fieldLink "CableStreetModel" (380 : Nat) "CableStreetModel" "codes" "I") ∈ gU := tb_6 (List.mem_of_getElem? (i := 237) rfl) rfl
theorem cw_1440 : (Jvm.Cond.fieldLink "CableStreetModel" (137 : Nat) "CableStreetModel" "x" "[I") ∈ gU := tb_7 (List.mem_of_getElem? (i := 0) rfl) rfl
theorem cw_1441 : (Jvm.Cond.fieldLink "CableStreetModel" (140 : Nat) "CableStreetModel" "v" "[I") ∈ gU := tb_7 (List.mem_of_getElem? (i := 1) rfl) rfl
theorem cw_1442 : (Jvm.Cond.fieldLink "CableStreetModel" (143 : Nat) "CableStreetModel" "mode" "[I") ∈ gU := tb_7 (List.mem_of_getElem? (i := 2) rfl) rfl
theorem cw_1443 : (Jvm.Cond.fieldLink "CableStreetModel" (146 : Nat) "CableStreetModel" "waits" "[I") ∈ gU := tb_7 (List.mem_of_getElem? (i := 3) rfl) rfl
theorem cw_1444 : (Jvm.Cond.fieldLink "CableStreetModel" (149 : Nat) "CableStreetModel" "gripped" "[I") ∈ gU := tb_7 (List.mem_of_getElem? (i := 4) rfl) rfl
theorem cw_1445 : (Jvm.Cond.fieldLink "CableStreetModel" (152 : Nat) "CableStreetModel" "speeds" "[I") ∈ gU := tb_7 (List.mem_of_getElem? (i := 5) rfl) rfl
theorem cw_1446 : (Jvm.Cond.fieldLink "CableStreetModel" (155 : Nat) "CableStreetModel" "isCaught" "[Z") ∈ gU := tb_7 (List.mem_of_getElem? (i := 6) rfl) rfl
theorem cw_1447 : (Jvm.Cond.fieldLink "CableStreetModel" (158 : Nat) "CableStreetModel" "isEntered" "[Z") ∈ gU := tb_7 (List.mem_of_getElem? (i := 7) rfl) rfl
theorem cw_1448 : (Jvm.Cond.fieldLink "CableStreetModel" (161 : Nat) "CableStreetModel" "isCut" "[Z") ∈ gU := tb_7 (List.mem_of_getElem? (i := 8) rfl) rfl
theorem cw_1449 : (Jvm.Cond.fieldLink "CableStreetModel" (483 : Nat) "CableStreetModel" "ticks" "I") ∈ gU := tb_7 (List.mem_of_getElem? (i := 9) rfl) rfl
theorem cw_1450 : (Jvm.Cond.fieldLink "CableStreetModel" (507 : Nat) "CableStreetModel" "strandRope" "I") ∈ gU := tb_7 (List.mem_of_getElem? (i := 10) rfl) rfl
theorem cw_1451 : (Jvm.Cond.fieldLink "CableStreetModel" (510 : Nat) "CableStreetModel" "strandPlace" "I") ∈ gU := tb_7 (List.mem_of_getElem? (i := 11) rfl) rfl
theorem cw_1452 : (Jvm.Cond.fieldLink "CableStreetModel" (513 : Nat) "CableStreetModel" "misses" "I") ∈ gU := tb_7 (List.mem_of_getElem? (i := 12) rfl) rfl
theorem cw_1453 : (Jvm.Cond.fieldLink "CableStreetModel" (516 : Nat) "CableStreetModel" "saved" "I") ∈ gU := tb_7 (List.mem_of_getElem? (i := 13) rfl) rfl
theorem cw_1454 : (Jvm.Cond.fieldLink "CableStreetModel" (519 : Nat) "CableStreetModel" "cuts" "I") ∈ gU := tb_7 (List.mem_of_getElem? (i := 14) rfl) rfl
theorem cw_1455 : (Jvm.Cond.fieldLink "CableStreetModel" (522 : Nat) "CableStreetModel" "dips" "I") ∈ gU := tb_7 (List.mem_of_getElem? (i := 15) rfl) rfl
theorem cw_1456 : (Jvm.Cond.fieldLink "CableStreetModel" (525 : Nat) "CableStreetModel" "bumps" "I") ∈ gU := tb_7 (List.mem_of_getElem? (i := 16) rfl) rfl
theorem cw_1457 : (Jvm.Cond.fieldLink "CableStreetModel" (528 : Nat) "CableStreetModel" "caughtBy" "I") ∈ gU := tb_7 (List.mem_of_getElem? (i := 17) rfl) rfl
theorem cw_1458 : (Jvm.Cond.fieldLink "CableStreetModel" (531 : Nat) "CableStreetModel" "heldBack" "I") ∈ gU := tb_7 (List.mem_of_getElem? (i := 18) rfl) rfl
theorem cw_1459 : (Jvm.Cond.fieldLink "CableStreetModel" (534 : Nat) "CableStreetModel" "rolled" "I") ∈ gU := tb_7 (List.mem_of_getElem? (i := 19) rfl) rfl
theorem cw_1460 : (Jvm.Cond.fieldLink "CableStreetModel" (537 : Nat) "CableStreetModel" "backs" "I") ∈ gU := tb_7 (List.mem_of_getElem? (i := 20) rfl) rfl
theorem cw_1461 : (Jvm.Cond.fieldLink "CableStreetModel" (540 : Nat) "CableStreetModel" "onTable" "I") ∈ gU := tb_7 (List.mem_of_getElem? (i := 21) rfl) rfl
theorem cw_1462 : (Jvm.Cond.fieldLink "CableStreetModel" (543 : Nat) "CableStreetModel" "tableTicks" "I") ∈ gU := tb_7 (List.mem_of_getElem? (i := 22) rfl) rfl
theorem cw_1463 : (Jvm.Cond.fieldLink "CableStreetModel" (164 : Nat) "CableStreetModel" "doneAt" "[I") ∈ gU := tb_7 (List.mem_of_getElem? (i := 23) rfl) rfl
theorem cw_1464 : (Jvm.Cond.fieldLink "CableStreetModel" (167 : Nat) "CableStreetModel" "trips" "[I") ∈ gU := tb_7 (List.mem_of_getElem? (i := 24) rfl) rfl
theorem cw_1465 : (Jvm.Cond.fieldLink "CableStreetModel" (170 : Nat) "CableStreetModel" "place" "[I") ∈ gU := tb_7 (List.mem_of_getElem? (i := 25) rfl) rfl
theorem cw_1466 : (Jvm.Cond.fieldLink "CableStreetModel" (173 : Nat) "CableStreetModel" "wear" "[I") ∈ gU := tb_7 (List.mem_of_getElem? (i := 26) rfl) rfl
theorem cw_1467 : (Jvm.Cond.fieldLink "CableStreetModel" (176 : Nat) "CableStreetModel" "evTick" "[I") ∈ gU := tb_7 (List.mem_of_getElem? (i := 27) rfl) rfl
theorem cw_1468 : (Jvm.Cond.fieldLink "CableStreetModel" (179 : Nat) "CableStreetModel" "evWhat" "[I") ∈ gU := tb_7 (List.mem_of_getElem? (i := 28) rfl) rfl
theorem cw_1469 : (Jvm.Cond.fieldLink "CableStreetModel" (182 : Nat) "CableStreetModel" "evCar" "[I") ∈ gU := tb_7 (List.mem_of_getElem? (i := 29) rfl) rfl
theorem cw_1470 : (Jvm.Cond.fieldLink "CableStreetModel" (185 : Nat) "CableStreetModel" "evRope" "[I") ∈ gU := tb_7 (List.mem_of_getElem? (i := 30) rfl) rfl
theorem cw_1471 : (Jvm.Cond.fieldLink "CableStreetModel" (188 : Nat) "CableStreetModel" "evCause" "[I") ∈ gU := tb_7 (List.mem_of_getElem? (i := 31) rfl) rfl
theorem cw_1472 : (Jvm.Cond.fieldLink "CableStreetModel" (546 : Nat) "CableStreetModel" "events" "I") ∈ gU := tb_7 (List.mem_of_getElem? (i := 32) rfl) rfl
theorem cw_1473 : (Jvm.Cond.fieldLink "CableStreetModel" (660 : Nat) "CableStreetModel" "coastOn" "I") ∈ gU := tb_7 (List.mem_of_getElem? (i := 33) rfl) rfl
theorem cw_1474 : (Jvm.Cond.fieldLink "CableStreetModel" (653 : Nat) "CableStreetModel" "coastTicks" "I") ∈ gU := tb_7 (List.mem_of_getElem? (i := 34) rfl) rfl
theorem cw_1475 : (Jvm.Cond.fieldLink "CableStreetModel" (656 : Nat) "CableStreetModel" "isRoped" "Z") ∈ gU := tb_7 (List.mem_of_getElem? (i := 35) rfl) rfl
theorem cw_1476 : (Jvm.Cond.fieldLink "CableStreetModel" (191 : Nat) "CableStreetModel" "lCar" "[I") ∈ gU := tb_7 (List.mem_of_getElem? (i := 36) rfl) rfl
theorem cw_1477 : (Jvm.Cond.fieldLink "CableStreetModel" (194 : Nat) "CableStreetModel" "lTick" "[I") ∈ gU := tb_7 (List.mem_of_getElem? (i := 37) rfl) rfl
theorem cw_1478 : (Jvm.Cond.fieldLink "CableStreetModel" (197 : Nat) "CableStreetModel" "lOn" "[I") ∈ gU := tb_7 (List.mem_of_getElem? (i := 38) rfl) rfl
theorem cw_1479 : (Jvm.Cond.fieldLink "CableStreetModel" (200 : Nat) "CableStreetModel" "lTold" "[I") ∈ gU := tb_7 (List.mem_of_getElem? (i := 39) rfl) rfl
theorem cw_1480 : (Jvm.Cond.fieldLink "CableStreetModel" (203 : Nat) "CableStreetModel" "lUntold" "[I") ∈ gU := tb_7 (List.mem_of_getElem? (i := 40) rfl) rfl
theorem cw_1481 : (Jvm.Cond.fieldLink "CableStreetModel" (206 : Nat) "CableStreetModel" "isFalse" "[Z") ∈ gU := tb_7 (List.mem_of_getElem? (i := 41) rfl) rfl
theorem cw_1482 : (Jvm.Cond.fieldLink "CableStreetModel" (392 : Nat) "CableStreetModel" "logs" "I") ∈ gU := tb_7 (List.mem_of_getElem? (i := 42) rfl) rfl
theorem cw_1483 : (Jvm.Cond.fieldLink "CableStreetModel" (672 : Nat) "CableStreetModel" "time" "I") ∈ gU := tb_7 (List.mem_of_getElem? (i := 43) rfl) rfl
theorem cw_1484 : (Jvm.Cond.fieldLink "CableStreetModel" (209 : Nat) "CableStreetModel" "boxTicks" "[I") ∈ gU := tb_7 (List.mem_of_getElem? (i := 44) rfl) rfl
theorem cw_1485 : (Jvm.Cond.fieldLink "CableStreetModel" (212 : Nat) "CableStreetModel" "boxRow" "[I") ∈ gU := tb_7 (List.mem_of_getElem? (i := 45) rfl) rfl
theorem cw_1486 : (Jvm.Cond.fieldLink "CableStreetModel" (215 : Nat) "CableStreetModel" "boxDone" "[I") ∈ gU := tb_7 (List.mem_of_getElem? (i := 46) rfl) rfl
theorem cw_1487 : (Jvm.Cond.fieldLink "CableStreetModel" (218 : Nat) "CableStreetModel" "boxTrips" "[I") ∈ gU := tb_7 (List.mem_of_getElem? (i := 47) rfl) rfl
theorem cw_1488 : (Jvm.Cond.fieldLink "CableStreetModel" (221 : Nat) "CableStreetModel" "boxPlace" "[I") ∈ gU := tb_7 (List.mem_of_getElem? (i := 48) rfl) rfl
theorem cw_1489 : (Jvm.Cond.fieldLink "CableStreetModel" (224 : Nat) "CableStreetModel" "boxWear" "[I") ∈ gU := tb_7 (List.mem_of_getElem? (i := 49) rfl) rfl
theorem cw_1490 : (Jvm.Cond.fieldLink "CableStreetModel" (227 : Nat) "CableStreetModel" "boxEvent" "[I") ∈ gU := tb_7 (List.mem_of_getElem? (i := 50) rfl) rfl
theorem cw_1491 : (Jvm.Cond.fieldLink "CableStreetModel" (230 : Nat) "CableStreetModel" "boxX" "[I") ∈ gU := tb_7 (List.mem_of_getElem? (i := 51) rfl) rfl
theorem cw_1492 : (Jvm.Cond.fieldLink "CableStreetModel" (233 : Nat) "CableStreetModel" "boxV" "[I") ∈ gU := tb_7 (List.mem_of_getElem? (i := 52) rfl) rfl
theorem cw_1493 : (Jvm.Cond.fieldLink "CableStreetModel" (236 : Nat) "CableStreetModel" "boxMode" "[I") ∈ gU := tb_7 (List.mem_of_getElem? (i := 53) rfl) rfl
theorem cw_1494 : (Jvm.Cond.fieldLink "CableStreetModel" (239 : Nat) "CableStreetModel" "boxWaits" "[I") ∈ gU := tb_7 (List.mem_of_getElem? (i := 54) rfl) rfl
theorem cw_1495 : (Jvm.Cond.fieldLink "CableStreetModel" (242 : Nat) "CableStreetModel" "boxGripped" "[I") ∈ gU := tb_7 (List.mem_of_getElem? (i := 55) rfl) rfl
theorem cw_1496 : (Jvm.Cond.fieldLink "CableStreetModel" (245 : Nat) "CableStreetModel" "boxCaught" "[Z") ∈ gU := tb_7 (List.mem_of_getElem? (i := 56) rfl) rfl
theorem cw_1497 : (Jvm.Cond.fieldLink "CableStreetModel" (248 : Nat) "CableStreetModel" "boxEntered" "[Z") ∈ gU := tb_7 (List.mem_of_getElem? (i := 57) rfl) rfl
theorem cw_1498 : (Jvm.Cond.fieldLink "CableStreetModel" (251 : Nat) "CableStreetModel" "boxCut" "[Z") ∈ gU := tb_7 (List.mem_of_getElem? (i := 58) rfl) rfl
theorem cw_1499 : (Jvm.Cond.laysFinal "CableStreetModel" "CableStreetModel" "tape" "[B") ∈ gU := tb_7 (List.mem_of_getElem? (i := 59) rfl) rfl
theorem cw_1501 : (Jvm.Cond.laysFinal "CableStreetModel" "CableStreetModel" "text" "[B") ∈ gU := tb_7 (List.mem_of_getElem? (i := 61) rfl) rfl
theorem cw_1503 : (Jvm.Cond.lays "CableStreetModel" "CableStreetModel" "taped" "I") ∈ gU := tb_7 (List.mem_of_getElem? (i := 63) rfl) rfl
theorem cw_1505 : (Jvm.Cond.lays "CableStreetModel" "CableStreetModel" "size" "I") ∈ gU := tb_7 (List.mem_of_getElem? (i := 65) rfl) rfl
theorem cw_1507 : (Jvm.Cond.lays "CableStreetModel" "CableStreetModel" "faultKind" "I") ∈ gU := tb_7 (List.mem_of_getElem? (i := 67) rfl) rfl
theorem cw_1509 : (Jvm.Cond.lays "CableStreetModel" "CableStreetModel" "faultPlace" "I") ∈ gU := tb_7 (List.mem_of_getElem? (i := 69) rfl) rfl
theorem cw_1511 : (Jvm.Cond.lays "CableStreetModel" "CableStreetModel" "at" "I") ∈ gU := tb_7 (List.mem_of_getElem? (i := 71) rfl) rfl
theorem cw_1513 : (Jvm.Cond.lays "CableStreetModel" "CableStreetModel" "end" "I") ∈ gU := tb_7 (List.mem_of_getElem? (i := 73) rfl) rfl
theorem cw_1515 : (Jvm.Cond.lays "CableStreetModel" "CableStreetModel" "token" "I") ∈ gU := tb_7 (List.mem_of_getElem? (i := 75) rfl) rfl
theorem cw_1517 : (Jvm.Cond.lays "CableStreetModel" "CableStreetModel" "number" "I") ∈ gU := tb_7 (List.mem_of_getElem? (i := 77) rfl) rfl
theorem cw_1519 : (Jvm.Cond.lays "CableStreetModel" "CableStreetModel" "name" "J") ∈ gU := tb_7 (List.mem_of_getElem? (i := 79) rfl) rfl
theorem cw_1521 : (Jvm.Cond.laysFinal "CableStreetModel" "CableStreetModel" "ropes" "[I") ∈ gU := tb_7 (List.mem_of_getElem? (i := 81) rfl) rfl
theorem cw_1523 : (Jvm.Cond.laysFinal "CableStreetModel" "CableStreetModel" "cars" "[I") ∈ gU := tb_7 (List.mem_of_getElem? (i := 83) rfl) rfl
theorem cw_1525 : (Jvm.Cond.laysFinal "CableStreetModel" "CableStreetModel" "grades" "[I") ∈ gU := tb_7 (List.mem_of_getElem? (i := 85) rfl) rfl
theorem cw_1527 : (Jvm.Cond.laysFinal "CableStreetModel" "CableStreetModel" "marks" "[I") ∈ gU := tb_7 (List.mem_of_getElem? (i := 87) rfl) rfl
theorem cw_1529 : (Jvm.Cond.laysFinal "CableStreetModel" "CableStreetModel" "lines" "[I") ∈ gU := tb_7 (List.mem_of_getElem? (i := 89) rfl) rfl
theorem cw_1531 : (Jvm.Cond.laysFinal "CableStreetModel" "CableStreetModel" "drag" "[I") ∈ gU := tb_7 (List.mem_of_getElem? (i := 91) rfl) rfl
theorem cw_1533 : (Jvm.Cond.laysFinal "CableStreetModel" "CableStreetModel" "brake" "[I") ∈ gU := tb_7 (List.mem_of_getElem? (i := 93) rfl) rfl
theorem cw_1535 : (Jvm.Cond.laysFinal "CableStreetModel" "CableStreetModel" "isDrag" "[Z") ∈ gU := tb_7 (List.mem_of_getElem? (i := 95) rfl) rfl
theorem cw_1537 : (Jvm.Cond.laysFinal "CableStreetModel" "CableStreetModel" "isBrake" "[Z") ∈ gU := tb_7 (List.mem_of_getElem? (i := 97) rfl) rfl
theorem cw_1539 : (Jvm.Cond.laysFinal "CableStreetModel" "CableStreetModel" "isMark" "[Z") ∈ gU := tb_7 (List.mem_of_getElem? (i := 99) rfl) rfl
theorem cw_1541 : (Jvm.Cond.laysFinal "CableStreetModel" "CableStreetModel" "rName" "[J") ∈ gU := tb_7 (List.mem_of_getElem? (i := 101) rfl) rfl
theorem cw_1543 : (Jvm.Cond.laysFinal "CableStreetModel" "CableStreetModel" "cName" "[J") ∈ gU := tb_7 (List.mem_of_getElem? (i := 103) rfl) rfl
theorem cw_1545 : (Jvm.Cond.laysFinal "CableStreetModel" "CableStreetModel" "rSpeed" "[I") ∈ gU := tb_7 (List.mem_of_getElem? (i := 105) rfl) rfl
theorem cw_1547 : (Jvm.Cond.laysFinal "CableStreetModel" "CableStreetModel" "rLong" "[I") ∈ gU := tb_7 (List.mem_of_getElem? (i := 107) rfl) rfl
theorem cw_1549 : (Jvm.Cond.laysFinal "CableStreetModel" "CableStreetModel" "rFrom" "[I") ∈ gU := tb_7 (List.mem_of_getElem? (i := 109) rfl) rfl
theorem cw_1551 : (Jvm.Cond.laysFinal "CableStreetModel" "CableStreetModel" "rTo" "[I") ∈ gU := tb_7 (List.mem_of_getElem? (i := 111) rfl) rfl
theorem cw_1553 : (Jvm.Cond.laysFinal "CableStreetModel" "CableStreetModel" "rBears" "[I") ∈ gU := tb_7 (List.mem_of_getElem? (i := 113) rfl) rfl
theorem cw_1555 : (Jvm.Cond.laysFinal "CableStreetModel" "CableStreetModel" "grade" "[I") ∈ gU := tb_7 (List.mem_of_getElem? (i := 115) rfl) rfl
theorem cw_1557 : (Jvm.Cond.laysFinal "CableStreetModel" "CableStreetModel" "ropeOn" "[I") ∈ gU := tb_7 (List.mem_of_getElem? (i := 117) rfl) rfl
theorem cw_1559 : (Jvm.Cond.laysFinal "CableStreetModel" "CableStreetModel" "stopFor" "[I") ∈ gU := tb_7 (List.mem_of_getElem? (i := 119) rfl) rfl
theorem cw_1561 : (Jvm.Cond.laysFinal "CableStreetModel" "CableStreetModel" "cAt" "[I") ∈ gU := tb_7 (List.mem_of_getElem? (i := 121) rfl) rfl
theorem cw_1563 : (Jvm.Cond.laysFinal "CableStreetModel" "CableStreetModel" "weighs" "[I") ∈ gU := tb_7 (List.mem_of_getElem? (i := 123) rfl) rfl
theorem cw_1565 : (Jvm.Cond.laysFinal "CableStreetModel" "CableStreetModel" "splices" "[I") ∈ gU := tb_7 (List.mem_of_getElem? (i := 125) rfl) rfl
theorem cw_1567 : (Jvm.Cond.laysFinal "CableStreetModel" "CableStreetModel" "turn" "[I") ∈ gU := tb_7 (List.mem_of_getElem? (i := 127) rfl) rfl
theorem cw_1569 : (Jvm.Cond.laysFinal "CableStreetModel" "CableStreetModel" "crosses" "[I") ∈ gU := tb_7 (List.mem_of_getElem? (i := 129) rfl) rfl
theorem cw_1571 : (Jvm.Cond.laysFinal "CableStreetModel" "CableStreetModel" "unitsOf" "[I") ∈ gU := tb_7 (List.mem_of_getElem? (i := 131) rfl) rfl
theorem cw_1573 : (Jvm.Cond.laysFinal "CableStreetModel" "CableStreetModel" "pRope" "[I") ∈ gU := tb_7 (List.mem_of_getElem? (i := 133) rfl) rfl
theorem cw_1575 : (Jvm.Cond.laysFinal "CableStreetModel" "CableStreetModel" "pAt" "[I") ∈ gU := tb_7 (List.mem_of_getElem? (i := 135) rfl) rfl
theorem cw_1577 : (Jvm.Cond.laysFinal "CableStreetModel" "CableStreetModel" "pLasts" "[I") ∈ gU := tb_7 (List.mem_of_getElem? (i := 137) rfl) rfl
theorem cw_1579 : (Jvm.Cond.laysFinal "CableStreetModel" "CableStreetModel" "xOn" "[I") ∈ gU := tb_7 (List.mem_of_getElem? (i := 139) rfl) rfl
theorem cw_1581 : (Jvm.Cond.laysFinal "CableStreetModel" "CableStreetModel" "uFrom" "[I") ∈ gU := tb_7 (List.mem_of_getElem? (i := 141) rfl) rfl
theorem cw_1583 : (Jvm.Cond.laysFinal "CableStreetModel" "CableStreetModel" "uTo" "[I") ∈ gU := tb_7 (List.mem_of_getElem? (i := 143) rfl) rfl
theorem cw_1585 : (Jvm.Cond.laysFinal "CableStreetModel" "CableStreetModel" "pName" "[J") ∈ gU := tb_7 (List.mem_of_getElem? (i := 145) rfl) rfl
theorem cw_1587 : (Jvm.Cond.lays "CableStreetModel" "CableStreetModel" "bank" "I") ∈ gU := tb_7 (List.mem_of_getElem? (i := 147) rfl) rfl
theorem cw_1589 : (Jvm.Cond.lays "CableStreetModel" "CableStreetModel" "rb" "I") ∈ gU := tb_7 (List.mem_of_getElem? (i := 149) rfl) rfl
theorem cw_1591 : (Jvm.Cond.laysFinal "CableStreetModel" "CableStreetModel" "code" "[I") ∈ gU := tb_7 (List.mem_of_getElem? (i := 151) rfl) rfl
theorem cw_1593 : (Jvm.Cond.laysFinal "CableStreetModel" "CableStreetModel" "codeNumber" "[I") ∈ gU := tb_7 (List.mem_of_getElem? (i := 153) rfl) rfl
theorem cw_1595 : (Jvm.Cond.laysFinal "CableStreetModel" "CableStreetModel" "eWhat" "[I") ∈ gU := tb_7 (List.mem_of_getElem? (i := 155) rfl) rfl
theorem cw_1597 : (Jvm.Cond.laysFinal "CableStreetModel" "CableStreetModel" "eSign" "[I") ∈ gU := tb_7 (List.mem_of_getElem? (i := 157) rfl) rfl
theorem cw_1599 : (Jvm.Cond.laysFinal "CableStreetModel" "CableStreetModel" "pile" "[I") ∈ gU := tb_7 (List.mem_of_getElem? (i := 159) rfl) rfl
theorem cw_1601 : (Jvm.Cond.lays "CableStreetModel" "CableStreetModel" "codes" "I") ∈ gU := tb_7 (List.mem_of_getElem? (i := 161) rfl) rfl
theorem cw_1603 : (Jvm.Cond.lays "CableStreetModel" "CableStreetModel" "within" "I") ∈ gU := tb_7 (List.mem_of_getElem? (i := 163) rfl) rfl
theorem cw_1605 : (Jvm.Cond.lays "CableStreetModel" "CableStreetModel" "piled" "I") ∈ gU := tb_7 (List.mem_of_getElem? (i := 165) rfl) rfl
theorem cw_1607 : (Jvm.Cond.laysFinal "CableStreetModel" "CableStreetModel" "x" "[I") ∈ gU := tb_7 (List.mem_of_getElem? (i := 167) rfl) rfl
theorem cw_1609 : (Jvm.Cond.laysFinal "CableStreetModel" "CableStreetModel" "v" "[I") ∈ gU := tb_7 (List.mem_of_getElem? (i := 169) rfl) rfl
theorem cw_1611 : (Jvm.Cond.laysFinal "CableStreetModel" "CableStreetModel" "mode" "[I") ∈ gU := tb_7 (List.mem_of_getElem? (i := 171) rfl) rfl
theorem cw_1613 : (Jvm.Cond.laysFinal "CableStreetModel" "CableStreetModel" "waits" "[I") ∈ gU := tb_7 (List.mem_of_getElem? (i := 173) rfl) rfl
theorem cw_1615 : (Jvm.Cond.laysFinal "CableStreetModel" "CableStreetModel" "gripped" "[I") ∈ gU := tb_7 (List.mem_of_getElem? (i := 175) rfl) rfl
theorem cw_1617 : (Jvm.Cond.laysFinal "CableStreetModel" "CableStreetModel" "speeds" "[I") ∈ gU := tb_7 (List.mem_of_getElem? (i := 177) rfl) rfl
theorem cw_1619 : (Jvm.Cond.laysFinal "CableStreetModel" "CableStreetModel" "isCaught" "[Z") ∈ gU := tb_7 (List.mem_of_getElem? (i := 179) rfl) rfl
theorem cw_1621 : (Jvm.Cond.laysFinal "CableStreetModel" "CableStreetModel" "isEntered" "[Z") ∈ gU := tb_7 (List.mem_of_getElem? (i := 181) rfl) rfl
theorem cw_1623 : (Jvm.Cond.laysFinal "CableStreetModel" "CableStreetModel" "isCut" "[Z") ∈ gU := tb_7 (List.mem_of_getElem? (i := 183) rfl) rfl
theorem cw_1625 : (Jvm.Cond.lays "CableStreetModel" "CableStreetModel" "ticks" "I") ∈ gU := tb_7 (List.mem_of_getElem? (i := 185) rfl) rfl
theorem cw_1627 : (Jvm.Cond.lays "CableStreetModel" "CableStreetModel" "strandRope" "I") ∈ gU := tb_7 (List.mem_of_getElem? (i := 187) rfl) rfl
theorem cw_1629 : (Jvm.Cond.lays "CableStreetModel" "CableStreetModel" "strandPlace" "I") ∈ gU := tb_7 (List.mem_of_getElem? (i := 189) rfl) rfl
theorem cw_1631 : (Jvm.Cond.lays "CableStreetModel" "CableStreetModel" "misses" "I") ∈ gU := tb_7 (List.mem_of_getElem? (i := 191) rfl) rfl
theorem cw_1633 : (Jvm.Cond.lays "CableStreetModel" "CableStreetModel" "saved" "I") ∈ gU := tb_7 (List.mem_of_getElem? (i := 193) rfl) rfl
theorem cw_1635 : (Jvm.Cond.lays "CableStreetModel" "CableStreetModel" "cuts" "I") ∈ gU := tb_7 (List.mem_of_getElem? (i := 195) rfl) rfl
theorem cw_1637 : (Jvm.Cond.lays "CableStreetModel" "CableStreetModel" "dips" "I") ∈ gU := tb_7 (List.mem_of_getElem? (i := 197) rfl) rfl
theorem cw_1639 : (Jvm.Cond.lays "CableStreetModel" "CableStreetModel" "bumps" "I") ∈ gU := tb_7 (List.mem_of_getElem? (i := 199) rfl) rfl
theorem cw_1641 : (Jvm.Cond.lays "CableStreetModel" "CableStreetModel" "caughtBy" "I") ∈ gU := tb_7 (List.mem_of_getElem? (i := 201) rfl) rfl
theorem cw_1643 : (Jvm.Cond.lays "CableStreetModel" "CableStreetModel" "heldBack" "I") ∈ gU := tb_7 (List.mem_of_getElem? (i := 203) rfl) rfl
theorem cw_1645 : (Jvm.Cond.lays "CableStreetModel" "CableStreetModel" "rolled" "I") ∈ gU := tb_7 (List.mem_of_getElem? (i := 205) rfl) rfl
theorem cw_1647 : (Jvm.Cond.lays "CableStreetModel" "CableStreetModel" "backs" "I") ∈ gU := tb_7 (List.mem_of_getElem? (i := 207) rfl) rfl
theorem cw_1649 : (Jvm.Cond.lays "CableStreetModel" "CableStreetModel" "onTable" "I") ∈ gU := tb_7 (List.mem_of_getElem? (i := 209) rfl) rfl
theorem cw_1651 : (Jvm.Cond.lays "CableStreetModel" "CableStreetModel" "tableTicks" "I") ∈ gU := tb_7 (List.mem_of_getElem? (i := 211) rfl) rfl
theorem cw_1653 : (Jvm.Cond.laysFinal "CableStreetModel" "CableStreetModel" "doneAt" "[I") ∈ gU := tb_7 (List.mem_of_getElem? (i := 213) rfl) rfl
theorem cw_1655 : (Jvm.Cond.laysFinal "CableStreetModel" "CableStreetModel" "trips" "[I") ∈ gU := tb_7 (List.mem_of_getElem? (i := 215) rfl) rfl
theorem cw_1657 : (Jvm.Cond.laysFinal "CableStreetModel" "CableStreetModel" "place" "[I") ∈ gU := tb_7 (List.mem_of_getElem? (i := 217) rfl) rfl
theorem cw_1659 : (Jvm.Cond.laysFinal "CableStreetModel" "CableStreetModel" "wear" "[I") ∈ gU := tb_7 (List.mem_of_getElem? (i := 219) rfl) rfl
theorem cw_1661 : (Jvm.Cond.laysFinal "CableStreetModel" "CableStreetModel" "evTick" "[I") ∈ gU := tb_7 (List.mem_of_getElem? (i := 221) rfl) rfl
theorem cw_1663 : (Jvm.Cond.laysFinal "CableStreetModel" "CableStreetModel" "evWhat" "[I") ∈ gU := tb_7 (List.mem_of_getElem? (i := 223) rfl) rfl
theorem cw_1665 : (Jvm.Cond.laysFinal "CableStreetModel" "CableStreetModel" "evCar" "[I") ∈ gU := tb_7 (List.mem_of_getElem? (i := 225) rfl) rfl
theorem cw_1667 : (Jvm.Cond.laysFinal "CableStreetModel" "CableStreetModel" "evRope" "[I") ∈ gU := tb_7 (List.mem_of_getElem? (i := 227) rfl) rfl
theorem cw_1669 : (Jvm.Cond.laysFinal "CableStreetModel" "CableStreetModel" "evCause" "[I") ∈ gU := tb_7 (List.mem_of_getElem? (i := 229) rfl) rfl
theorem cw_1671 : (Jvm.Cond.lays "CableStreetModel" "CableStreetModel" "events" "I") ∈ gU := tb_7 (List.mem_of_getElem? (i := 231) rfl) rfl
theorem cw_1673 : (Jvm.Cond.lays "CableStreetModel" "CableStreetModel" "coastOn" "I") ∈ gU := tb_7 (List.mem_of_getElem? (i := 233) rfl) rfl
theorem cw_1675 : (Jvm.Cond.lays "CableStreetModel" "CableStreetModel" "coastTicks" "I") ∈ gU := tb_7 (List.mem_of_getElem? (i := 235) rfl) rfl
theorem cw_1677 : (Jvm.Cond.lays "CableStreetModel" "CableStreetModel" "isRoped" "Z") ∈ gU := tb_7 (List.mem_of_getElem? (i := 237) rfl) rfl
theorem cw_1679 : (Jvm.Cond.laysFinal "CableStreetModel" "CableStreetModel" "lCar" "[I") ∈ gU := tb_7 (List.mem_of_getElem? (i := 239) rfl) rfl
theorem cw_1681 : (Jvm.Cond.laysFinal "CableStreetModel" "CableStreetModel" "lTick" "[I") ∈ gU := tb_8 (List.mem_of_getElem? (i := 1) rfl) rfl
theorem cw_1683 : (Jvm.Cond.laysFinal "CableStreetModel" "CableStreetModel" "lOn" "[I") ∈ gU := tb_8 (List.mem_of_getElem? (i := 3) rfl) rfl
theorem cw_1685 : (Jvm.Cond.laysFinal "CableStreetModel" "CableStreetModel" "lTold" "[I") ∈ gU := tb_8 (List.mem_of_getElem? (i := 5) rfl) rfl
theorem cw_1687 : (Jvm.Cond.laysFinal "CableStreetModel" "CableStreetModel" "lUntold" "[I") ∈ gU := tb_8 (List.mem_of_getElem? (i := 7) rfl) rfl
theorem cw_1689 : (Jvm.Cond.laysFinal "CableStreetModel" "CableStreetModel" "isFalse" "[Z") ∈ gU := tb_8 (List.mem_of_getElem? (i := 9) rfl) rfl
theorem cw_1691 : (Jvm.Cond.lays "CableStreetModel" "CableStreetModel" "logs" "I") ∈ gU := tb_8 (List.mem_of_getElem? (i := 11) rfl) rfl
theorem cw_1693 : (Jvm.Cond.lays "CableStreetModel" "CableStreetModel" "time" "I") ∈ gU := tb_8 (List.mem_of_getElem? (i := 13) rfl) rfl
theorem cw_1695 : (Jvm.Cond.laysFinal "CableStreetModel" "CableStreetModel" "boxTicks" "[I") ∈ gU := tb_8 (List.mem_of_getElem? (i := 15) rfl) rfl
theorem cw_1697 : (Jvm.Cond.laysFinal "CableStreetModel" "CableStreetModel" "boxRow" "[I") ∈ gU := tb_8 (List.mem_of_getElem? (i := 17) rfl) rfl
theorem cw_1699 : (Jvm.Cond.laysFinal "CableStreetModel" "CableStreetModel" "boxDone" "[I") ∈ gU := tb_8 (List.mem_of_getElem? (i := 19) rfl) rfl
theorem cw_1701 : (Jvm.Cond.laysFinal "CableStreetModel" "CableStreetModel" "boxTrips" "[I") ∈ gU := tb_8 (List.mem_of_getElem? (i := 21) rfl) rfl
theorem cw_1703 : (Jvm.Cond.laysFinal "CableStreetModel" "CableStreetModel" "boxPlace" "[I") ∈ gU := tb_8 (List.mem_of_getElem? (i := 23) rfl) rfl
theorem cw_1705 : (Jvm.Cond.laysFinal "CableStreetModel" "CableStreetModel" "boxWear" "[I") ∈ gU := tb_8 (List.mem_of_getElem? (i := 25) rfl) rfl
theorem cw_1707 : (Jvm.Cond.laysFinal "CableStreetModel" "CableStreetModel" "boxEvent" "[I") ∈ gU := tb_8 (List.mem_of_getElem? (i := 27) rfl) rfl
theorem cw_1709 : (Jvm.Cond.laysFinal "CableStreetModel" "CableStreetModel" "boxX" "[I") ∈ gU := tb_8 (List.mem_of_getElem? (i := 29) rfl) rfl
theorem cw_1711 : (Jvm.Cond.laysFinal "CableStreetModel" "CableStreetModel" "boxV" "[I") ∈ gU := tb_8 (List.mem_of_getElem? (i := 31) rfl) rfl
theorem cw_1713 : (Jvm.Cond.laysFinal "CableStreetModel" "CableStreetModel" "boxMode" "[I") ∈ gU := tb_8 (List.mem_of_getElem? (i := 33) rfl) rfl
theorem cw_1715 : (Jvm.Cond.laysFinal "CableStreetModel" "CableStreetModel" "boxWaits" "[I") ∈ gU := tb_8 (List.mem_of_getElem? (i := 35) rfl) rfl
theorem cw_1717 : (Jvm.Cond.laysFinal "CableStreetModel" "CableStreetModel" "boxGripped" "[I") ∈ gU := tb_8 (List.mem_of_getElem? (i := 37) rfl) rfl
theorem cw_1719 : (Jvm.Cond.laysFinal "CableStreetModel" "CableStreetModel" "boxCaught" "[Z") ∈ gU := tb_8 (List.mem_of_getElem? (i := 39) rfl) rfl
theorem cw_1721 : (Jvm.Cond.laysFinal "CableStreetModel" "CableStreetModel" "boxEntered" "[Z") ∈ gU := tb_8 (List.mem_of_getElem? (i := 41) rfl) rfl
theorem cw_1723 : (Jvm.Cond.laysFinal "CableStreetModel" "CableStreetModel" "boxCut" "[Z") ∈ gU := tb_8 (List.mem_of_getElem? (i := 43) rfl) rfl
theorem cw_1726 : (Jvm.Cond.methodLink "CableStreetLaw" (27 : Nat) ({ cls := "CableStreetModel", name := "street", desc := "()I" } : Jvm.MethodName)) ∈ gU := tb_8 (List.mem_of_getElem? (i := 46) rfl) rfl
theorem cw_1727 : (Jvm.Cond.instanceMethod ({ cls := "CableStreetModel", name := "street", desc := "()I" } : Jvm.MethodName)) ∈ gU := tb_8 (List.mem_of_getElem? (i := 47) rfl) rfl
theorem cw_1728 : (Jvm.Cond.selects "CableStreetModel" ({ cls := "CableStreetModel", name := "street", desc := "()I" } : Jvm.MethodName) ({ cls := "CableStreetModel", name := "street", desc := "()I" } : Jvm.MethodName)) ∈ gU := tb_8 (List.mem_of_getElem? (i := 48) rfl) rfl
theorem cw_1729 : (Jvm.Cond.code ({ cls := "CableStreetModel", name := "street", desc := "()I" } : Jvm.MethodName) prog_14_method_17_code (2 : Nat) (Option.some Jvm.ClassFile.FieldType.int)) ∈ gU := tb_8 (List.mem_of_getElem? (i := 49) rfl) rfl
theorem cw_1730 : (Jvm.Cond.methodLink "CableStreetModel" (368 : Nat) ({ cls := "CableStreetModel", name := "goOn", desc := "()V" } : Jvm.MethodName)) ∈ gU := tb_8 (List.mem_of_getElem? (i := 50) rfl) rfl
theorem cw_1732 : (Jvm.Cond.instanceMethod ({ cls := "CableStreetModel", name := "goOn", desc := "()V" } : Jvm.MethodName)) ∈ gU := tb_8 (List.mem_of_getElem? (i := 52) rfl) rfl
theorem cw_1733 : (Jvm.Cond.code ({ cls := "CableStreetModel", name := "goOn", desc := "()V" } : Jvm.MethodName) prog_14_method_9_code (3 : Nat) (Option.none : Option Jvm.ClassFile.FieldType)) ∈ gU := tb_8 (List.mem_of_getElem? (i := 53) rfl) rfl
theorem cw_1734 : (Jvm.Cond.methodLink "CableStreetModel" (332 : Nat) ({ cls := "CableStreetModel", name := "sign", desc := "(I)I" } : Jvm.MethodName)) ∈ gU := tb_8 (List.mem_of_getElem? (i := 54) rfl) rfl
theorem cw_1736 : (Jvm.Cond.instanceMethod ({ cls := "CableStreetModel", name := "sign", desc := "(I)I" } : Jvm.MethodName)) ∈ gU := tb_8 (List.mem_of_getElem? (i := 56) rfl) rfl
theorem cw_1737 : (Jvm.Cond.code ({ cls := "CableStreetModel", name := "sign", desc := "(I)I" } : Jvm.MethodName) prog_14_method_2_code (2 : Nat) (Option.some Jvm.ClassFile.FieldType.int)) ∈ gU := tb_8 (List.mem_of_getElem? (i := 57) rfl) rfl
theorem cw_1780 : (Jvm.Cond.methodLink "CableStreetModel" (364 : Nat) ({ cls := "CableStreetModel", name := "isGood", desc := "()Z" } : Jvm.MethodName)) ∈ gU := tb_8 (List.mem_of_getElem? (i := 100) rfl) rfl
theorem cw_1782 : (Jvm.Cond.instanceMethod ({ cls := "CableStreetModel", name := "isGood", desc := "()Z" } : Jvm.MethodName)) ∈ gU := tb_8 (List.mem_of_getElem? (i := 102) rfl) rfl
theorem cw_1783 : (Jvm.Cond.code ({ cls := "CableStreetModel", name := "isGood", desc := "()Z" } : Jvm.MethodName) prog_14_method_6_code (1 : Nat) (Option.some Jvm.ClassFile.FieldType.boolean)) ∈ gU := tb_8 (List.mem_of_getElem? (i := 103) rfl) rfl
theorem cw_1896 : (Jvm.Cond.methodLink "CableStreetLaw" (31 : Nat) ({ cls := "CableStreetModel", name := "fault", desc := "(I)I" } : Jvm.MethodName)) ∈ gU := tb_8 (List.mem_of_getElem? (i := 216) rfl) rfl
theorem cw_1897 : (Jvm.Cond.instanceMethod ({ cls := "CableStreetModel", name := "fault", desc := "(I)I" } : Jvm.MethodName)) ∈ gU := tb_8 (List.mem_of_getElem? (i := 217) rfl) rfl
theorem cw_1898 : (Jvm.Cond.selects "CableStreetModel" ({ cls := "CableStreetModel", name := "fault", desc := "(I)I" } : Jvm.MethodName) ({ cls := "CableStreetModel", name := "fault", desc := "(I)I" } : Jvm.MethodName)) ∈ gU := tb_8 (List.mem_of_getElem? (i := 218) rfl) rfl
theorem cw_1899 : (Jvm.Cond.code ({ cls := "CableStreetModel", name := "fault", desc := "(I)I" } : Jvm.MethodName) prog_14_method_44_code (2 : Nat) (Option.some Jvm.ClassFile.FieldType.int)) ∈ gU := tb_8 (List.mem_of_getElem? (i := 219) rfl) rfl
theorem cw_1900 : (Jvm.Cond.methodLink "CableStreetLaw" (35 : Nat) ({ cls := "CableStreetModel", name := "run", desc := "(I)I" } : Jvm.MethodName)) ∈ gU := tb_8 (List.mem_of_getElem? (i := 220) rfl) rfl
theorem cw_1901 : (Jvm.Cond.instanceMethod ({ cls := "CableStreetModel", name := "run", desc := "(I)I" } : Jvm.MethodName)) ∈ gU := tb_8 (List.mem_of_getElem? (i := 221) rfl) rfl
theorem cw_1902 : (Jvm.Cond.selects "CableStreetModel" ({ cls := "CableStreetModel", name := "run", desc := "(I)I" } : Jvm.MethodName) ({ cls := "CableStreetModel", name := "run", desc := "(I)I" } : Jvm.MethodName)) ∈ gU := tb_8 (List.mem_of_getElem? (i := 222) rfl) rfl
theorem cw_1903 : (Jvm.Cond.code ({ cls := "CableStreetModel", name := "run", desc := "(I)I" } : Jvm.MethodName) prog_14_method_76_code (3 : Nat) (Option.some Jvm.ClassFile.FieldType.int)) ∈ gU := tb_8 (List.mem_of_getElem? (i := 223) rfl) rfl
theorem cw_1904 : (Jvm.Cond.methodLink "CableStreetModel" (503 : Nat) ({ cls := "CableStreetModel", name := "isIn", desc := "(III)Z" } : Jvm.MethodName)) ∈ gU := tb_8 (List.mem_of_getElem? (i := 224) rfl) rfl
theorem cw_1905 : (Jvm.Cond.static ({ cls := "CableStreetModel", name := "isIn", desc := "(III)Z" } : Jvm.MethodName)) ∈ gU := tb_8 (List.mem_of_getElem? (i := 225) rfl) rfl
theorem cw_1906 : (Jvm.Cond.code ({ cls := "CableStreetModel", name := "isIn", desc := "(III)Z" } : Jvm.MethodName) prog_14_method_45_code (3 : Nat) (Option.some Jvm.ClassFile.FieldType.boolean)) ∈ gU := tb_8 (List.mem_of_getElem? (i := 226) rfl) rfl
theorem cw_1907 : (Jvm.Cond.constant "CableStreetModel" (621 : Nat) (100000 : Int32)) ∈ gU := tb_8 (List.mem_of_getElem? (i := 227) rfl) rfl
theorem cw_1908 : (Jvm.Cond.methodLink "CableStreetModel" (622 : Nat) ({ cls := "CableStreetModel", name := "tick", desc := "()V" } : Jvm.MethodName)) ∈ gU := tb_8 (List.mem_of_getElem? (i := 228) rfl) rfl
theorem cw_1910 : (Jvm.Cond.instanceMethod ({ cls := "CableStreetModel", name := "tick", desc := "()V" } : Jvm.MethodName)) ∈ gU := tb_8 (List.mem_of_getElem? (i := 230) rfl) rfl
theorem cw_1911 : (Jvm.Cond.code ({ cls := "CableStreetModel", name := "tick", desc := "()V" } : Jvm.MethodName) prog_14_method_72_code (4 : Nat) (Option.none : Option Jvm.ClassFile.FieldType)) ∈ gU := tb_8 (List.mem_of_getElem? (i := 231) rfl) rfl
theorem cw_1916 : (Jvm.Cond.methodLink "CableStreetModel" (477 : Nat) ({ cls := "CableStreetModel", name := "carMany", desc := "()I" } : Jvm.MethodName)) ∈ gU := tb_8 (List.mem_of_getElem? (i := 236) rfl) rfl
theorem cw_1918 : (Jvm.Cond.instanceMethod ({ cls := "CableStreetModel", name := "carMany", desc := "()I" } : Jvm.MethodName)) ∈ gU := tb_8 (List.mem_of_getElem? (i := 238) rfl) rfl
theorem cw_1919 : (Jvm.Cond.code ({ cls := "CableStreetModel", name := "carMany", desc := "()I" } : Jvm.MethodName) prog_14_method_46_code (1 : Nat) (Option.some Jvm.ClassFile.FieldType.int)) ∈ gU := tb_8 (List.mem_of_getElem? (i := 239) rfl) rfl
theorem cw_1924 : (Jvm.Cond.methodLink "CableStreetModel" (556 : Nat) ({ cls := "CableStreetModel", name := "ropeAt", desc := "(I)I" } : Jvm.MethodName)) ∈ gU := tb_9 (List.mem_of_getElem? (i := 4) rfl) rfl
theorem cw_1926 : (Jvm.Cond.instanceMethod ({ cls := "CableStreetModel", name := "ropeAt", desc := "(I)I" } : Jvm.MethodName)) ∈ gU := tb_9 (List.mem_of_getElem? (i := 6) rfl) rfl
theorem cw_1927 : (Jvm.Cond.code ({ cls := "CableStreetModel", name := "ropeAt", desc := "(I)I" } : Jvm.MethodName) prog_14_method_51_code (2 : Nat) (Option.some Jvm.ClassFile.FieldType.int)) ∈ gU := tb_9 (List.mem_of_getElem? (i := 7) rfl) rfl
theorem cw_1932 : (Jvm.Cond.methodLink "CableStreetModel" (559 : Nat) ({ cls := "CableStreetModel", name := "gradeAt", desc := "(I)I" } : Jvm.MethodName)) ∈ gU := tb_9 (List.mem_of_getElem? (i := 12) rfl) rfl
theorem cw_1934 : (Jvm.Cond.instanceMethod ({ cls := "CableStreetModel", name := "gradeAt", desc := "(I)I" } : Jvm.MethodName)) ∈ gU := tb_9 (List.mem_of_getElem? (i := 14) rfl) rfl
theorem cw_1935 : (Jvm.Cond.code ({ cls := "CableStreetModel", name := "gradeAt", desc := "(I)I" } : Jvm.MethodName) prog_14_method_50_code (2 : Nat) (Option.some Jvm.ClassFile.FieldType.int)) ∈ gU := tb_9 (List.mem_of_getElem? (i := 15) rfl) rfl
theorem cw_1940 : (Jvm.Cond.methodLink "CableStreetModel" (606 : Nat) ({ cls := "CableStreetModel", name := "moveStrand", desc := "()V" } : Jvm.MethodName)) ∈ gU := tb_9 (List.mem_of_getElem? (i := 20) rfl) rfl
theorem cw_1942 : (Jvm.Cond.instanceMethod ({ cls := "CableStreetModel", name := "moveStrand", desc := "()V" } : Jvm.MethodName)) ∈ gU := tb_9 (List.mem_of_getElem? (i := 22) rfl) rfl
theorem cw_1943 : (Jvm.Cond.code ({ cls := "CableStreetModel", name := "moveStrand", desc := "()V" } : Jvm.MethodName) prog_14_method_65_code (4 : Nat) (Option.none : Option Jvm.ClassFile.FieldType)) ∈ gU := tb_9 (List.mem_of_getElem? (i := 23) rfl) rfl
theorem cw_1972 : (Jvm.Cond.methodLink "CableStreetModel" (596 : Nat) ({ cls := "CableStreetModel", name := "has", desc := "(II)Z" } : Jvm.MethodName)) ∈ gU := tb_9 (List.mem_of_getElem? (i := 52) rfl) rfl
theorem cw_1974 : (Jvm.Cond.instanceMethod ({ cls := "CableStreetModel", name := "has", desc := "(II)Z" } : Jvm.MethodName)) ∈ gU := tb_9 (List.mem_of_getElem? (i := 54) rfl) rfl
theorem cw_1975 : (Jvm.Cond.code ({ cls := "CableStreetModel", name := "has", desc := "(II)Z" } : Jvm.MethodName) prog_14_method_52_code (3 : Nat) (Option.some Jvm.ClassFile.FieldType.boolean)) ∈ gU := tb_9 (List.mem_of_getElem? (i := 55) rfl) rfl
theorem cw_1991 : (Jvm.Cond.methodLink "CableStreetModel" (584 : Nat) ({ cls := "CableStreetModel", name := "coasting", desc := "(II)I" } : Jvm.MethodName)) ∈ gU := tb_9 (List.mem_of_getElem? (i := 71) rfl) rfl
theorem cw_1993 : (Jvm.Cond.instanceMethod ({ cls := "CableStreetModel", name := "coasting", desc := "(II)I" } : Jvm.MethodName)) ∈ gU := tb_9 (List.mem_of_getElem? (i := 73) rfl) rfl
theorem cw_1994 : (Jvm.Cond.code ({ cls := "CableStreetModel", name := "coasting", desc := "(II)I" } : Jvm.MethodName) prog_14_method_71_code (5 : Nat) (Option.some Jvm.ClassFile.FieldType.int)) ∈ gU := tb_9 (List.mem_of_getElem? (i := 74) rfl) rfl
theorem cw_1999 : (Jvm.Cond.methodLink "CableStreetModel" (590 : Nat) ({ cls := "CableStreetModel", name := "crossAt", desc := "(I)I" } : Jvm.MethodName)) ∈ gU := tb_9 (List.mem_of_getElem? (i := 79) rfl) rfl
theorem cw_2001 : (Jvm.Cond.instanceMethod ({ cls := "CableStreetModel", name := "crossAt", desc := "(I)I" } : Jvm.MethodName)) ∈ gU := tb_9 (List.mem_of_getElem? (i := 81) rfl) rfl
theorem cw_2002 : (Jvm.Cond.code ({ cls := "CableStreetModel", name := "crossAt", desc := "(I)I" } : Jvm.MethodName) prog_14_method_39_code (3 : Nat) (Option.some Jvm.ClassFile.FieldType.int)) ∈ gU := tb_9 (List.mem_of_getElem? (i := 82) rfl) rfl
theorem cw_2026 : (Jvm.Cond.methodLink "CableStreetModel" (625 : Nat) ({ cls := "CableStreetModel", name := "going", desc := "()I" } : Jvm.MethodName)) ∈ gU := tb_9 (List.mem_of_getElem? (i := 106) rfl) rfl
theorem cw_2028 : (Jvm.Cond.instanceMethod ({ cls := "CableStreetModel", name := "going", desc := "()I" } : Jvm.MethodName)) ∈ gU := tb_9 (List.mem_of_getElem? (i := 108) rfl) rfl
theorem cw_2029 : (Jvm.Cond.code ({ cls := "CableStreetModel", name := "going", desc := "()I" } : Jvm.MethodName) prog_14_method_75_code (3 : Nat) (Option.some Jvm.ClassFile.FieldType.int)) ∈ gU := tb_9 (List.mem_of_getElem? (i := 109) rfl) rfl
theorem cw_2030 : (Jvm.Cond.methodLink "CableStreetLaw" (40 : Nat) ({ cls := "CableStreetModel", name := "car", desc := "(II)I" } : Jvm.MethodName)) ∈ gU := tb_9 (List.mem_of_getElem? (i := 110) rfl) rfl
theorem cw_2031 : (Jvm.Cond.instanceMethod ({ cls := "CableStreetModel", name := "car", desc := "(II)I" } : Jvm.MethodName)) ∈ gU := tb_9 (List.mem_of_getElem? (i := 111) rfl) rfl
theorem cw_2032 : (Jvm.Cond.selects "CableStreetModel" ({ cls := "CableStreetModel", name := "car", desc := "(II)I" } : Jvm.MethodName) ({ cls := "CableStreetModel", name := "car", desc := "(II)I" } : Jvm.MethodName)) ∈ gU := tb_9 (List.mem_of_getElem? (i := 112) rfl) rfl
theorem cw_2033 : (Jvm.Cond.code ({ cls := "CableStreetModel", name := "car", desc := "(II)I" } : Jvm.MethodName) prog_14_method_77_code (3 : Nat) (Option.some Jvm.ClassFile.FieldType.int)) ∈ gU := tb_9 (List.mem_of_getElem? (i := 113) rfl) rfl
theorem cw_2034 : (Jvm.Cond.methodLink "CableStreetModel" (628 : Nat) ({ cls := "CableStreetModel", name := "isCar", desc := "(I)Z" } : Jvm.MethodName)) ∈ gU := tb_9 (List.mem_of_getElem? (i := 114) rfl) rfl
theorem cw_2036 : (Jvm.Cond.instanceMethod ({ cls := "CableStreetModel", name := "isCar", desc := "(I)Z" } : Jvm.MethodName)) ∈ gU := tb_9 (List.mem_of_getElem? (i := 116) rfl) rfl
theorem cw_2037 : (Jvm.Cond.code ({ cls := "CableStreetModel", name := "isCar", desc := "(I)Z" } : Jvm.MethodName) prog_14_method_47_code (2 : Nat) (Option.some Jvm.ClassFile.FieldType.boolean)) ∈ gU := tb_9 (List.mem_of_getElem? (i := 117) rfl) rfl
theorem cw_2038 : (Jvm.Cond.methodLink "CableStreetLaw" (44 : Nat) ({ cls := "CableStreetModel", name := "speed", desc := "(I)I" } : Jvm.MethodName)) ∈ gU := tb_9 (List.mem_of_getElem? (i := 118) rfl) rfl
theorem cw_2039 : (Jvm.Cond.instanceMethod ({ cls := "CableStreetModel", name := "speed", desc := "(I)I" } : Jvm.MethodName)) ∈ gU := tb_9 (List.mem_of_getElem? (i := 119) rfl) rfl
theorem cw_2040 : (Jvm.Cond.selects "CableStreetModel" ({ cls := "CableStreetModel", name := "speed", desc := "(I)I" } : Jvm.MethodName) ({ cls := "CableStreetModel", name := "speed", desc := "(I)I" } : Jvm.MethodName)) ∈ gU := tb_9 (List.mem_of_getElem? (i := 120) rfl) rfl
theorem cw_2041 : (Jvm.Cond.code ({ cls := "CableStreetModel", name := "speed", desc := "(I)I" } : Jvm.MethodName) prog_14_method_78_code (2 : Nat) (Option.some Jvm.ClassFile.FieldType.int)) ∈ gU := tb_9 (List.mem_of_getElem? (i := 121) rfl) rfl
theorem cw_2042 : (Jvm.Cond.methodLink "CableStreetLaw" (48 : Nat) ({ cls := "CableStreetModel", name := "rope", desc := "(II)I" } : Jvm.MethodName)) ∈ gU := tb_9 (List.mem_of_getElem? (i := 122) rfl) rfl
theorem cw_2043 : (Jvm.Cond.instanceMethod ({ cls := "CableStreetModel", name := "rope", desc := "(II)I" } : Jvm.MethodName)) ∈ gU := tb_9 (List.mem_of_getElem? (i := 123) rfl) rfl
theorem cw_2044 : (Jvm.Cond.selects "CableStreetModel" ({ cls := "CableStreetModel", name := "rope", desc := "(II)I" } : Jvm.MethodName) ({ cls := "CableStreetModel", name := "rope", desc := "(II)I" } : Jvm.MethodName)) ∈ gU := tb_9 (List.mem_of_getElem? (i := 124) rfl) rfl
theorem cw_2045 : (Jvm.Cond.code ({ cls := "CableStreetModel", name := "rope", desc := "(II)I" } : Jvm.MethodName) prog_14_method_79_code (3 : Nat) (Option.some Jvm.ClassFile.FieldType.int)) ∈ gU := tb_9 (List.mem_of_getElem? (i := 125) rfl) rfl
theorem cw_2046 : (Jvm.Cond.methodLink "CableStreetModel" (631 : Nat) ({ cls := "CableStreetModel", name := "isRope", desc := "(I)Z" } : Jvm.MethodName)) ∈ gU := tb_9 (List.mem_of_getElem? (i := 126) rfl) rfl
theorem cw_2048 : (Jvm.Cond.instanceMethod ({ cls := "CableStreetModel", name := "isRope", desc := "(I)Z" } : Jvm.MethodName)) ∈ gU := tb_9 (List.mem_of_getElem? (i := 128) rfl) rfl
theorem cw_2049 : (Jvm.Cond.code ({ cls := "CableStreetModel", name := "isRope", desc := "(I)Z" } : Jvm.MethodName) prog_14_method_48_code (2 : Nat) (Option.some Jvm.ClassFile.FieldType.boolean)) ∈ gU := tb_9 (List.mem_of_getElem? (i := 129) rfl) rfl
theorem cw_2050 : (Jvm.Cond.methodLink "CableStreetLaw" (52 : Nat) ({ cls := "CableStreetModel", name := "count", desc := "(I)I" } : Jvm.MethodName)) ∈ gU := tb_9 (List.mem_of_getElem? (i := 130) rfl) rfl
theorem cw_2051 : (Jvm.Cond.instanceMethod ({ cls := "CableStreetModel", name := "count", desc := "(I)I" } : Jvm.MethodName)) ∈ gU := tb_9 (List.mem_of_getElem? (i := 131) rfl) rfl
theorem cw_2052 : (Jvm.Cond.selects "CableStreetModel" ({ cls := "CableStreetModel", name := "count", desc := "(I)I" } : Jvm.MethodName) ({ cls := "CableStreetModel", name := "count", desc := "(I)I" } : Jvm.MethodName)) ∈ gU := tb_9 (List.mem_of_getElem? (i := 132) rfl) rfl
theorem cw_2053 : (Jvm.Cond.code ({ cls := "CableStreetModel", name := "count", desc := "(I)I" } : Jvm.MethodName) prog_14_method_80_code (2 : Nat) (Option.some Jvm.ClassFile.FieldType.int)) ∈ gU := tb_9 (List.mem_of_getElem? (i := 133) rfl) rfl
theorem cw_2054 : (Jvm.Cond.methodLink "CableStreetLaw" (57 : Nat) ({ cls := "CableStreetModel", name := "strand", desc := "(II)Z" } : Jvm.MethodName)) ∈ gU := tb_9 (List.mem_of_getElem? (i := 134) rfl) rfl
theorem cw_2055 : (Jvm.Cond.instanceMethod ({ cls := "CableStreetModel", name := "strand", desc := "(II)Z" } : Jvm.MethodName)) ∈ gU := tb_9 (List.mem_of_getElem? (i := 135) rfl) rfl
theorem cw_2056 : (Jvm.Cond.selects "CableStreetModel" ({ cls := "CableStreetModel", name := "strand", desc := "(II)Z" } : Jvm.MethodName) ({ cls := "CableStreetModel", name := "strand", desc := "(II)Z" } : Jvm.MethodName)) ∈ gU := tb_9 (List.mem_of_getElem? (i := 136) rfl) rfl
theorem cw_2057 : (Jvm.Cond.code ({ cls := "CableStreetModel", name := "strand", desc := "(II)Z" } : Jvm.MethodName) prog_14_method_82_code (3 : Nat) (Option.some Jvm.ClassFile.FieldType.boolean)) ∈ gU := tb_9 (List.mem_of_getElem? (i := 137) rfl) rfl
theorem cw_2058 : (Jvm.Cond.methodLink "CableStreetModel" (634 : Nat) ({ cls := "CableStreetModel", name := "isPlace", desc := "(II)Z" } : Jvm.MethodName)) ∈ gU := tb_9 (List.mem_of_getElem? (i := 138) rfl) rfl
theorem cw_2060 : (Jvm.Cond.instanceMethod ({ cls := "CableStreetModel", name := "isPlace", desc := "(II)Z" } : Jvm.MethodName)) ∈ gU := tb_9 (List.mem_of_getElem? (i := 140) rfl) rfl
theorem cw_2061 : (Jvm.Cond.code ({ cls := "CableStreetModel", name := "isPlace", desc := "(II)Z" } : Jvm.MethodName) prog_14_method_81_code (3 : Nat) (Option.some Jvm.ClassFile.FieldType.boolean)) ∈ gU := tb_9 (List.mem_of_getElem? (i := 141) rfl) rfl
theorem cw_2062 : (Jvm.Cond.methodLink "CableStreetLaw" (61 : Nat) ({ cls := "CableStreetModel", name := "strandNow", desc := "(I)I" } : Jvm.MethodName)) ∈ gU := tb_9 (List.mem_of_getElem? (i := 142) rfl) rfl
theorem cw_2063 : (Jvm.Cond.instanceMethod ({ cls := "CableStreetModel", name := "strandNow", desc := "(I)I" } : Jvm.MethodName)) ∈ gU := tb_9 (List.mem_of_getElem? (i := 143) rfl) rfl
theorem cw_2064 : (Jvm.Cond.selects "CableStreetModel" ({ cls := "CableStreetModel", name := "strandNow", desc := "(I)I" } : Jvm.MethodName) ({ cls := "CableStreetModel", name := "strandNow", desc := "(I)I" } : Jvm.MethodName)) ∈ gU := tb_9 (List.mem_of_getElem? (i := 144) rfl) rfl
theorem cw_2065 : (Jvm.Cond.code ({ cls := "CableStreetModel", name := "strandNow", desc := "(I)I" } : Jvm.MethodName) prog_14_method_83_code (2 : Nat) (Option.some Jvm.ClassFile.FieldType.int)) ∈ gU := tb_9 (List.mem_of_getElem? (i := 145) rfl) rfl
theorem cw_2066 : (Jvm.Cond.methodLink "CableStreetLaw" (66 : Nat) ({ cls := "CableStreetModel", name := "free", desc := "(I)Z" } : Jvm.MethodName)) ∈ gU := tb_9 (List.mem_of_getElem? (i := 146) rfl) rfl
theorem cw_2067 : (Jvm.Cond.instanceMethod ({ cls := "CableStreetModel", name := "free", desc := "(I)Z" } : Jvm.MethodName)) ∈ gU := tb_9 (List.mem_of_getElem? (i := 147) rfl) rfl
theorem cw_2068 : (Jvm.Cond.selects "CableStreetModel" ({ cls := "CableStreetModel", name := "free", desc := "(I)Z" } : Jvm.MethodName) ({ cls := "CableStreetModel", name := "free", desc := "(I)Z" } : Jvm.MethodName)) ∈ gU := tb_9 (List.mem_of_getElem? (i := 148) rfl) rfl
theorem cw_2069 : (Jvm.Cond.code ({ cls := "CableStreetModel", name := "free", desc := "(I)Z" } : Jvm.MethodName) prog_14_method_84_code (2 : Nat) (Option.some Jvm.ClassFile.FieldType.boolean)) ∈ gU := tb_9 (List.mem_of_getElem? (i := 149) rfl) rfl
theorem cw_2070 : (Jvm.Cond.methodLink "CableStreetLaw" (70 : Nat) ({ cls := "CableStreetModel", name := "splice", desc := "(II)I" } : Jvm.MethodName)) ∈ gU := tb_9 (List.mem_of_getElem? (i := 150) rfl) rfl
theorem cw_2071 : (Jvm.Cond.instanceMethod ({ cls := "CableStreetModel", name := "splice", desc := "(II)I" } : Jvm.MethodName)) ∈ gU := tb_9 (List.mem_of_getElem? (i := 151) rfl) rfl
theorem cw_2072 : (Jvm.Cond.selects "CableStreetModel" ({ cls := "CableStreetModel", name := "splice", desc := "(II)I" } : Jvm.MethodName) ({ cls := "CableStreetModel", name := "splice", desc := "(II)I" } : Jvm.MethodName)) ∈ gU := tb_9 (List.mem_of_getElem? (i := 152) rfl) rfl
theorem cw_2073 : (Jvm.Cond.code ({ cls := "CableStreetModel", name := "splice", desc := "(II)I" } : Jvm.MethodName) prog_14_method_85_code (4 : Nat) (Option.some Jvm.ClassFile.FieldType.int)) ∈ gU := tb_9 (List.mem_of_getElem? (i := 153) rfl) rfl
theorem cw_2074 : (Jvm.Cond.methodLink "CableStreetLaw" (82 : Nat) ({ cls := "CableStreetModel", name := "halt", desc := "(I)I" } : Jvm.MethodName)) ∈ gU := tb_9 (List.mem_of_getElem? (i := 154) rfl) rfl
theorem cw_2075 : (Jvm.Cond.instanceMethod ({ cls := "CableStreetModel", name := "halt", desc := "(I)I" } : Jvm.MethodName)) ∈ gU := tb_9 (List.mem_of_getElem? (i := 155) rfl) rfl
theorem cw_2076 : (Jvm.Cond.selects "CableStreetModel" ({ cls := "CableStreetModel", name := "halt", desc := "(I)I" } : Jvm.MethodName) ({ cls := "CableStreetModel", name := "halt", desc := "(I)I" } : Jvm.MethodName)) ∈ gU := tb_9 (List.mem_of_getElem? (i := 156) rfl) rfl
theorem cw_2077 : (Jvm.Cond.code ({ cls := "CableStreetModel", name := "halt", desc := "(I)I" } : Jvm.MethodName) prog_14_method_86_code (4 : Nat) (Option.some Jvm.ClassFile.FieldType.int)) ∈ gU := tb_9 (List.mem_of_getElem? (i := 157) rfl) rfl
theorem cw_2078 : (Jvm.Cond.methodLink "CableStreetLaw" (86 : Nat) ({ cls := "CableStreetModel", name := "rolls", desc := "()I" } : Jvm.MethodName)) ∈ gU := tb_9 (List.mem_of_getElem? (i := 158) rfl) rfl
theorem cw_2079 : (Jvm.Cond.instanceMethod ({ cls := "CableStreetModel", name := "rolls", desc := "()I" } : Jvm.MethodName)) ∈ gU := tb_9 (List.mem_of_getElem? (i := 159) rfl) rfl
theorem cw_2080 : (Jvm.Cond.selects "CableStreetModel" ({ cls := "CableStreetModel", name := "rolls", desc := "()I" } : Jvm.MethodName) ({ cls := "CableStreetModel", name := "rolls", desc := "()I" } : Jvm.MethodName)) ∈ gU := tb_9 (List.mem_of_getElem? (i := 160) rfl) rfl
theorem cw_2081 : (Jvm.Cond.code ({ cls := "CableStreetModel", name := "rolls", desc := "()I" } : Jvm.MethodName) prog_14_method_87_code (3 : Nat) (Option.some Jvm.ClassFile.FieldType.int)) ∈ gU := tb_9 (List.mem_of_getElem? (i := 161) rfl) rfl
theorem cw_2082 : (Jvm.Cond.methodLink "CableStreetLaw" (90 : Nat) ({ cls := "CableStreetModel", name := "trips", desc := "(I)I" } : Jvm.MethodName)) ∈ gU := tb_9 (List.mem_of_getElem? (i := 162) rfl) rfl
theorem cw_2083 : (Jvm.Cond.instanceMethod ({ cls := "CableStreetModel", name := "trips", desc := "(I)I" } : Jvm.MethodName)) ∈ gU := tb_9 (List.mem_of_getElem? (i := 163) rfl) rfl
theorem cw_2084 : (Jvm.Cond.selects "CableStreetModel" ({ cls := "CableStreetModel", name := "trips", desc := "(I)I" } : Jvm.MethodName) ({ cls := "CableStreetModel", name := "trips", desc := "(I)I" } : Jvm.MethodName)) ∈ gU := tb_9 (List.mem_of_getElem? (i := 164) rfl) rfl
theorem cw_2085 : (Jvm.Cond.code ({ cls := "CableStreetModel", name := "trips", desc := "(I)I" } : Jvm.MethodName) prog_14_method_88_code (2 : Nat) (Option.some Jvm.ClassFile.FieldType.int)) ∈ gU := tb_9 (List.mem_of_getElem? (i := 165) rfl) rfl
theorem cw_2086 : (Jvm.Cond.methodLink "CableStreetLaw" (94 : Nat) ({ cls := "CableStreetModel", name := "asks", desc := "(II)I" } : Jvm.MethodName)) ∈ gU := tb_9 (List.mem_of_getElem? (i := 166) rfl) rfl
theorem cw_2087 : (Jvm.Cond.instanceMethod ({ cls := "CableStreetModel", name := "asks", desc := "(II)I" } : Jvm.MethodName)) ∈ gU := tb_9 (List.mem_of_getElem? (i := 167) rfl) rfl
theorem cw_2088 : (Jvm.Cond.selects "CableStreetModel" ({ cls := "CableStreetModel", name := "asks", desc := "(II)I" } : Jvm.MethodName) ({ cls := "CableStreetModel", name := "asks", desc := "(II)I" } : Jvm.MethodName)) ∈ gU := tb_9 (List.mem_of_getElem? (i := 168) rfl) rfl
theorem cw_2089 : (Jvm.Cond.code ({ cls := "CableStreetModel", name := "asks", desc := "(II)I" } : Jvm.MethodName) prog_14_method_89_code (4 : Nat) (Option.some Jvm.ClassFile.FieldType.int)) ∈ gU := tb_9 (List.mem_of_getElem? (i := 169) rfl) rfl
theorem cw_2090 : (Jvm.Cond.constant "CableStreetModel" (637 : Nat) (-1000000 : Int32)) ∈ gU := tb_9 (List.mem_of_getElem? (i := 170) rfl) rfl
theorem cw_2091 : (Jvm.Cond.methodLink "CableStreetLaw" (98 : Nat) ({ cls := "CableStreetModel", name := "event", desc := "(II)I" } : Jvm.MethodName)) ∈ gU := tb_9 (List.mem_of_getElem? (i := 171) rfl) rfl
theorem cw_2092 : (Jvm.Cond.instanceMethod ({ cls := "CableStreetModel", name := "event", desc := "(II)I" } : Jvm.MethodName)) ∈ gU := tb_9 (List.mem_of_getElem? (i := 172) rfl) rfl
theorem cw_2093 : (Jvm.Cond.selects "CableStreetModel" ({ cls := "CableStreetModel", name := "event", desc := "(II)I" } : Jvm.MethodName) ({ cls := "CableStreetModel", name := "event", desc := "(II)I" } : Jvm.MethodName)) ∈ gU := tb_9 (List.mem_of_getElem? (i := 173) rfl) rfl
theorem cw_2094 : (Jvm.Cond.code ({ cls := "CableStreetModel", name := "event", desc := "(II)I" } : Jvm.MethodName) prog_14_method_90_code (3 : Nat) (Option.some Jvm.ClassFile.FieldType.int)) ∈ gU := tb_9 (List.mem_of_getElem? (i := 174) rfl) rfl
theorem cw_2095 : (Jvm.Cond.methodLink "CableStreetLaw" (74 : Nat) ({ cls := "CableStreetModel", name := "due", desc := "(I)I" } : Jvm.MethodName)) ∈ gU := tb_9 (List.mem_of_getElem? (i := 175) rfl) rfl
theorem cw_2096 : (Jvm.Cond.instanceMethod ({ cls := "CableStreetModel", name := "due", desc := "(I)I" } : Jvm.MethodName)) ∈ gU := tb_9 (List.mem_of_getElem? (i := 176) rfl) rfl
theorem cw_2097 : (Jvm.Cond.selects "CableStreetModel" ({ cls := "CableStreetModel", name := "due", desc := "(I)I" } : Jvm.MethodName) ({ cls := "CableStreetModel", name := "due", desc := "(I)I" } : Jvm.MethodName)) ∈ gU := tb_9 (List.mem_of_getElem? (i := 177) rfl) rfl
theorem cw_2098 : (Jvm.Cond.code ({ cls := "CableStreetModel", name := "due", desc := "(I)I" } : Jvm.MethodName) prog_14_method_91_code (4 : Nat) (Option.some Jvm.ClassFile.FieldType.int)) ∈ gU := tb_9 (List.mem_of_getElem? (i := 178) rfl) rfl
theorem cw_2099 : (Jvm.Cond.methodLink "CableStreetModel" (638 : Nat) ({ cls := "CableStreetModel", name := "keep", desc := "(I)V" } : Jvm.MethodName)) ∈ gU := tb_9 (List.mem_of_getElem? (i := 179) rfl) rfl
theorem cw_2101 : (Jvm.Cond.instanceMethod ({ cls := "CableStreetModel", name := "keep", desc := "(I)V" } : Jvm.MethodName)) ∈ gU := tb_9 (List.mem_of_getElem? (i := 181) rfl) rfl
theorem cw_2102 : (Jvm.Cond.code ({ cls := "CableStreetModel", name := "keep", desc := "(I)V" } : Jvm.MethodName) prog_14_method_114_code (5 : Nat) (Option.none : Option Jvm.ClassFile.FieldType)) ∈ gU := tb_9 (List.mem_of_getElem? (i := 182) rfl) rfl
theorem cw_2103 : (Jvm.Cond.methodLink "CableStreetModel" (684 : Nat) ({ cls := "CableStreetModel", name := "keepEvents", desc := "(I)V" } : Jvm.MethodName)) ∈ gU := tb_9 (List.mem_of_getElem? (i := 183) rfl) rfl
theorem cw_2105 : (Jvm.Cond.instanceMethod ({ cls := "CableStreetModel", name := "keepEvents", desc := "(I)V" } : Jvm.MethodName)) ∈ gU := tb_9 (List.mem_of_getElem? (i := 185) rfl) rfl
theorem cw_2106 : (Jvm.Cond.code ({ cls := "CableStreetModel", name := "keepEvents", desc := "(I)V" } : Jvm.MethodName) prog_14_method_116_code (4 : Nat) (Option.none : Option Jvm.ClassFile.FieldType)) ∈ gU := tb_9 (List.mem_of_getElem? (i := 186) rfl) rfl
theorem cw_2111 : (Jvm.Cond.methodLink "CableStreetModel" (644 : Nat) ({ cls := "CableStreetModel", name := "bring", desc := "(I)V" } : Jvm.MethodName)) ∈ gU := tb_9 (List.mem_of_getElem? (i := 191) rfl) rfl
theorem cw_2113 : (Jvm.Cond.instanceMethod ({ cls := "CableStreetModel", name := "bring", desc := "(I)V" } : Jvm.MethodName)) ∈ gU := tb_9 (List.mem_of_getElem? (i := 193) rfl) rfl
theorem cw_2114 : (Jvm.Cond.code ({ cls := "CableStreetModel", name := "bring", desc := "(I)V" } : Jvm.MethodName) prog_14_method_115_code (5 : Nat) (Option.none : Option Jvm.ClassFile.FieldType)) ∈ gU := tb_9 (List.mem_of_getElem? (i := 194) rfl) rfl
theorem cw_2115 : (Jvm.Cond.methodLink "CableStreetModel" (687 : Nat) ({ cls := "CableStreetModel", name := "bringEvents", desc := "(I)V" } : Jvm.MethodName)) ∈ gU := tb_9 (List.mem_of_getElem? (i := 195) rfl) rfl
theorem cw_2117 : (Jvm.Cond.instanceMethod ({ cls := "CableStreetModel", name := "bringEvents", desc := "(I)V" } : Jvm.MethodName)) ∈ gU := tb_9 (List.mem_of_getElem? (i := 197) rfl) rfl
theorem cw_2118 : (Jvm.Cond.code ({ cls := "CableStreetModel", name := "bringEvents", desc := "(I)V" } : Jvm.MethodName) prog_14_method_117_code (4 : Nat) (Option.none : Option Jvm.ClassFile.FieldType)) ∈ gU := tb_9 (List.mem_of_getElem? (i := 198) rfl) rfl
theorem cw_2119 : (Jvm.Cond.methodLink "CableStreetLaw" (78 : Nat) ({ cls := "CableStreetModel", name := "cost", desc := "(II)I" } : Jvm.MethodName)) ∈ gU := tb_9 (List.mem_of_getElem? (i := 199) rfl) rfl
theorem cw_2120 : (Jvm.Cond.instanceMethod ({ cls := "CableStreetModel", name := "cost", desc := "(II)I" } : Jvm.MethodName)) ∈ gU := tb_9 (List.mem_of_getElem? (i := 200) rfl) rfl
theorem cw_2121 : (Jvm.Cond.selects "CableStreetModel" ({ cls := "CableStreetModel", name := "cost", desc := "(II)I" } : Jvm.MethodName) ({ cls := "CableStreetModel", name := "cost", desc := "(II)I" } : Jvm.MethodName)) ∈ gU := tb_9 (List.mem_of_getElem? (i := 201) rfl) rfl
theorem cw_2122 : (Jvm.Cond.code ({ cls := "CableStreetModel", name := "cost", desc := "(II)I" } : Jvm.MethodName) prog_14_method_93_code (6 : Nat) (Option.some Jvm.ClassFile.FieldType.int)) ∈ gU := tb_9 (List.mem_of_getElem? (i := 202) rfl) rfl
theorem cw_2123 : (Jvm.Cond.methodLink "CableStreetModel" (647 : Nat) ({ cls := "CableStreetModel", name := "isSegment", desc := "(I)Z" } : Jvm.MethodName)) ∈ gU := tb_9 (List.mem_of_getElem? (i := 203) rfl) rfl
theorem cw_2124 : (Jvm.Cond.static ({ cls := "CableStreetModel", name := "isSegment", desc := "(I)Z" } : Jvm.MethodName)) ∈ gU := tb_9 (List.mem_of_getElem? (i := 204) rfl) rfl
theorem cw_2125 : (Jvm.Cond.code ({ cls := "CableStreetModel", name := "isSegment", desc := "(I)Z" } : Jvm.MethodName) prog_14_method_49_code (1 : Nat) (Option.some Jvm.ClassFile.FieldType.boolean)) ∈ gU := tb_9 (List.mem_of_getElem? (i := 205) rfl) rfl
theorem cw_2127 : (Jvm.Cond.instanceMethod ({ cls := "CableStreetModel", name := "power", desc := "(II)I" } : Jvm.MethodName)) ∈ gU := tb_9 (List.mem_of_getElem? (i := 207) rfl) rfl
theorem cw_2128 : (Jvm.Cond.selects "CableStreetModel" ({ cls := "CableStreetModel", name := "power", desc := "(II)I" } : Jvm.MethodName) ({ cls := "CableStreetModel", name := "power", desc := "(II)I" } : Jvm.MethodName)) ∈ gU := tb_9 (List.mem_of_getElem? (i := 208) rfl) rfl
theorem cw_2129 : (Jvm.Cond.code ({ cls := "CableStreetModel", name := "power", desc := "(II)I" } : Jvm.MethodName) prog_14_method_102_code (8 : Nat) (Option.some Jvm.ClassFile.FieldType.int)) ∈ gU := tb_9 (List.mem_of_getElem? (i := 209) rfl) rfl
theorem cw_2130 : (Jvm.Cond.methodLink "CableStreetLaw" (103 : Nat) ({ cls := "CableStreetModel", name := "coasts", desc := "(III)I" } : Jvm.MethodName)) ∈ gU := tb_9 (List.mem_of_getElem? (i := 210) rfl) rfl
theorem cw_2131 : (Jvm.Cond.instanceMethod ({ cls := "CableStreetModel", name := "coasts", desc := "(III)I" } : Jvm.MethodName)) ∈ gU := tb_9 (List.mem_of_getElem? (i := 211) rfl) rfl
theorem cw_2132 : (Jvm.Cond.selects "CableStreetModel" ({ cls := "CableStreetModel", name := "coasts", desc := "(III)I" } : Jvm.MethodName) ({ cls := "CableStreetModel", name := "coasts", desc := "(III)I" } : Jvm.MethodName)) ∈ gU := tb_9 (List.mem_of_getElem? (i := 212) rfl) rfl
theorem cw_2133 : (Jvm.Cond.code ({ cls := "CableStreetModel", name := "coasts", desc := "(III)I" } : Jvm.MethodName) prog_14_method_96_code (4 : Nat) (Option.some Jvm.ClassFile.FieldType.int)) ∈ gU := tb_9 (List.mem_of_getElem? (i := 213) rfl) rfl
theorem cw_2134 : (Jvm.Cond.methodLink "CableStreetModel" (666 : Nat) ({ cls := "CableStreetModel", name := "coast", desc := "(II)V" } : Jvm.MethodName)) ∈ gU := tb_9 (List.mem_of_getElem? (i := 214) rfl) rfl
theorem cw_2136 : (Jvm.Cond.instanceMethod ({ cls := "CableStreetModel", name := "coast", desc := "(II)V" } : Jvm.MethodName)) ∈ gU := tb_9 (List.mem_of_getElem? (i := 216) rfl) rfl
theorem cw_2137 : (Jvm.Cond.code ({ cls := "CableStreetModel", name := "coast", desc := "(II)V" } : Jvm.MethodName) prog_14_method_95_code (7 : Nat) (Option.none : Option Jvm.ClassFile.FieldType)) ∈ gU := tb_9 (List.mem_of_getElem? (i := 217) rfl) rfl
theorem cw_2138 : (Jvm.Cond.methodLink "CableStreetModel" (663 : Nat) ({ cls := "CableStreetModel", name := "signOf", desc := "(I)I" } : Jvm.MethodName)) ∈ gU := tb_9 (List.mem_of_getElem? (i := 218) rfl) rfl
theorem cw_2139 : (Jvm.Cond.static ({ cls := "CableStreetModel", name := "signOf", desc := "(I)I" } : Jvm.MethodName)) ∈ gU := tb_9 (List.mem_of_getElem? (i := 219) rfl) rfl
theorem cw_2140 : (Jvm.Cond.code ({ cls := "CableStreetModel", name := "signOf", desc := "(I)I" } : Jvm.MethodName) prog_14_method_94_code (1 : Nat) (Option.some Jvm.ClassFile.FieldType.int)) ∈ gU := tb_9 (List.mem_of_getElem? (i := 220) rfl) rfl
theorem cw_2141 : (Jvm.Cond.methodLink "CableStreetLaw" (107 : Nat) ({ cls := "CableStreetModel", name := "need", desc := "(I)I" } : Jvm.MethodName)) ∈ gU := tb_9 (List.mem_of_getElem? (i := 221) rfl) rfl
theorem cw_2142 : (Jvm.Cond.instanceMethod ({ cls := "CableStreetModel", name := "need", desc := "(I)I" } : Jvm.MethodName)) ∈ gU := tb_9 (List.mem_of_getElem? (i := 222) rfl) rfl
theorem cw_2143 : (Jvm.Cond.selects "CableStreetModel" ({ cls := "CableStreetModel", name := "need", desc := "(I)I" } : Jvm.MethodName) ({ cls := "CableStreetModel", name := "need", desc := "(I)I" } : Jvm.MethodName)) ∈ gU := tb_9 (List.mem_of_getElem? (i := 223) rfl) rfl
theorem cw_2144 : (Jvm.Cond.code ({ cls := "CableStreetModel", name := "need", desc := "(I)I" } : Jvm.MethodName) prog_14_method_97_code (3 : Nat) (Option.some Jvm.ClassFile.FieldType.int)) ∈ gU := tb_9 (List.mem_of_getElem? (i := 224) rfl) rfl
theorem cw_2145 : (Jvm.Cond.methodLink "CableStreetLaw" (111 : Nat) ({ cls := "CableStreetModel", name := "takes", desc := "()I" } : Jvm.MethodName)) ∈ gU := tb_9 (List.mem_of_getElem? (i := 225) rfl) rfl
theorem cw_2146 : (Jvm.Cond.instanceMethod ({ cls := "CableStreetModel", name := "takes", desc := "()I" } : Jvm.MethodName)) ∈ gU := tb_9 (List.mem_of_getElem? (i := 226) rfl) rfl
theorem cw_2147 : (Jvm.Cond.selects "CableStreetModel" ({ cls := "CableStreetModel", name := "takes", desc := "()I" } : Jvm.MethodName) ({ cls := "CableStreetModel", name := "takes", desc := "()I" } : Jvm.MethodName)) ∈ gU := tb_9 (List.mem_of_getElem? (i := 227) rfl) rfl
theorem cw_2148 : (Jvm.Cond.code ({ cls := "CableStreetModel", name := "takes", desc := "()I" } : Jvm.MethodName) prog_14_method_98_code (3 : Nat) (Option.some Jvm.ClassFile.FieldType.int)) ∈ gU := tb_9 (List.mem_of_getElem? (i := 228) rfl) rfl
theorem cw_2149 : (Jvm.Cond.methodLink "CableStreetLaw" (115 : Nat) ({ cls := "CableStreetModel", name := "head", desc := "(I)I" } : Jvm.MethodName)) ∈ gU := tb_9 (List.mem_of_getElem? (i := 229) rfl) rfl
theorem cw_2150 : (Jvm.Cond.instanceMethod ({ cls := "CableStreetModel", name := "head", desc := "(I)I" } : Jvm.MethodName)) ∈ gU := tb_9 (List.mem_of_getElem? (i := 230) rfl) rfl
theorem cw_2151 : (Jvm.Cond.selects "CableStreetModel" ({ cls := "CableStreetModel", name := "head", desc := "(I)I" } : Jvm.MethodName) ({ cls := "CableStreetModel", name := "head", desc := "(I)I" } : Jvm.MethodName)) ∈ gU := tb_9 (List.mem_of_getElem? (i := 231) rfl) rfl
theorem cw_2152 : (Jvm.Cond.code ({ cls := "CableStreetModel", name := "head", desc := "(I)I" } : Jvm.MethodName) prog_14_method_100_code (3 : Nat) (Option.some Jvm.ClassFile.FieldType.int)) ∈ gU := tb_9 (List.mem_of_getElem? (i := 232) rfl) rfl
theorem cw_2153 : (Jvm.Cond.methodLink "CableStreetModel" (669 : Nat) ({ cls := "CableStreetModel", name := "headOf", desc := "(I)I" } : Jvm.MethodName)) ∈ gU := tb_9 (List.mem_of_getElem? (i := 233) rfl) rfl
theorem cw_2155 : (Jvm.Cond.instanceMethod ({ cls := "CableStreetModel", name := "headOf", desc := "(I)I" } : Jvm.MethodName)) ∈ gU := tb_9 (List.mem_of_getElem? (i := 235) rfl) rfl
theorem cw_2156 : (Jvm.Cond.code ({ cls := "CableStreetModel", name := "headOf", desc := "(I)I" } : Jvm.MethodName) prog_14_method_99_code (7 : Nat) (Option.some Jvm.ClassFile.FieldType.int)) ∈ gU := tb_9 (List.mem_of_getElem? (i := 236) rfl) rfl
theorem cw_2157 : (Jvm.Cond.methodLink "CableStreetLaw" (119 : Nat) ({ cls := "CableStreetModel", name := "spread", desc := "(II)I" } : Jvm.MethodName)) ∈ gU := tb_9 (List.mem_of_getElem? (i := 237) rfl) rfl
theorem cw_2158 : (Jvm.Cond.instanceMethod ({ cls := "CableStreetModel", name := "spread", desc := "(II)I" } : Jvm.MethodName)) ∈ gU := tb_9 (List.mem_of_getElem? (i := 238) rfl) rfl
theorem cw_2159 : (Jvm.Cond.selects "CableStreetModel" ({ cls := "CableStreetModel", name := "spread", desc := "(II)I" } : Jvm.MethodName) ({ cls := "CableStreetModel", name := "spread", desc := "(II)I" } : Jvm.MethodName)) ∈ gU := tb_9 (List.mem_of_getElem? (i := 239) rfl) rfl
theorem cw_2160 : (Jvm.Cond.code ({ cls := "CableStreetModel", name := "spread", desc := "(II)I" } : Jvm.MethodName) prog_14_method_101_code (7 : Nat) (Option.some Jvm.ClassFile.FieldType.int)) ∈ gU := tb_10 (List.mem_of_getElem? (i := 0) rfl) rfl
theorem cw_2161 : (Jvm.Cond.methodLink "CableStreetLaw" (123 : Nat) ({ cls := "CableStreetModel", name := "power", desc := "(II)I" } : Jvm.MethodName)) ∈ gU := tb_10 (List.mem_of_getElem? (i := 1) rfl) rfl
theorem cw_2162 : (Jvm.Cond.methodLink "CableStreetLaw" (127 : Nat) ({ cls := "CableStreetModel", name := "runaway", desc := "(II)I" } : Jvm.MethodName)) ∈ gU := tb_10 (List.mem_of_getElem? (i := 2) rfl) rfl
theorem cw_2163 : (Jvm.Cond.instanceMethod ({ cls := "CableStreetModel", name := "runaway", desc := "(II)I" } : Jvm.MethodName)) ∈ gU := tb_10 (List.mem_of_getElem? (i := 3) rfl) rfl
theorem cw_2164 : (Jvm.Cond.selects "CableStreetModel" ({ cls := "CableStreetModel", name := "runaway", desc := "(II)I" } : Jvm.MethodName) ({ cls := "CableStreetModel", name := "runaway", desc := "(II)I" } : Jvm.MethodName)) ∈ gU := tb_10 (List.mem_of_getElem? (i := 4) rfl) rfl
theorem cw_2165 : (Jvm.Cond.code ({ cls := "CableStreetModel", name := "runaway", desc := "(II)I" } : Jvm.MethodName) prog_14_method_103_code (8 : Nat) (Option.some Jvm.ClassFile.FieldType.int)) ∈ gU := tb_10 (List.mem_of_getElem? (i := 5) rfl) rfl
theorem cw_2166 : (Jvm.Cond.methodLink "CableStreetLaw" (131 : Nat) ({ cls := "CableStreetModel", name := "order", desc := "(I)I" } : Jvm.MethodName)) ∈ gU := tb_10 (List.mem_of_getElem? (i := 6) rfl) rfl
theorem cw_2167 : (Jvm.Cond.instanceMethod ({ cls := "CableStreetModel", name := "order", desc := "(I)I" } : Jvm.MethodName)) ∈ gU := tb_10 (List.mem_of_getElem? (i := 7) rfl) rfl
theorem cw_2168 : (Jvm.Cond.selects "CableStreetModel" ({ cls := "CableStreetModel", name := "order", desc := "(I)I" } : Jvm.MethodName) ({ cls := "CableStreetModel", name := "order", desc := "(I)I" } : Jvm.MethodName)) ∈ gU := tb_10 (List.mem_of_getElem? (i := 8) rfl) rfl
theorem cw_2169 : (Jvm.Cond.code ({ cls := "CableStreetModel", name := "order", desc := "(I)I" } : Jvm.MethodName) prog_14_method_104_code (7 : Nat) (Option.some Jvm.ClassFile.FieldType.int)) ∈ gU := tb_10 (List.mem_of_getElem? (i := 9) rfl) rfl
theorem cw_2170 : (Jvm.Cond.methodLink "CableStreetLaw" (135 : Nat) ({ cls := "CableStreetModel", name := "where", desc := "(III)I" } : Jvm.MethodName)) ∈ gU := tb_10 (List.mem_of_getElem? (i := 10) rfl) rfl
theorem cw_2171 : (Jvm.Cond.instanceMethod ({ cls := "CableStreetModel", name := "where", desc := "(III)I" } : Jvm.MethodName)) ∈ gU := tb_10 (List.mem_of_getElem? (i := 11) rfl) rfl
theorem cw_2172 : (Jvm.Cond.selects "CableStreetModel" ({ cls := "CableStreetModel", name := "where", desc := "(III)I" } : Jvm.MethodName) ({ cls := "CableStreetModel", name := "where", desc := "(III)I" } : Jvm.MethodName)) ∈ gU := tb_10 (List.mem_of_getElem? (i := 12) rfl) rfl
theorem cw_2173 : (Jvm.Cond.code ({ cls := "CableStreetModel", name := "where", desc := "(III)I" } : Jvm.MethodName) prog_14_method_105_code (6 : Nat) (Option.some Jvm.ClassFile.FieldType.int)) ∈ gU := tb_10 (List.mem_of_getElem? (i := 13) rfl) rfl
theorem cw_2174 : (Jvm.Cond.methodLink "CableStreetLaw" (139 : Nat) ({ cls := "CableStreetModel", name := "log", desc := "(III)I" } : Jvm.MethodName)) ∈ gU := tb_10 (List.mem_of_getElem? (i := 14) rfl) rfl
theorem cw_2175 : (Jvm.Cond.instanceMethod ({ cls := "CableStreetModel", name := "log", desc := "(III)I" } : Jvm.MethodName)) ∈ gU := tb_10 (List.mem_of_getElem? (i := 15) rfl) rfl
theorem cw_2176 : (Jvm.Cond.selects "CableStreetModel" ({ cls := "CableStreetModel", name := "log", desc := "(III)I" } : Jvm.MethodName) ({ cls := "CableStreetModel", name := "log", desc := "(III)I" } : Jvm.MethodName)) ∈ gU := tb_10 (List.mem_of_getElem? (i := 16) rfl) rfl
theorem cw_2177 : (Jvm.Cond.code ({ cls := "CableStreetModel", name := "log", desc := "(III)I" } : Jvm.MethodName) prog_14_method_106_code (4 : Nat) (Option.some Jvm.ClassFile.FieldType.int)) ∈ gU := tb_10 (List.mem_of_getElem? (i := 17) rfl) rfl
theorem cw_2178 : (Jvm.Cond.methodLink "CableStreetLaw" (143 : Nat) ({ cls := "CableStreetModel", name := "untell", desc := "(I)Z" } : Jvm.MethodName)) ∈ gU := tb_10 (List.mem_of_getElem? (i := 18) rfl) rfl
theorem cw_2179 : (Jvm.Cond.instanceMethod ({ cls := "CableStreetModel", name := "untell", desc := "(I)Z" } : Jvm.MethodName)) ∈ gU := tb_10 (List.mem_of_getElem? (i := 19) rfl) rfl
theorem cw_2180 : (Jvm.Cond.selects "CableStreetModel" ({ cls := "CableStreetModel", name := "untell", desc := "(I)Z" } : Jvm.MethodName) ({ cls := "CableStreetModel", name := "untell", desc := "(I)Z" } : Jvm.MethodName)) ∈ gU := tb_10 (List.mem_of_getElem? (i := 20) rfl) rfl
theorem cw_2181 : (Jvm.Cond.code ({ cls := "CableStreetModel", name := "untell", desc := "(I)Z" } : Jvm.MethodName) prog_14_method_107_code (2 : Nat) (Option.some Jvm.ClassFile.FieldType.boolean)) ∈ gU := tb_10 (List.mem_of_getElem? (i := 21) rfl) rfl
theorem cw_2182 : (Jvm.Cond.methodLink "CableStreetLaw" (147 : Nat) ({ cls := "CableStreetModel", name := "later", desc := "(I)I" } : Jvm.MethodName)) ∈ gU := tb_10 (List.mem_of_getElem? (i := 22) rfl) rfl
theorem cw_2183 : (Jvm.Cond.instanceMethod ({ cls := "CableStreetModel", name := "later", desc := "(I)I" } : Jvm.MethodName)) ∈ gU := tb_10 (List.mem_of_getElem? (i := 23) rfl) rfl
theorem cw_2184 : (Jvm.Cond.selects "CableStreetModel" ({ cls := "CableStreetModel", name := "later", desc := "(I)I" } : Jvm.MethodName) ({ cls := "CableStreetModel", name := "later", desc := "(I)I" } : Jvm.MethodName)) ∈ gU := tb_10 (List.mem_of_getElem? (i := 24) rfl) rfl
theorem cw_2185 : (Jvm.Cond.code ({ cls := "CableStreetModel", name := "later", desc := "(I)I" } : Jvm.MethodName) prog_14_method_108_code (2 : Nat) (Option.some Jvm.ClassFile.FieldType.int)) ∈ gU := tb_10 (List.mem_of_getElem? (i := 25) rfl) rfl
theorem cw_2186 : (Jvm.Cond.methodLink "CableStreetLaw" (151 : Nat) ({ cls := "CableStreetModel", name := "judge", desc := "(II)I" } : Jvm.MethodName)) ∈ gU := tb_10 (List.mem_of_getElem? (i := 26) rfl) rfl
theorem cw_2187 : (Jvm.Cond.instanceMethod ({ cls := "CableStreetModel", name := "judge", desc := "(II)I" } : Jvm.MethodName)) ∈ gU := tb_10 (List.mem_of_getElem? (i := 27) rfl) rfl
theorem cw_2188 : (Jvm.Cond.selects "CableStreetModel" ({ cls := "CableStreetModel", name := "judge", desc := "(II)I" } : Jvm.MethodName) ({ cls := "CableStreetModel", name := "judge", desc := "(II)I" } : Jvm.MethodName)) ∈ gU := tb_10 (List.mem_of_getElem? (i := 28) rfl) rfl
theorem cw_2189 : (Jvm.Cond.code ({ cls := "CableStreetModel", name := "judge", desc := "(II)I" } : Jvm.MethodName) prog_14_method_111_code (6 : Nat) (Option.some Jvm.ClassFile.FieldType.int)) ∈ gU := tb_10 (List.mem_of_getElem? (i := 29) rfl) rfl
theorem cw_2190 : (Jvm.Cond.methodLink "CableStreetModel" (675 : Nat) ({ cls := "CableStreetModel", name := "findFalse", desc := "()V" } : Jvm.MethodName)) ∈ gU := tb_10 (List.mem_of_getElem? (i := 30) rfl) rfl
theorem cw_2192 : (Jvm.Cond.instanceMethod ({ cls := "CableStreetModel", name := "findFalse", desc := "()V" } : Jvm.MethodName)) ∈ gU := tb_10 (List.mem_of_getElem? (i := 32) rfl) rfl
theorem cw_2193 : (Jvm.Cond.code ({ cls := "CableStreetModel", name := "findFalse", desc := "()V" } : Jvm.MethodName) prog_14_method_110_code (3 : Nat) (Option.none : Option Jvm.ClassFile.FieldType)) ∈ gU := tb_10 (List.mem_of_getElem? (i := 33) rfl) rfl
theorem cw_2198 : (Jvm.Cond.methodLink "CableStreetLaw" (155 : Nat) ({ cls := "CableStreetModel", name := "logged", desc := "(II)I" } : Jvm.MethodName)) ∈ gU := tb_10 (List.mem_of_getElem? (i := 38) rfl) rfl
theorem cw_2199 : (Jvm.Cond.instanceMethod ({ cls := "CableStreetModel", name := "logged", desc := "(II)I" } : Jvm.MethodName)) ∈ gU := tb_10 (List.mem_of_getElem? (i := 39) rfl) rfl
theorem cw_2200 : (Jvm.Cond.selects "CableStreetModel" ({ cls := "CableStreetModel", name := "logged", desc := "(II)I" } : Jvm.MethodName) ({ cls := "CableStreetModel", name := "logged", desc := "(II)I" } : Jvm.MethodName)) ∈ gU := tb_10 (List.mem_of_getElem? (i := 40) rfl) rfl
theorem cw_2201 : (Jvm.Cond.code ({ cls := "CableStreetModel", name := "logged", desc := "(II)I" } : Jvm.MethodName) prog_14_method_113_code (5 : Nat) (Option.some Jvm.ClassFile.FieldType.int)) ∈ gU := tb_10 (List.mem_of_getElem? (i := 41) rfl) rfl
theorem cw_2206 : (Jvm.Cond.methodLink "CableStreetLaw" (159 : Nat) ({ cls := "CableStreetModel", name := "image", desc := "(I)I" } : Jvm.MethodName)) ∈ gU := tb_10 (List.mem_of_getElem? (i := 46) rfl) rfl
theorem cw_2207 : (Jvm.Cond.instanceMethod ({ cls := "CableStreetModel", name := "image", desc := "(I)I" } : Jvm.MethodName)) ∈ gU := tb_10 (List.mem_of_getElem? (i := 47) rfl) rfl
theorem cw_2208 : (Jvm.Cond.selects "CableStreetModel" ({ cls := "CableStreetModel", name := "image", desc := "(I)I" } : Jvm.MethodName) ({ cls := "CableStreetModel", name := "image", desc := "(I)I" } : Jvm.MethodName)) ∈ gU := tb_10 (List.mem_of_getElem? (i := 48) rfl) rfl
theorem cw_2209 : (Jvm.Cond.code ({ cls := "CableStreetModel", name := "image", desc := "(I)I" } : Jvm.MethodName) prog_14_method_118_code (2 : Nat) (Option.some Jvm.ClassFile.FieldType.int)) ∈ gU := tb_10 (List.mem_of_getElem? (i := 49) rfl) rfl
theorem cw_2210 : (Jvm.Cond.methodLink "CableStreetLaw" (163 : Nat) ({ cls := "CableStreetModel", name := "back", desc := "(I)I" } : Jvm.MethodName)) ∈ gU := tb_10 (List.mem_of_getElem? (i := 50) rfl) rfl
theorem cw_2211 : (Jvm.Cond.instanceMethod ({ cls := "CableStreetModel", name := "back", desc := "(I)I" } : Jvm.MethodName)) ∈ gU := tb_10 (List.mem_of_getElem? (i := 51) rfl) rfl
theorem cw_2212 : (Jvm.Cond.selects "CableStreetModel" ({ cls := "CableStreetModel", name := "back", desc := "(I)I" } : Jvm.MethodName) ({ cls := "CableStreetModel", name := "back", desc := "(I)I" } : Jvm.MethodName)) ∈ gU := tb_10 (List.mem_of_getElem? (i := 52) rfl) rfl
theorem cw_2213 : (Jvm.Cond.code ({ cls := "CableStreetModel", name := "back", desc := "(I)I" } : Jvm.MethodName) prog_14_method_119_code (2 : Nat) (Option.some Jvm.ClassFile.FieldType.int)) ∈ gU := tb_10 (List.mem_of_getElem? (i := 53) rfl) rfl
theorem cw_2214 : (Jvm.Cond.methodLink "CableStreetLaw" (167 : Nat) ({ cls := "CableStreetModel", name := "about", desc := "(I)I" } : Jvm.MethodName)) ∈ gU := tb_10 (List.mem_of_getElem? (i := 54) rfl) rfl
theorem cw_2215 : (Jvm.Cond.instanceMethod ({ cls := "CableStreetModel", name := "about", desc := "(I)I" } : Jvm.MethodName)) ∈ gU := tb_10 (List.mem_of_getElem? (i := 55) rfl) rfl
theorem cw_2216 : (Jvm.Cond.selects "CableStreetModel" ({ cls := "CableStreetModel", name := "about", desc := "(I)I" } : Jvm.MethodName) ({ cls := "CableStreetModel", name := "about", desc := "(I)I" } : Jvm.MethodName)) ∈ gU := tb_10 (List.mem_of_getElem? (i := 56) rfl) rfl
theorem cw_2217 : (Jvm.Cond.code ({ cls := "CableStreetModel", name := "about", desc := "(I)I" } : Jvm.MethodName) prog_14_method_120_code (2 : Nat) (Option.some Jvm.ClassFile.FieldType.int)) ∈ gU := tb_10 (List.mem_of_getElem? (i := 57) rfl) rfl
theorem cw_2218 : (Jvm.Cond.methodLink "CableStreetLaw" (17 : Nat) ({ cls := "CableStreetModel", name := "feed", desc := "(IIIII)I" } : Jvm.MethodName)) ∈ gU := tb_10 (List.mem_of_getElem? (i := 58) rfl) rfl
theorem cw_2219 : (Jvm.Cond.instanceMethod ({ cls := "CableStreetModel", name := "feed", desc := "(IIIII)I" } : Jvm.MethodName)) ∈ gU := tb_10 (List.mem_of_getElem? (i := 59) rfl) rfl
theorem cw_2220 : (Jvm.Cond.selects "CableStreetModel" ({ cls := "CableStreetModel", name := "feed", desc := "(IIIII)I" } : Jvm.MethodName) ({ cls := "CableStreetModel", name := "feed", desc := "(IIIII)I" } : Jvm.MethodName)) ∈ gU := tb_10 (List.mem_of_getElem? (i := 60) rfl) rfl
theorem cw_2221 : (Jvm.Cond.code ({ cls := "CableStreetModel", name := "feed", desc := "(IIIII)I" } : Jvm.MethodName) prog_14_method_121_code (8 : Nat) (Option.some Jvm.ClassFile.FieldType.int)) ∈ gU := tb_10 (List.mem_of_getElem? (i := 61) rfl) rfl
theorem cw_2222 : (Jvm.Cond.methodLink "CableStreetLaw" (22 : Nat) ({ cls := "CableStreetModel", name := "end", desc := "(I)I" } : Jvm.MethodName)) ∈ gU := tb_10 (List.mem_of_getElem? (i := 62) rfl) rfl
theorem cw_2223 : (Jvm.Cond.instanceMethod ({ cls := "CableStreetModel", name := "end", desc := "(I)I" } : Jvm.MethodName)) ∈ gU := tb_10 (List.mem_of_getElem? (i := 63) rfl) rfl
theorem cw_2224 : (Jvm.Cond.selects "CableStreetModel" ({ cls := "CableStreetModel", name := "end", desc := "(I)I" } : Jvm.MethodName) ({ cls := "CableStreetModel", name := "end", desc := "(I)I" } : Jvm.MethodName)) ∈ gU := tb_10 (List.mem_of_getElem? (i := 64) rfl) rfl
theorem cw_2225 : (Jvm.Cond.code ({ cls := "CableStreetModel", name := "end", desc := "(I)I" } : Jvm.MethodName) prog_14_method_122_code (2 : Nat) (Option.some Jvm.ClassFile.FieldType.int)) ∈ gU := tb_10 (List.mem_of_getElem? (i := 65) rfl) rfl
theorem sl_yX3_gapNow : Cond.selects yX3_gapNow.cls yX3_gapNow yX3_gapNow ∈ gU := gU_of (ri_sel (q := (⟨"CableStreet$Forecast", "gapNow", "(LCableStreet$Plan;)I"⟩, 7)) (List.mem_append_right _ (List.mem_append_right _ (List.mem_append_right _ (List.mem_append_left _ (List.mem_of_getElem? (i := 8) rfl)))))) rfl
theorem sl_yX6_moveStrand : Cond.selects yX6_moveStrand.cls yX6_moveStrand yX6_moveStrand ∈ gU := gU_of (ri_sel (q := (⟨"CableStreet$Machine", "moveStrand", "()V"⟩, 4)) (List.mem_append_right _ (List.mem_append_right _ (List.mem_append_left _ (List.mem_of_getElem? (i := 8) rfl))))) rfl
theorem sl_yX6_dipRopes : Cond.selects yX6_dipRopes.cls yX6_dipRopes yX6_dipRopes ∈ gU := gU_of (ri_sel (q := (⟨"CableStreet$Machine", "dipRopes", "()V"⟩, 4)) (List.mem_append_right _ (List.mem_append_right _ (List.mem_append_left _ (List.mem_of_getElem? (i := 6) rfl))))) rfl
theorem sl_yX6_wearSplices : Cond.selects yX6_wearSplices.cls yX6_wearSplices yX6_wearSplices ∈ gU := gU_of (ri_sel (q := (⟨"CableStreet$Machine", "wearSplices", "()V"⟩, 4)) (List.mem_append_right _ (List.mem_append_right _ (List.mem_append_left _ (List.mem_of_getElem? (i := 9) rfl))))) rfl
theorem sl_yX6_countBumps : Cond.selects yX6_countBumps.cls yX6_countBumps yX6_countBumps ∈ gU := gU_of (ri_sel (q := (⟨"CableStreet$Machine", "countBumps", "()V"⟩, 4)) (List.mem_append_right _ (List.mem_append_right _ (List.mem_append_right _ (List.mem_append_left _ (List.mem_of_getElem? (i := 4) rfl)))))) rfl
theorem sl_yX11_putBytes : Cond.selects yX11_putBytes.cls yX11_putBytes yX11_putBytes ∈ gU := gU_of (ri_sel (q := (⟨"CableStreet", "putBytes", "(I)V"⟩, 11)) (List.mem_append_left _ (List.mem_of_getElem? (i := 0) rfl))) rfl
theorem sl_yX12_clearBank : Cond.selects yX12_clearBank.cls yX12_clearBank yX12_clearBank ∈ gU := gU_of (ri_sel (q := (⟨"CableStreetModel", "clearBank", "()V"⟩, 113)) (List.mem_append_right _ (List.mem_append_right _ (List.mem_append_right _ (List.mem_append_left _ (List.mem_of_getElem? (i := 13) rfl)))))) rfl
theorem sl_yX12_begin : Cond.selects yX12_begin.cls yX12_begin yX12_begin ∈ gU := gU_of (ri_sel (q := (⟨"CableStreetModel", "begin", "()V"⟩, 113)) (List.mem_append_right _ (List.mem_append_right _ (List.mem_append_right _ (List.mem_append_left _ (List.mem_of_getElem? (i := 14) rfl)))))) rfl
theorem sl_yX12_carMany : Cond.selects yX12_carMany.cls yX12_carMany yX12_carMany ∈ gU := gU_of (ri_sel (q := (⟨"CableStreetModel", "carMany", "()I"⟩, 113)) (List.mem_append_right _ (List.mem_append_right _ (List.mem_append_right _ (List.mem_append_right _ (List.mem_append_right _ (List.mem_append_right _ (List.mem_append_left _ (List.mem_of_getElem? (i := 0) rfl))))))))) rfl
theorem sl_yX12_crossAt : Cond.selects yX12_crossAt.cls yX12_crossAt yX12_crossAt ∈ gU := gU_of (ri_sel (q := (⟨"CableStreetModel", "crossAt", "(I)I"⟩, 113)) (List.mem_append_right _ (List.mem_append_right _ (List.mem_append_right _ (List.mem_append_right _ (List.mem_append_right _ (List.mem_append_right _ (List.mem_append_right _ (List.mem_append_left _ (List.mem_of_getElem? (i := 4) rfl)))))))))) rfl
theorem sl_yX12_bringEvents : Cond.selects yX12_bringEvents.cls yX12_bringEvents yX12_bringEvents ∈ gU := gU_of (ri_sel (q := (⟨"CableStreetModel", "bringEvents", "(I)V"⟩, 113)) (List.mem_append_right _ (List.mem_append_right _ (List.mem_append_right _ (List.mem_append_right _ (List.mem_append_right _ (List.mem_append_right _ (List.mem_append_right _ (List.mem_append_right _ (List.mem_of_getElem? (i := 2) rfl)))))))))) rfl
theorem sl_yX12_isCar : Cond.selects yX12_isCar.cls yX12_isCar yX12_isCar ∈ gU := gU_of (ri_sel (q := (⟨"CableStreetModel", "isCar", "(I)Z"⟩, 113)) (List.mem_append_right _ (List.mem_append_right _ (List.mem_append_right _ (List.mem_append_right _ (List.mem_append_right _ (List.mem_append_right _ (List.mem_append_right _ (List.mem_append_left _ (List.mem_of_getElem? (i := 11) rfl)))))))))) rfl
theorem sl_yX12_coasting : Cond.selects yX12_coasting.cls yX12_coasting yX12_coasting ∈ gU := gU_of (ri_sel (q := (⟨"CableStreetModel", "coasting", "(II)I"⟩, 113)) (List.mem_append_right _ (List.mem_append_right _ (List.mem_append_right _ (List.mem_append_right _ (List.mem_append_right _ (List.mem_append_right _ (List.mem_append_right _ (List.mem_append_left _ (List.mem_of_getElem? (i := 2) rfl)))))))))) rfl
theorem sl_yX12_ropeAt : Cond.selects yX12_ropeAt.cls yX12_ropeAt yX12_ropeAt ∈ gU := gU_of (ri_sel (q := (⟨"CableStreetModel", "ropeAt", "(I)I"⟩, 113)) (List.mem_append_right _ (List.mem_append_right _ (List.mem_append_right _ (List.mem_append_right _ (List.mem_append_right _ (List.mem_append_right _ (List.mem_append_left _ (List.mem_of_getElem? (i := 2) rfl))))))))) rfl
theorem sl_yX12_gradeAt : Cond.selects yX12_gradeAt.cls yX12_gradeAt yX12_gradeAt ∈ gU := gU_of (ri_sel (q := (⟨"CableStreetModel", "gradeAt", "(I)I"⟩, 113)) (List.mem_append_right _ (List.mem_append_right _ (List.mem_append_right _ (List.mem_append_right _ (List.mem_append_right _ (List.mem_append_right _ (List.mem_append_left _ (List.mem_of_getElem? (i := 4) rfl))))))))) rfl
theorem sl_yX12_coast : Cond.selects yX12_coast.cls yX12_coast yX12_coast ∈ gU := gU_of (ri_sel (q := (⟨"CableStreetModel", "coast", "(II)V"⟩, 113)) (List.mem_append_right _ (List.mem_append_right _ (List.mem_append_right _ (List.mem_append_right _ (List.mem_append_right _ (List.mem_append_right _ (List.mem_append_right _ (List.mem_append_right _ (List.mem_of_getElem? (i := 3) rfl)))))))))) rfl
theorem sl_yX12_has : Cond.selects yX12_has.cls yX12_has yX12_has ∈ gU := gU_of (ri_sel (q := (⟨"CableStreetModel", "has", "(II)Z"⟩, 113)) (List.mem_append_right _ (List.mem_append_right _ (List.mem_append_right _ (List.mem_append_right _ (List.mem_append_right _ (List.mem_append_right _ (List.mem_append_left _ (List.mem_of_getElem? (i := 14) rfl))))))))) rfl
theorem sl_yX12_keep : Cond.selects yX12_keep.cls yX12_keep yX12_keep ∈ gU := gU_of (ri_sel (q := (⟨"CableStreetModel", "keep", "(I)V"⟩, 113)) (List.mem_append_right _ (List.mem_append_right _ (List.mem_append_right _ (List.mem_append_right _ (List.mem_append_right _ (List.mem_append_right _ (List.mem_append_right _ (List.mem_append_left _ (List.mem_of_getElem? (i := 14) rfl)))))))))) rfl
theorem sl_yX12_tick : Cond.selects yX12_tick.cls yX12_tick yX12_tick ∈ gU := gU_of (ri_sel (q := (⟨"CableStreetModel", "tick", "()V"⟩, 113)) (List.mem_append_right _ (List.mem_append_right _ (List.mem_append_right _ (List.mem_append_right _ (List.mem_append_right _ (List.mem_append_left _ (List.mem_of_getElem? (i := 14) rfl)))))))) rfl
theorem sl_yX12_bring : Cond.selects yX12_bring.cls yX12_bring yX12_bring ∈ gU := gU_of (ri_sel (q := (⟨"CableStreetModel", "bring", "(I)V"⟩, 113)) (List.mem_append_right _ (List.mem_append_right _ (List.mem_append_right _ (List.mem_append_right _ (List.mem_append_right _ (List.mem_append_right _ (List.mem_append_right _ (List.mem_append_right _ (List.mem_of_getElem? (i := 1) rfl)))))))))) rfl
theorem sl_yX12_sign : Cond.selects yX12_sign.cls yX12_sign yX12_sign ∈ gU := gU_of (ri_sel (q := (⟨"CableStreetModel", "sign", "(I)I"⟩, 113)) (List.mem_append_right _ (List.mem_append_right _ (List.mem_append_right _ (List.mem_append_right _ (List.mem_append_left _ (List.mem_of_getElem? (i := 0) rfl))))))) rfl
theorem sl_yX12_headOf : Cond.selects yX12_headOf.cls yX12_headOf yX12_headOf ∈ gU := gU_of (ri_sel (q := (⟨"CableStreetModel", "headOf", "(I)I"⟩, 113)) (List.mem_append_right _ (List.mem_append_right _ (List.mem_append_right _ (List.mem_append_right _ (List.mem_append_right _ (List.mem_append_right _ (List.mem_append_right _ (List.mem_append_right _ (List.mem_of_getElem? (i := 4) rfl)))))))))) rfl
theorem sl_yX12_isRope : Cond.selects yX12_isRope.cls yX12_isRope yX12_isRope ∈ gU := gU_of (ri_sel (q := (⟨"CableStreetModel", "isRope", "(I)Z"⟩, 113)) (List.mem_append_right _ (List.mem_append_right _ (List.mem_append_right _ (List.mem_append_right _ (List.mem_append_right _ (List.mem_append_right _ (List.mem_append_right _ (List.mem_append_left _ (List.mem_of_getElem? (i := 12) rfl)))))))))) rfl
theorem sl_yX12_findFalse : Cond.selects yX12_findFalse.cls yX12_findFalse yX12_findFalse ∈ gU := gU_of (ri_sel (q := (⟨"CableStreetModel", "findFalse", "()V"⟩, 113)) (List.mem_append_right _ (List.mem_append_right _ (List.mem_append_right _ (List.mem_append_right _ (List.mem_append_right _ (List.mem_append_right _ (List.mem_append_right _ (List.mem_append_right _ (List.mem_of_getElem? (i := 5) rfl)))))))))) rfl
theorem sl_yX12_keepEvents : Cond.selects yX12_keepEvents.cls yX12_keepEvents yX12_keepEvents ∈ gU := gU_of (ri_sel (q := (⟨"CableStreetModel", "keepEvents", "(I)V"⟩, 113)) (List.mem_append_right _ (List.mem_append_right _ (List.mem_append_right _ (List.mem_append_right _ (List.mem_append_right _ (List.mem_append_right _ (List.mem_append_right _ (List.mem_append_left _ (List.mem_of_getElem? (i := 15) rfl)))))))))) rfl
theorem sl_yX12_going : Cond.selects yX12_going.cls yX12_going yX12_going ∈ gU := gU_of (ri_sel (q := (⟨"CableStreetModel", "going", "()I"⟩, 113)) (List.mem_append_right _ (List.mem_append_right _ (List.mem_append_right _ (List.mem_append_right _ (List.mem_append_right _ (List.mem_append_right _ (List.mem_append_right _ (List.mem_append_left _ (List.mem_of_getElem? (i := 10) rfl)))))))))) rfl
theorem sl_yX12_isPlace : Cond.selects yX12_isPlace.cls yX12_isPlace yX12_isPlace ∈ gU := gU_of (ri_sel (q := (⟨"CableStreetModel", "isPlace", "(II)Z"⟩, 113)) (List.mem_append_right _ (List.mem_append_right _ (List.mem_append_right _ (List.mem_append_right _ (List.mem_append_right _ (List.mem_append_right _ (List.mem_append_right _ (List.mem_append_left _ (List.mem_of_getElem? (i := 13) rfl)))))))))) rfl
theorem sl_yX12_isGood : Cond.selects yX12_isGood.cls yX12_isGood yX12_isGood ∈ gU := gU_of (ri_sel (q := (⟨"CableStreetModel", "isGood", "()Z"⟩, 113)) (List.mem_append_right _ (List.mem_append_right _ (List.mem_append_right _ (List.mem_append_right _ (List.mem_append_left _ (List.mem_of_getElem? (i := 1) rfl))))))) rfl
theorem sl_yX12_goOn : Cond.selects yX12_goOn.cls yX12_goOn yX12_goOn ∈ gU := gU_of (ri_sel (q := (⟨"CableStreetModel", "goOn", "()V"⟩, 113)) (List.mem_append_right _ (List.mem_append_right _ (List.mem_append_right _ (List.mem_append_left _ (List.mem_of_getElem? (i := 15) rfl)))))) rfl
theorem sl_yX12_moveStrand : Cond.selects yX12_moveStrand.cls yX12_moveStrand yX12_moveStrand ∈ gU := gU_of (ri_sel (q := (⟨"CableStreetModel", "moveStrand", "()V"⟩, 113)) (List.mem_append_right _ (List.mem_append_right _ (List.mem_append_right _ (List.mem_append_right _ (List.mem_append_right _ (List.mem_append_right _ (List.mem_append_left _ (List.mem_of_getElem? (i := 6) rfl))))))))) rfl
theorem pk_bipush_10 : ((Int8.ofInt 10).toInt32).toInt = 10 := by decide +kernel
theorem pk_bipush_11 : ((Int8.ofInt 11).toInt32).toInt = 11 := by decide +kernel
theorem pk_bipush_12 : ((Int8.ofInt 12).toInt32).toInt = 12 := by decide +kernel
theorem pk_bipush_120 : ((Int8.ofInt 120).toInt32).toInt = 120 := by decide +kernel
theorem pk_bipush_16 : ((Int8.ofInt 16).toInt32).toInt = 16 := by decide +kernel
theorem pk_bipush_20 : ((Int8.ofInt 20).toInt32).toInt = 20 := by decide +kernel
theorem pk_bipush_24 : ((Int8.ofInt 24).toInt32).toInt = 24 := by decide +kernel
theorem pk_bipush_31 : ((Int8.ofInt 31).toInt32).toInt = 31 := by decide +kernel
theorem pk_bipush_41 : ((Int8.ofInt 41).toInt32).toInt = 41 := by decide +kernel
theorem pk_bipush_59 : ((Int8.ofInt 59).toInt32).toInt = 59 := by decide +kernel
theorem pk_bipush_6 : ((Int8.ofInt 6).toInt32).toInt = 6 := by decide +kernel
theorem pk_bipush_60 : ((Int8.ofInt 60).toInt32).toInt = 60 := by decide +kernel
theorem pk_bipush_7 : ((Int8.ofInt 7).toInt32).toInt = 7 := by decide +kernel
theorem pk_bipush_70 : ((Int8.ofInt 70).toInt32).toInt = 70 := by decide +kernel
theorem pk_bipush_8 : ((Int8.ofInt 8).toInt32).toInt = 8 := by decide +kernel
theorem pk_bipush_80 : ((Int8.ofInt 80).toInt32).toInt = 80 := by decide +kernel
theorem pk_bipush_9 : ((Int8.ofInt 9).toInt32).toInt = 9 := by decide +kernel
theorem pk_bipush_90 : ((Int8.ofInt 90).toInt32).toInt = 90 := by decide +kernel
theorem pk_bipush_99 : ((Int8.ofInt 99).toInt32).toInt = 99 := by decide +kernel
theorem pk_bipush_m2 : ((Int8.ofInt (-2)).toInt32).toInt = (-2) := by decide +kernel
theorem pk_bipush_m60 : ((Int8.ofInt (-60)).toInt32).toInt = (-60) := by decide +kernel
theorem pk_iconst_0 : (Int32.ofInt 0).toInt = 0 := by decide +kernel
theorem pk_iconst_1 : (Int32.ofInt 1).toInt = 1 := by decide +kernel
theorem pk_iconst_2 : (Int32.ofInt 2).toInt = 2 := by decide +kernel
theorem pk_iconst_3 : (Int32.ofInt 3).toInt = 3 := by decide +kernel
theorem pk_iconst_4 : (Int32.ofInt 4).toInt = 4 := by decide +kernel
theorem pk_iconst_5 : (Int32.ofInt 5).toInt = 5 := by decide +kernel
theorem pk_iconst_m1 : (Int32.ofInt (-1)).toInt = (-1) := by decide +kernel
theorem pk_iconst_m8 : (Int32.ofInt (-8)).toInt = (-8) := by decide +kernel
theorem pk_sipush_1000 : ((Int16.ofInt 1000).toInt32).toInt = 1000 := by decide +kernel
theorem pk_sipush_1200 : ((Int16.ofInt 1200).toInt32).toInt = 1200 := by decide +kernel
theorem pk_sipush_1600 : ((Int16.ofInt 1600).toInt32).toInt = 1600 := by decide +kernel
theorem pk_sipush_1620 : ((Int16.ofInt 1620).toInt32).toInt = 1620 := by decide +kernel
theorem pk_sipush_200 : ((Int16.ofInt 200).toInt32).toInt = 200 := by decide +kernel
theorem pk_sipush_240 : ((Int16.ofInt 240).toInt32).toInt = 240 := by decide +kernel
theorem pk_sipush_300 : ((Int16.ofInt 300).toInt32).toInt = 300 := by decide +kernel
theorem pk_sipush_400 : ((Int16.ofInt 400).toInt32).toInt = 400 := by decide +kernel
theorem pk_sipush_480 : ((Int16.ofInt 480).toInt32).toInt = 480 := by decide +kernel
theorem pk_sipush_500 : ((Int16.ofInt 500).toInt32).toInt = 500 := by decide +kernel
theorem pk_sipush_512 : ((Int16.ofInt 512).toInt32).toInt = 512 := by decide +kernel
theorem pk_sipush_600 : ((Int16.ofInt 600).toInt32).toInt = 600 := by decide +kernel
theorem pk_sipush_800 : ((Int16.ofInt 800).toInt32).toInt = 800 := by decide +kernel
theorem pk_sipush_m1000 : ((Int16.ofInt (-1000)).toInt32).toInt = (-1000) := by decide +kernel
