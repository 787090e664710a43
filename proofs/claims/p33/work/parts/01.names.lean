-- ===== PART A: goes FIRST, ahead of the names: the tables' words, and 'selects' of the private methods out of them =====
/-- a private method of a class that the tables say can be made, by its rows of tables_1 -/
def lw_okq (q : MethodName × Nat) : Prop := (q.1.cls ≠ "java/lang/invoke/MethodHandle" ∧ q.1.cls ≠ "java/lang/invoke/VarHandle") ∧ Cond.instantiable q.1.cls q.2 ∈ tables_1 ∧ Cond.privateMethod q.1 ∈ tables_1 ∧ Cond.instanceMethod q.1 ∈ tables_1
theorem lw_p0 : lw_okq (⟨"CableStreet", "putBytes", "(I)V"⟩, 11) := ⟨⟨by decide +kernel, by decide +kernel⟩, List.mem_of_getElem? (i := 24) (by decide +kernel), List.mem_of_getElem? (i := 581) (by decide +kernel), List.mem_of_getElem? (i := 582) (by decide +kernel)⟩
theorem lw_p1 : lw_okq (⟨"CableStreet$Lexer", "isLetter", "(I)Z"⟩, 8) := ⟨⟨by decide +kernel, by decide +kernel⟩, List.mem_of_getElem? (i := 38) (by decide +kernel), List.mem_of_getElem? (i := 612) (by decide +kernel), List.mem_of_getElem? (i := 613) (by decide +kernel)⟩
theorem lw_p2 : lw_okq (⟨"CableStreet$Lexer", "readWord", "()V"⟩, 8) := ⟨⟨by decide +kernel, by decide +kernel⟩, List.mem_of_getElem? (i := 38) (by decide +kernel), List.mem_of_getElem? (i := 616) (by decide +kernel), List.mem_of_getElem? (i := 617) (by decide +kernel)⟩
theorem lw_p3 : lw_okq (⟨"CableStreet$Lexer", "isDigit", "(I)Z"⟩, 8) := ⟨⟨by decide +kernel, by decide +kernel⟩, List.mem_of_getElem? (i := 38) (by decide +kernel), List.mem_of_getElem? (i := 673) (by decide +kernel), List.mem_of_getElem? (i := 674) (by decide +kernel)⟩
theorem lw_p4 : lw_okq (⟨"CableStreet$Lexer", "readNumber", "()V"⟩, 8) := ⟨⟨by decide +kernel, by decide +kernel⟩, List.mem_of_getElem? (i := 38) (by decide +kernel), List.mem_of_getElem? (i := 677) (by decide +kernel), List.mem_of_getElem? (i := 678) (by decide +kernel)⟩
theorem lw_p5 : lw_okq (⟨"CableStreet$Reader", "mayBegin", "(I)Z"⟩, 10) := ⟨⟨by decide +kernel, by decide +kernel⟩, List.mem_of_getElem? (i := 32) (by decide +kernel), List.mem_of_getElem? (i := 745) (by decide +kernel), List.mem_of_getElem? (i := 746) (by decide +kernel)⟩
theorem lw_p6 : lw_okq (⟨"CableStreet$Reader", "wrongHere", "(I)V"⟩, 10) := ⟨⟨by decide +kernel, by decide +kernel⟩, List.mem_of_getElem? (i := 32) (by decide +kernel), List.mem_of_getElem? (i := 749) (by decide +kernel), List.mem_of_getElem? (i := 750) (by decide +kernel)⟩
theorem lw_p7 : lw_okq (⟨"CableStreet$Reader", "wrong", "(II)V"⟩, 10) := ⟨⟨by decide +kernel, by decide +kernel⟩, List.mem_of_getElem? (i := 32) (by decide +kernel), List.mem_of_getElem? (i := 753) (by decide +kernel), List.mem_of_getElem? (i := 754) (by decide +kernel)⟩
theorem lw_p8 : lw_okq (⟨"CableStreet$Reader", "readRope", "()V"⟩, 10) := ⟨⟨by decide +kernel, by decide +kernel⟩, List.mem_of_getElem? (i := 32) (by decide +kernel), List.mem_of_getElem? (i := 758) (by decide +kernel), List.mem_of_getElem? (i := 759) (by decide +kernel)⟩
theorem lw_p9 : lw_okq (⟨"CableStreet$Reader", "takeNewName", "([JI)V"⟩, 10) := ⟨⟨by decide +kernel, by decide +kernel⟩, List.mem_of_getElem? (i := 32) (by decide +kernel), List.mem_of_getElem? (i := 762) (by decide +kernel), List.mem_of_getElem? (i := 763) (by decide +kernel)⟩
theorem lw_p10 : lw_okq (⟨"CableStreet$Reader", "isName", "()Z"⟩, 10) := ⟨⟨by decide +kernel, by decide +kernel⟩, List.mem_of_getElem? (i := 32) (by decide +kernel), List.mem_of_getElem? (i := 766) (by decide +kernel), List.mem_of_getElem? (i := 767) (by decide +kernel)⟩
theorem lw_p11 : lw_okq (⟨"CableStreet$Reader", "indexOfName", "([JI)I"⟩, 10) := ⟨⟨by decide +kernel, by decide +kernel⟩, List.mem_of_getElem? (i := 32) (by decide +kernel), List.mem_of_getElem? (i := 770) (by decide +kernel), List.mem_of_getElem? (i := 771) (by decide +kernel)⟩
theorem lw_p12 : lw_okq (⟨"CableStreet$Reader", "takeAfter", "(III)I"⟩, 10) := ⟨⟨by decide +kernel, by decide +kernel⟩, List.mem_of_getElem? (i := 32) (by decide +kernel), List.mem_of_getElem? (i := 774) (by decide +kernel), List.mem_of_getElem? (i := 775) (by decide +kernel)⟩
theorem lw_p13 : lw_okq (⟨"CableStreet$Reader", "takeWord", "(I)V"⟩, 10) := ⟨⟨by decide +kernel, by decide +kernel⟩, List.mem_of_getElem? (i := 32) (by decide +kernel), List.mem_of_getElem? (i := 778) (by decide +kernel), List.mem_of_getElem? (i := 779) (by decide +kernel)⟩
theorem lw_p14 : lw_okq (⟨"CableStreet$Reader", "isWord", "(I)Z"⟩, 10) := ⟨⟨by decide +kernel, by decide +kernel⟩, List.mem_of_getElem? (i := 32) (by decide +kernel), List.mem_of_getElem? (i := 782) (by decide +kernel), List.mem_of_getElem? (i := 783) (by decide +kernel)⟩
theorem lw_p15 : lw_okq (⟨"CableStreet$Reader", "takeNumber", "(II)I"⟩, 10) := ⟨⟨by decide +kernel, by decide +kernel⟩, List.mem_of_getElem? (i := 32) (by decide +kernel), List.mem_of_getElem? (i := 786) (by decide +kernel), List.mem_of_getElem? (i := 787) (by decide +kernel)⟩
def lw_privs_1 : List (MethodName × Nat) := [(⟨"CableStreet", "putBytes", "(I)V"⟩, 11), (⟨"CableStreet$Lexer", "isLetter", "(I)Z"⟩, 8), (⟨"CableStreet$Lexer", "readWord", "()V"⟩, 8), (⟨"CableStreet$Lexer", "isDigit", "(I)Z"⟩, 8), (⟨"CableStreet$Lexer", "readNumber", "()V"⟩, 8), (⟨"CableStreet$Reader", "mayBegin", "(I)Z"⟩, 10), (⟨"CableStreet$Reader", "wrongHere", "(I)V"⟩, 10), (⟨"CableStreet$Reader", "wrong", "(II)V"⟩, 10), (⟨"CableStreet$Reader", "readRope", "()V"⟩, 10), (⟨"CableStreet$Reader", "takeNewName", "([JI)V"⟩, 10), (⟨"CableStreet$Reader", "isName", "()Z"⟩, 10), (⟨"CableStreet$Reader", "indexOfName", "([JI)I"⟩, 10), (⟨"CableStreet$Reader", "takeAfter", "(III)I"⟩, 10), (⟨"CableStreet$Reader", "takeWord", "(I)V"⟩, 10), (⟨"CableStreet$Reader", "isWord", "(I)Z"⟩, 10), (⟨"CableStreet$Reader", "takeNumber", "(II)I"⟩, 10)]
theorem lw_r1 : ∀ q ∈ lw_privs_1, lw_okq q := List.forall_mem_cons.mpr ⟨lw_p0, List.forall_mem_cons.mpr ⟨lw_p1, List.forall_mem_cons.mpr ⟨lw_p2, List.forall_mem_cons.mpr ⟨lw_p3, List.forall_mem_cons.mpr ⟨lw_p4, List.forall_mem_cons.mpr ⟨lw_p5, List.forall_mem_cons.mpr ⟨lw_p6, List.forall_mem_cons.mpr ⟨lw_p7, List.forall_mem_cons.mpr ⟨lw_p8, List.forall_mem_cons.mpr ⟨lw_p9, List.forall_mem_cons.mpr ⟨lw_p10, List.forall_mem_cons.mpr ⟨lw_p11, List.forall_mem_cons.mpr ⟨lw_p12, List.forall_mem_cons.mpr ⟨lw_p13, List.forall_mem_cons.mpr ⟨lw_p14, List.forall_mem_cons.mpr ⟨lw_p15, fun _ h => absurd h List.not_mem_nil⟩⟩⟩⟩⟩⟩⟩⟩⟩⟩⟩⟩⟩⟩⟩⟩
theorem lw_p16 : lw_okq (⟨"CableStreet$Reader", "number", "(II)I"⟩, 10) := ⟨⟨by decide +kernel, by decide +kernel⟩, List.mem_of_getElem? (i := 32) (by decide +kernel), List.mem_of_getElem? (i := 790) (by decide +kernel), List.mem_of_getElem? (i := 791) (by decide +kernel)⟩
theorem lw_p17 : lw_okq (⟨"CableStreet$Reader", "goOn", "()V"⟩, 10) := ⟨⟨by decide +kernel, by decide +kernel⟩, List.mem_of_getElem? (i := 32) (by decide +kernel), List.mem_of_getElem? (i := 799) (by decide +kernel), List.mem_of_getElem? (i := 800) (by decide +kernel)⟩
theorem lw_p18 : lw_okq (⟨"CableStreet$Reader", "readGrade", "()V"⟩, 10) := ⟨⟨by decide +kernel, by decide +kernel⟩, List.mem_of_getElem? (i := 32) (by decide +kernel), List.mem_of_getElem? (i := 811) (by decide +kernel), List.mem_of_getElem? (i := 812) (by decide +kernel)⟩
theorem lw_p19 : lw_okq (⟨"CableStreet$Reader", "skipSign", "(C)Z"⟩, 10) := ⟨⟨by decide +kernel, by decide +kernel⟩, List.mem_of_getElem? (i := 32) (by decide +kernel), List.mem_of_getElem? (i := 815) (by decide +kernel), List.mem_of_getElem? (i := 816) (by decide +kernel)⟩
theorem lw_p20 : lw_okq (⟨"CableStreet$Reader", "isSign", "(C)Z"⟩, 10) := ⟨⟨by decide +kernel, by decide +kernel⟩, List.mem_of_getElem? (i := 32) (by decide +kernel), List.mem_of_getElem? (i := 819) (by decide +kernel), List.mem_of_getElem? (i := 820) (by decide +kernel)⟩
theorem lw_p21 : lw_okq (⟨"CableStreet$Reader", "readCar", "()V"⟩, 10) := ⟨⟨by decide +kernel, by decide +kernel⟩, List.mem_of_getElem? (i := 32) (by decide +kernel), List.mem_of_getElem? (i := 828) (by decide +kernel), List.mem_of_getElem? (i := 829) (by decide +kernel)⟩
theorem lw_p22 : lw_okq (⟨"CableStreet$Reader", "readSplice", "()V"⟩, 10) := ⟨⟨by decide +kernel, by decide +kernel⟩, List.mem_of_getElem? (i := 32) (by decide +kernel), List.mem_of_getElem? (i := 832) (by decide +kernel), List.mem_of_getElem? (i := 833) (by decide +kernel)⟩
theorem lw_p23 : lw_okq (⟨"CableStreet$Reader", "takeRopeName", "()I"⟩, 10) := ⟨⟨by decide +kernel, by decide +kernel⟩, List.mem_of_getElem? (i := 32) (by decide +kernel), List.mem_of_getElem? (i := 836) (by decide +kernel), List.mem_of_getElem? (i := 837) (by decide +kernel)⟩
theorem lw_p24 : lw_okq (⟨"CableStreet$Reader", "readCross", "()V"⟩, 10) := ⟨⟨by decide +kernel, by decide +kernel⟩, List.mem_of_getElem? (i := 32) (by decide +kernel), List.mem_of_getElem? (i := 841) (by decide +kernel), List.mem_of_getElem? (i := 842) (by decide +kernel)⟩
theorem lw_p25 : lw_okq (⟨"CableStreet$Reader", "readEither", "(I)V"⟩, 10) := ⟨⟨by decide +kernel, by decide +kernel⟩, List.mem_of_getElem? (i := 32) (by decide +kernel), List.mem_of_getElem? (i := 849) (by decide +kernel), List.mem_of_getElem? (i := 850) (by decide +kernel)⟩
theorem lw_p26 : lw_okq (⟨"CableStreet$Reader", "readBoth", "(I)V"⟩, 10) := ⟨⟨by decide +kernel, by decide +kernel⟩, List.mem_of_getElem? (i := 32) (by decide +kernel), List.mem_of_getElem? (i := 853) (by decide +kernel), List.mem_of_getElem? (i := 854) (by decide +kernel)⟩
theorem lw_p27 : lw_okq (⟨"CableStreet$Reader", "readOne", "(I)V"⟩, 10) := ⟨⟨by decide +kernel, by decide +kernel⟩, List.mem_of_getElem? (i := 32) (by decide +kernel), List.mem_of_getElem? (i := 857) (by decide +kernel), List.mem_of_getElem? (i := 858) (by decide +kernel)⟩
theorem lw_p28 : lw_okq (⟨"CableStreet$Reader", "skipWord", "(I)Z"⟩, 10) := ⟨⟨by decide +kernel, by decide +kernel⟩, List.mem_of_getElem? (i := 32) (by decide +kernel), List.mem_of_getElem? (i := 861) (by decide +kernel), List.mem_of_getElem? (i := 862) (by decide +kernel)⟩
theorem lw_p29 : lw_okq (⟨"CableStreet$Reader", "readRelation", "(I)V"⟩, 10) := ⟨⟨by decide +kernel, by decide +kernel⟩, List.mem_of_getElem? (i := 32) (by decide +kernel), List.mem_of_getElem? (i := 869) (by decide +kernel), List.mem_of_getElem? (i := 870) (by decide +kernel)⟩
theorem lw_p30 : lw_okq (⟨"CableStreet$Reader", "readSum", "(I)V"⟩, 10) := ⟨⟨by decide +kernel, by decide +kernel⟩, List.mem_of_getElem? (i := 32) (by decide +kernel), List.mem_of_getElem? (i := 873) (by decide +kernel), List.mem_of_getElem? (i := 874) (by decide +kernel)⟩
theorem lw_p31 : lw_okq (⟨"CableStreet$Reader", "readTerm", "(I)V"⟩, 10) := ⟨⟨by decide +kernel, by decide +kernel⟩, List.mem_of_getElem? (i := 32) (by decide +kernel), List.mem_of_getElem? (i := 877) (by decide +kernel), List.mem_of_getElem? (i := 878) (by decide +kernel)⟩
def lw_privs_2 : List (MethodName × Nat) := [(⟨"CableStreet$Reader", "number", "(II)I"⟩, 10), (⟨"CableStreet$Reader", "goOn", "()V"⟩, 10), (⟨"CableStreet$Reader", "readGrade", "()V"⟩, 10), (⟨"CableStreet$Reader", "skipSign", "(C)Z"⟩, 10), (⟨"CableStreet$Reader", "isSign", "(C)Z"⟩, 10), (⟨"CableStreet$Reader", "readCar", "()V"⟩, 10), (⟨"CableStreet$Reader", "readSplice", "()V"⟩, 10), (⟨"CableStreet$Reader", "takeRopeName", "()I"⟩, 10), (⟨"CableStreet$Reader", "readCross", "()V"⟩, 10), (⟨"CableStreet$Reader", "readEither", "(I)V"⟩, 10), (⟨"CableStreet$Reader", "readBoth", "(I)V"⟩, 10), (⟨"CableStreet$Reader", "readOne", "(I)V"⟩, 10), (⟨"CableStreet$Reader", "skipWord", "(I)Z"⟩, 10), (⟨"CableStreet$Reader", "readRelation", "(I)V"⟩, 10), (⟨"CableStreet$Reader", "readSum", "(I)V"⟩, 10), (⟨"CableStreet$Reader", "readTerm", "(I)V"⟩, 10)]
theorem lw_r2 : ∀ q ∈ lw_privs_2, lw_okq q := List.forall_mem_cons.mpr ⟨lw_p16, List.forall_mem_cons.mpr ⟨lw_p17, List.forall_mem_cons.mpr ⟨lw_p18, List.forall_mem_cons.mpr ⟨lw_p19, List.forall_mem_cons.mpr ⟨lw_p20, List.forall_mem_cons.mpr ⟨lw_p21, List.forall_mem_cons.mpr ⟨lw_p22, List.forall_mem_cons.mpr ⟨lw_p23, List.forall_mem_cons.mpr ⟨lw_p24, List.forall_mem_cons.mpr ⟨lw_p25, List.forall_mem_cons.mpr ⟨lw_p26, List.forall_mem_cons.mpr ⟨lw_p27, List.forall_mem_cons.mpr ⟨lw_p28, List.forall_mem_cons.mpr ⟨lw_p29, List.forall_mem_cons.mpr ⟨lw_p30, List.forall_mem_cons.mpr ⟨lw_p31, fun _ h => absurd h List.not_mem_nil⟩⟩⟩⟩⟩⟩⟩⟩⟩⟩⟩⟩⟩⟩⟩⟩
theorem lw_p32 : lw_okq (⟨"CableStreet$Reader", "readUnit", "(I)V"⟩, 10) := ⟨⟨by decide +kernel, by decide +kernel⟩, List.mem_of_getElem? (i := 32) (by decide +kernel), List.mem_of_getElem? (i := 881) (by decide +kernel), List.mem_of_getElem? (i := 882) (by decide +kernel)⟩
theorem lw_p33 : lw_okq (⟨"CableStreet$Reader", "takeSign", "(C)V"⟩, 10) := ⟨⟨by decide +kernel, by decide +kernel⟩, List.mem_of_getElem? (i := 32) (by decide +kernel), List.mem_of_getElem? (i := 885) (by decide +kernel), List.mem_of_getElem? (i := 886) (by decide +kernel)⟩
theorem lw_p34 : lw_okq (⟨"CableStreet$Reader", "readValueWord", "()V"⟩, 10) := ⟨⟨by decide +kernel, by decide +kernel⟩, List.mem_of_getElem? (i := 32) (by decide +kernel), List.mem_of_getElem? (i := 890) (by decide +kernel), List.mem_of_getElem? (i := 891) (by decide +kernel)⟩
theorem lw_p35 : lw_okq (⟨"CableStreet$Reader", "relationHere", "()I"⟩, 10) := ⟨⟨by decide +kernel, by decide +kernel⟩, List.mem_of_getElem? (i := 32) (by decide +kernel), List.mem_of_getElem? (i := 894) (by decide +kernel), List.mem_of_getElem? (i := 895) (by decide +kernel)⟩
theorem lw_p36 : lw_okq (⟨"CableStreet$Reader", "readMark", "(I)V"⟩, 10) := ⟨⟨by decide +kernel, by decide +kernel⟩, List.mem_of_getElem? (i := 32) (by decide +kernel), List.mem_of_getElem? (i := 905) (by decide +kernel), List.mem_of_getElem? (i := 906) (by decide +kernel)⟩
theorem lw_p37 : lw_okq (⟨"CableStreet$Reader", "readSetting", "(I)V"⟩, 10) := ⟨⟨by decide +kernel, by decide +kernel⟩, List.mem_of_getElem? (i := 32) (by decide +kernel), List.mem_of_getElem? (i := 918) (by decide +kernel), List.mem_of_getElem? (i := 919) (by decide +kernel)⟩
theorem lw_p38 : lw_okq (⟨"CableStreet$Machine", "dipRopes", "()V"⟩, 4) := ⟨⟨by decide +kernel, by decide +kernel⟩, List.mem_of_getElem? (i := 432) (by decide +kernel), List.mem_of_getElem? (i := 939) (by decide +kernel), List.mem_of_getElem? (i := 940) (by decide +kernel)⟩
theorem lw_p39 : lw_okq (⟨"CableStreet$Machine", "note", "(IIII)I"⟩, 4) := ⟨⟨by decide +kernel, by decide +kernel⟩, List.mem_of_getElem? (i := 432) (by decide +kernel), List.mem_of_getElem? (i := 962) (by decide +kernel), List.mem_of_getElem? (i := 963) (by decide +kernel)⟩
theorem lw_p40 : lw_okq (⟨"CableStreet$Machine", "moveStrand", "()V"⟩, 4) := ⟨⟨by decide +kernel, by decide +kernel⟩, List.mem_of_getElem? (i := 432) (by decide +kernel), List.mem_of_getElem? (i := 970) (by decide +kernel), List.mem_of_getElem? (i := 971) (by decide +kernel)⟩
theorem lw_p41 : lw_okq (⟨"CableStreet$Machine", "wearSplices", "()V"⟩, 4) := ⟨⟨by decide +kernel, by decide +kernel⟩, List.mem_of_getElem? (i := 432) (by decide +kernel), List.mem_of_getElem? (i := 988) (by decide +kernel), List.mem_of_getElem? (i := 989) (by decide +kernel)⟩
theorem lw_p42 : lw_okq (⟨"CableStreet$Machine", "gripsOn", "(I)I"⟩, 4) := ⟨⟨by decide +kernel, by decide +kernel⟩, List.mem_of_getElem? (i := 432) (by decide +kernel), List.mem_of_getElem? (i := 992) (by decide +kernel), List.mem_of_getElem? (i := 993) (by decide +kernel)⟩
theorem lw_p43 : lw_okq (⟨"CableStreet$Machine", "cutRope", "(III)V"⟩, 4) := ⟨⟨by decide +kernel, by decide +kernel⟩, List.mem_of_getElem? (i := 432) (by decide +kernel), List.mem_of_getElem? (i := 996) (by decide +kernel), List.mem_of_getElem? (i := 997) (by decide +kernel)⟩
theorem lw_p44 : lw_okq (⟨"CableStreet$Machine", "obeyMarks", "(LCableStreet$Car;)V"⟩, 4) := ⟨⟨by decide +kernel, by decide +kernel⟩, List.mem_of_getElem? (i := 432) (by decide +kernel), List.mem_of_getElem? (i := 1000) (by decide +kernel), List.mem_of_getElem? (i := 1001) (by decide +kernel)⟩
theorem lw_p45 : lw_okq (⟨"CableStreet$Machine", "waitOn", "(ILCableStreet$Car;)V"⟩, 4) := ⟨⟨by decide +kernel, by decide +kernel⟩, List.mem_of_getElem? (i := 432) (by decide +kernel), List.mem_of_getElem? (i := 1009) (by decide +kernel), List.mem_of_getElem? (i := 1010) (by decide +kernel)⟩
theorem lw_p46 : lw_okq (⟨"CableStreet$Machine", "ride", "(ILCableStreet$Car;)V"⟩, 4) := ⟨⟨by decide +kernel, by decide +kernel⟩, List.mem_of_getElem? (i := 432) (by decide +kernel), List.mem_of_getElem? (i := 1029) (by decide +kernel), List.mem_of_getElem? (i := 1030) (by decide +kernel)⟩
theorem lw_p47 : lw_okq (⟨"CableStreet$Machine", "missGrip", "(ILCableStreet$Car;)V"⟩, 4) := ⟨⟨by decide +kernel, by decide +kernel⟩, List.mem_of_getElem? (i := 432) (by decide +kernel), List.mem_of_getElem? (i := 1034) (by decide +kernel), List.mem_of_getElem? (i := 1035) (by decide +kernel)⟩
def lw_privs_3 : List (MethodName × Nat) := [(⟨"CableStreet$Reader", "readUnit", "(I)V"⟩, 10), (⟨"CableStreet$Reader", "takeSign", "(C)V"⟩, 10), (⟨"CableStreet$Reader", "readValueWord", "()V"⟩, 10), (⟨"CableStreet$Reader", "relationHere", "()I"⟩, 10), (⟨"CableStreet$Reader", "readMark", "(I)V"⟩, 10), (⟨"CableStreet$Reader", "readSetting", "(I)V"⟩, 10), (⟨"CableStreet$Machine", "dipRopes", "()V"⟩, 4), (⟨"CableStreet$Machine", "note", "(IIII)I"⟩, 4), (⟨"CableStreet$Machine", "moveStrand", "()V"⟩, 4), (⟨"CableStreet$Machine", "wearSplices", "()V"⟩, 4), (⟨"CableStreet$Machine", "gripsOn", "(I)I"⟩, 4), (⟨"CableStreet$Machine", "cutRope", "(III)V"⟩, 4), (⟨"CableStreet$Machine", "obeyMarks", "(LCableStreet$Car;)V"⟩, 4), (⟨"CableStreet$Machine", "waitOn", "(ILCableStreet$Car;)V"⟩, 4), (⟨"CableStreet$Machine", "ride", "(ILCableStreet$Car;)V"⟩, 4), (⟨"CableStreet$Machine", "missGrip", "(ILCableStreet$Car;)V"⟩, 4)]
theorem lw_r3 : ∀ q ∈ lw_privs_3, lw_okq q := List.forall_mem_cons.mpr ⟨lw_p32, List.forall_mem_cons.mpr ⟨lw_p33, List.forall_mem_cons.mpr ⟨lw_p34, List.forall_mem_cons.mpr ⟨lw_p35, List.forall_mem_cons.mpr ⟨lw_p36, List.forall_mem_cons.mpr ⟨lw_p37, List.forall_mem_cons.mpr ⟨lw_p38, List.forall_mem_cons.mpr ⟨lw_p39, List.forall_mem_cons.mpr ⟨lw_p40, List.forall_mem_cons.mpr ⟨lw_p41, List.forall_mem_cons.mpr ⟨lw_p42, List.forall_mem_cons.mpr ⟨lw_p43, List.forall_mem_cons.mpr ⟨lw_p44, List.forall_mem_cons.mpr ⟨lw_p45, List.forall_mem_cons.mpr ⟨lw_p46, List.forall_mem_cons.mpr ⟨lw_p47, fun _ h => absurd h List.not_mem_nil⟩⟩⟩⟩⟩⟩⟩⟩⟩⟩⟩⟩⟩⟩⟩⟩
theorem lw_p48 : lw_okq (⟨"CableStreet$Machine", "step", "(ILCableStreet$Car;)V"⟩, 4) := ⟨⟨by decide +kernel, by decide +kernel⟩, List.mem_of_getElem? (i := 432) (by decide +kernel), List.mem_of_getElem? (i := 1048) (by decide +kernel), List.mem_of_getElem? (i := 1049) (by decide +kernel)⟩
theorem lw_p49 : lw_okq (⟨"CableStreet$Machine", "valueOf", "(III)I"⟩, 4) := ⟨⟨by decide +kernel, by decide +kernel⟩, List.mem_of_getElem? (i := 432) (by decide +kernel), List.mem_of_getElem? (i := 1053) (by decide +kernel), List.mem_of_getElem? (i := 1054) (by decide +kernel)⟩
theorem lw_p50 : lw_okq (⟨"CableStreet$Machine", "unitValue", "(III)I"⟩, 4) := ⟨⟨by decide +kernel, by decide +kernel⟩, List.mem_of_getElem? (i := 432) (by decide +kernel), List.mem_of_getElem? (i := 1073) (by decide +kernel), List.mem_of_getElem? (i := 1074) (by decide +kernel)⟩
theorem lw_p51 : lw_okq (⟨"CableStreet$Machine", "tenthsToNearest", "(II)I"⟩, 4) := ⟨⟨by decide +kernel, by decide +kernel⟩, List.mem_of_getElem? (i := 432) (by decide +kernel), List.mem_of_getElem? (i := 1078) (by decide +kernel), List.mem_of_getElem? (i := 1079) (by decide +kernel)⟩
theorem lw_p52 : lw_okq (⟨"CableStreet$Machine", "countBumps", "()V"⟩, 4) := ⟨⟨by decide +kernel, by decide +kernel⟩, List.mem_of_getElem? (i := 432) (by decide +kernel), List.mem_of_getElem? (i := 1086) (by decide +kernel), List.mem_of_getElem? (i := 1087) (by decide +kernel)⟩
theorem lw_p53 : lw_okq (⟨"CableStreet$Machine", "turnTable", "()V"⟩, 4) := ⟨⟨by decide +kernel, by decide +kernel⟩, List.mem_of_getElem? (i := 432) (by decide +kernel), List.mem_of_getElem? (i := 1091) (by decide +kernel), List.mem_of_getElem? (i := 1092) (by decide +kernel)⟩
theorem lw_p54 : lw_okq (⟨"CableStreet$Machine", "bringBack", "(I)V"⟩, 4) := ⟨⟨by decide +kernel, by decide +kernel⟩, List.mem_of_getElem? (i := 432) (by decide +kernel), List.mem_of_getElem? (i := 1095) (by decide +kernel), List.mem_of_getElem? (i := 1096) (by decide +kernel)⟩
theorem lw_p55 : lw_okq (⟨"CableStreet$Machine", "longestDone", "()I"⟩, 4) := ⟨⟨by decide +kernel, by decide +kernel⟩, List.mem_of_getElem? (i := 432) (by decide +kernel), List.mem_of_getElem? (i := 1099) (by decide +kernel), List.mem_of_getElem? (i := 1100) (by decide +kernel)⟩
theorem lw_p56 : lw_okq (⟨"CableStreet$Forecast", "gapNow", "(LCableStreet$Plan;)I"⟩, 7) := ⟨⟨by decide +kernel, by decide +kernel⟩, List.mem_of_getElem? (i := 451) (by decide +kernel), List.mem_of_getElem? (i := 1266) (by decide +kernel), List.mem_of_getElem? (i := 1267) (by decide +kernel)⟩
theorem lw_p57 : lw_okq (⟨"CableStreet", "carsAheadInOrder", "(I)I"⟩, 11) := ⟨⟨by decide +kernel, by decide +kernel⟩, List.mem_of_getElem? (i := 24) (by decide +kernel), List.mem_of_getElem? (i := 1292) (by decide +kernel), List.mem_of_getElem? (i := 1293) (by decide +kernel)⟩
theorem lw_p58 : lw_okq (⟨"CableStreet$Logs", "counts", "(II)Z"⟩, 9) := ⟨⟨by decide +kernel, by decide +kernel⟩, List.mem_of_getElem? (i := 488) (by decide +kernel), List.mem_of_getElem? (i := 1336) (by decide +kernel), List.mem_of_getElem? (i := 1337) (by decide +kernel)⟩
theorem lw_p59 : lw_okq (⟨"CableStreet$Logs", "isFalse", "(I)Z"⟩, 9) := ⟨⟨by decide +kernel, by decide +kernel⟩, List.mem_of_getElem? (i := 488) (by decide +kernel), List.mem_of_getElem? (i := 1340) (by decide +kernel), List.mem_of_getElem? (i := 1341) (by decide +kernel)⟩
theorem lw_p60 : lw_okq (⟨"CableStreet$Logs", "latestBelow", "(III)I"⟩, 9) := ⟨⟨by decide +kernel, by decide +kernel⟩, List.mem_of_getElem? (i := 488) (by decide +kernel), List.mem_of_getElem? (i := 1356) (by decide +kernel), List.mem_of_getElem? (i := 1357) (by decide +kernel)⟩
theorem lw_p61 : lw_okq (⟨"CableStreetModel", "clearBank", "()V"⟩, 113) := ⟨⟨by decide +kernel, by decide +kernel⟩, List.mem_of_getElem? (i := 1373) (by decide +kernel), List.mem_of_getElem? (i := 1379) (by decide +kernel), List.mem_of_getElem? (i := 1380) (by decide +kernel)⟩
theorem lw_p62 : lw_okq (⟨"CableStreetModel", "begin", "()V"⟩, 113) := ⟨⟨by decide +kernel, by decide +kernel⟩, List.mem_of_getElem? (i := 1373) (by decide +kernel), List.mem_of_getElem? (i := 1383) (by decide +kernel), List.mem_of_getElem? (i := 1384) (by decide +kernel)⟩
theorem lw_p63 : lw_okq (⟨"CableStreetModel", "goOn", "()V"⟩, 113) := ⟨⟨by decide +kernel, by decide +kernel⟩, List.mem_of_getElem? (i := 1373) (by decide +kernel), List.mem_of_getElem? (i := 1731) (by decide +kernel), List.mem_of_getElem? (i := 1732) (by decide +kernel)⟩
def lw_privs_4 : List (MethodName × Nat) := [(⟨"CableStreet$Machine", "step", "(ILCableStreet$Car;)V"⟩, 4), (⟨"CableStreet$Machine", "valueOf", "(III)I"⟩, 4), (⟨"CableStreet$Machine", "unitValue", "(III)I"⟩, 4), (⟨"CableStreet$Machine", "tenthsToNearest", "(II)I"⟩, 4), (⟨"CableStreet$Machine", "countBumps", "()V"⟩, 4), (⟨"CableStreet$Machine", "turnTable", "()V"⟩, 4), (⟨"CableStreet$Machine", "bringBack", "(I)V"⟩, 4), (⟨"CableStreet$Machine", "longestDone", "()I"⟩, 4), (⟨"CableStreet$Forecast", "gapNow", "(LCableStreet$Plan;)I"⟩, 7), (⟨"CableStreet", "carsAheadInOrder", "(I)I"⟩, 11), (⟨"CableStreet$Logs", "counts", "(II)Z"⟩, 9), (⟨"CableStreet$Logs", "isFalse", "(I)Z"⟩, 9), (⟨"CableStreet$Logs", "latestBelow", "(III)I"⟩, 9), (⟨"CableStreetModel", "clearBank", "()V"⟩, 113), (⟨"CableStreetModel", "begin", "()V"⟩, 113), (⟨"CableStreetModel", "goOn", "()V"⟩, 113)]
theorem lw_r4 : ∀ q ∈ lw_privs_4, lw_okq q := List.forall_mem_cons.mpr ⟨lw_p48, List.forall_mem_cons.mpr ⟨lw_p49, List.forall_mem_cons.mpr ⟨lw_p50, List.forall_mem_cons.mpr ⟨lw_p51, List.forall_mem_cons.mpr ⟨lw_p52, List.forall_mem_cons.mpr ⟨lw_p53, List.forall_mem_cons.mpr ⟨lw_p54, List.forall_mem_cons.mpr ⟨lw_p55, List.forall_mem_cons.mpr ⟨lw_p56, List.forall_mem_cons.mpr ⟨lw_p57, List.forall_mem_cons.mpr ⟨lw_p58, List.forall_mem_cons.mpr ⟨lw_p59, List.forall_mem_cons.mpr ⟨lw_p60, List.forall_mem_cons.mpr ⟨lw_p61, List.forall_mem_cons.mpr ⟨lw_p62, List.forall_mem_cons.mpr ⟨lw_p63, fun _ h => absurd h List.not_mem_nil⟩⟩⟩⟩⟩⟩⟩⟩⟩⟩⟩⟩⟩⟩⟩⟩
theorem lw_p64 : lw_okq (⟨"CableStreetModel", "sign", "(I)I"⟩, 113) := ⟨⟨by decide +kernel, by decide +kernel⟩, List.mem_of_getElem? (i := 1373) (by decide +kernel), List.mem_of_getElem? (i := 1735) (by decide +kernel), List.mem_of_getElem? (i := 1736) (by decide +kernel)⟩
theorem lw_p65 : lw_okq (⟨"CableStreetModel", "isGood", "()Z"⟩, 113) := ⟨⟨by decide +kernel, by decide +kernel⟩, List.mem_of_getElem? (i := 1373) (by decide +kernel), List.mem_of_getElem? (i := 1781) (by decide +kernel), List.mem_of_getElem? (i := 1782) (by decide +kernel)⟩
theorem lw_p66 : lw_okq (⟨"CableStreetModel", "readLine", "()V"⟩, 113) := ⟨⟨by decide +kernel, by decide +kernel⟩, List.mem_of_getElem? (i := 1373) (by decide +kernel), List.mem_of_getElem? (i := 1785) (by decide +kernel), List.mem_of_getElem? (i := 1786) (by decide +kernel)⟩
theorem lw_p67 : lw_okq (⟨"CableStreetModel", "isWord", "(J)Z"⟩, 113) := ⟨⟨by decide +kernel, by decide +kernel⟩, List.mem_of_getElem? (i := 1373) (by decide +kernel), List.mem_of_getElem? (i := 1789) (by decide +kernel), List.mem_of_getElem? (i := 1790) (by decide +kernel)⟩
theorem lw_p68 : lw_okq (⟨"CableStreetModel", "markHere", "()I"⟩, 113) := ⟨⟨by decide +kernel, by decide +kernel⟩, List.mem_of_getElem? (i := 1373) (by decide +kernel), List.mem_of_getElem? (i := 1793) (by decide +kernel), List.mem_of_getElem? (i := 1794) (by decide +kernel)⟩
theorem lw_p69 : lw_okq (⟨"CableStreetModel", "isGrownFull", "()Z"⟩, 113) := ⟨⟨by decide +kernel, by decide +kernel⟩, List.mem_of_getElem? (i := 1373) (by decide +kernel), List.mem_of_getElem? (i := 1797) (by decide +kernel), List.mem_of_getElem? (i := 1798) (by decide +kernel)⟩
theorem lw_p70 : lw_okq (⟨"CableStreetModel", "wrong", "()V"⟩, 113) := ⟨⟨by decide +kernel, by decide +kernel⟩, List.mem_of_getElem? (i := 1373) (by decide +kernel), List.mem_of_getElem? (i := 1801) (by decide +kernel), List.mem_of_getElem? (i := 1802) (by decide +kernel)⟩
theorem lw_p71 : lw_okq (⟨"CableStreetModel", "fails", "(II)V"⟩, 113) := ⟨⟨by decide +kernel, by decide +kernel⟩, List.mem_of_getElem? (i := 1373) (by decide +kernel), List.mem_of_getElem? (i := 1805) (by decide +kernel), List.mem_of_getElem? (i := 1806) (by decide +kernel)⟩
theorem lw_p72 : lw_okq (⟨"CableStreetModel", "readRope", "()V"⟩, 113) := ⟨⟨by decide +kernel, by decide +kernel⟩, List.mem_of_getElem? (i := 1373) (by decide +kernel), List.mem_of_getElem? (i := 1809) (by decide +kernel), List.mem_of_getElem? (i := 1810) (by decide +kernel)⟩
theorem lw_p73 : lw_okq (⟨"CableStreetModel", "fresh", "([JII)J"⟩, 113) := ⟨⟨by decide +kernel, by decide +kernel⟩, List.mem_of_getElem? (i := 1373) (by decide +kernel), List.mem_of_getElem? (i := 1813) (by decide +kernel), List.mem_of_getElem? (i := 1814) (by decide +kernel)⟩
theorem lw_p74 : lw_okq (⟨"CableStreetModel", "after", "(JII)I"⟩, 113) := ⟨⟨by decide +kernel, by decide +kernel⟩, List.mem_of_getElem? (i := 1373) (by decide +kernel), List.mem_of_getElem? (i := 1817) (by decide +kernel), List.mem_of_getElem? (i := 1818) (by decide +kernel)⟩
theorem lw_p75 : lw_okq (⟨"CableStreetModel", "must", "(Z)V"⟩, 113) := ⟨⟨by decide +kernel, by decide +kernel⟩, List.mem_of_getElem? (i := 1373) (by decide +kernel), List.mem_of_getElem? (i := 1821) (by decide +kernel), List.mem_of_getElem? (i := 1822) (by decide +kernel)⟩
theorem lw_p76 : lw_okq (⟨"CableStreetModel", "numeral", "(II)I"⟩, 113) := ⟨⟨by decide +kernel, by decide +kernel⟩, List.mem_of_getElem? (i := 1373) (by decide +kernel), List.mem_of_getElem? (i := 1825) (by decide +kernel), List.mem_of_getElem? (i := 1826) (by decide +kernel)⟩
theorem lw_p77 : lw_okq (⟨"CableStreetModel", "readGrade", "()V"⟩, 113) := ⟨⟨by decide +kernel, by decide +kernel⟩, List.mem_of_getElem? (i := 1373) (by decide +kernel), List.mem_of_getElem? (i := 1829) (by decide +kernel), List.mem_of_getElem? (i := 1830) (by decide +kernel)⟩
theorem lw_p78 : lw_okq (⟨"CableStreetModel", "signed", "(I)I"⟩, 113) := ⟨⟨by decide +kernel, by decide +kernel⟩, List.mem_of_getElem? (i := 1373) (by decide +kernel), List.mem_of_getElem? (i := 1833) (by decide +kernel), List.mem_of_getElem? (i := 1834) (by decide +kernel)⟩
theorem lw_p79 : lw_okq (⟨"CableStreetModel", "is", "(I)Z"⟩, 113) := ⟨⟨by decide +kernel, by decide +kernel⟩, List.mem_of_getElem? (i := 1373) (by decide +kernel), List.mem_of_getElem? (i := 1837) (by decide +kernel), List.mem_of_getElem? (i := 1838) (by decide +kernel)⟩
def lw_privs_5 : List (MethodName × Nat) := [(⟨"CableStreetModel", "sign", "(I)I"⟩, 113), (⟨"CableStreetModel", "isGood", "()Z"⟩, 113), (⟨"CableStreetModel", "readLine", "()V"⟩, 113), (⟨"CableStreetModel", "isWord", "(J)Z"⟩, 113), (⟨"CableStreetModel", "markHere", "()I"⟩, 113), (⟨"CableStreetModel", "isGrownFull", "()Z"⟩, 113), (⟨"CableStreetModel", "wrong", "()V"⟩, 113), (⟨"CableStreetModel", "fails", "(II)V"⟩, 113), (⟨"CableStreetModel", "readRope", "()V"⟩, 113), (⟨"CableStreetModel", "fresh", "([JII)J"⟩, 113), (⟨"CableStreetModel", "after", "(JII)I"⟩, 113), (⟨"CableStreetModel", "must", "(Z)V"⟩, 113), (⟨"CableStreetModel", "numeral", "(II)I"⟩, 113), (⟨"CableStreetModel", "readGrade", "()V"⟩, 113), (⟨"CableStreetModel", "signed", "(I)I"⟩, 113), (⟨"CableStreetModel", "is", "(I)Z"⟩, 113)]
theorem lw_r5 : ∀ q ∈ lw_privs_5, lw_okq q := List.forall_mem_cons.mpr ⟨lw_p64, List.forall_mem_cons.mpr ⟨lw_p65, List.forall_mem_cons.mpr ⟨lw_p66, List.forall_mem_cons.mpr ⟨lw_p67, List.forall_mem_cons.mpr ⟨lw_p68, List.forall_mem_cons.mpr ⟨lw_p69, List.forall_mem_cons.mpr ⟨lw_p70, List.forall_mem_cons.mpr ⟨lw_p71, List.forall_mem_cons.mpr ⟨lw_p72, List.forall_mem_cons.mpr ⟨lw_p73, List.forall_mem_cons.mpr ⟨lw_p74, List.forall_mem_cons.mpr ⟨lw_p75, List.forall_mem_cons.mpr ⟨lw_p76, List.forall_mem_cons.mpr ⟨lw_p77, List.forall_mem_cons.mpr ⟨lw_p78, List.forall_mem_cons.mpr ⟨lw_p79, fun _ h => absurd h List.not_mem_nil⟩⟩⟩⟩⟩⟩⟩⟩⟩⟩⟩⟩⟩⟩⟩⟩
theorem lw_p80 : lw_okq (⟨"CableStreetModel", "readCar", "()V"⟩, 113) := ⟨⟨by decide +kernel, by decide +kernel⟩, List.mem_of_getElem? (i := 1373) (by decide +kernel), List.mem_of_getElem? (i := 1841) (by decide +kernel), List.mem_of_getElem? (i := 1842) (by decide +kernel)⟩
theorem lw_p81 : lw_okq (⟨"CableStreetModel", "readMark", "(I)V"⟩, 113) := ⟨⟨by decide +kernel, by decide +kernel⟩, List.mem_of_getElem? (i := 1373) (by decide +kernel), List.mem_of_getElem? (i := 1845) (by decide +kernel), List.mem_of_getElem? (i := 1846) (by decide +kernel)⟩
theorem lw_p82 : lw_okq (⟨"CableStreetModel", "readGrown", "(J)V"⟩, 113) := ⟨⟨by decide +kernel, by decide +kernel⟩, List.mem_of_getElem? (i := 1373) (by decide +kernel), List.mem_of_getElem? (i := 1849) (by decide +kernel), List.mem_of_getElem? (i := 1850) (by decide +kernel)⟩
theorem lw_p83 : lw_okq (⟨"CableStreetModel", "readSplice", "()V"⟩, 113) := ⟨⟨by decide +kernel, by decide +kernel⟩, List.mem_of_getElem? (i := 1373) (by decide +kernel), List.mem_of_getElem? (i := 1853) (by decide +kernel), List.mem_of_getElem? (i := 1854) (by decide +kernel)⟩
theorem lw_p84 : lw_okq (⟨"CableStreetModel", "ropeHere", "()I"⟩, 113) := ⟨⟨by decide +kernel, by decide +kernel⟩, List.mem_of_getElem? (i := 1373) (by decide +kernel), List.mem_of_getElem? (i := 1857) (by decide +kernel), List.mem_of_getElem? (i := 1858) (by decide +kernel)⟩
theorem lw_p85 : lw_okq (⟨"CableStreetModel", "readCross", "()V"⟩, 113) := ⟨⟨by decide +kernel, by decide +kernel⟩, List.mem_of_getElem? (i := 1373) (by decide +kernel), List.mem_of_getElem? (i := 1861) (by decide +kernel), List.mem_of_getElem? (i := 1862) (by decide +kernel)⟩
theorem lw_p86 : lw_okq (⟨"CableStreetModel", "e", "()V"⟩, 113) := ⟨⟨by decide +kernel, by decide +kernel⟩, List.mem_of_getElem? (i := 1373) (by decide +kernel), List.mem_of_getElem? (i := 1865) (by decide +kernel), List.mem_of_getElem? (i := 1866) (by decide +kernel)⟩
theorem lw_p87 : lw_okq (⟨"CableStreetModel", "pushE", "(II)V"⟩, 113) := ⟨⟨by decide +kernel, by decide +kernel⟩, List.mem_of_getElem? (i := 1373) (by decide +kernel), List.mem_of_getElem? (i := 1869) (by decide +kernel), List.mem_of_getElem? (i := 1870) (by decide +kernel)⟩
theorem lw_p88 : lw_okq (⟨"CableStreetModel", "unit", "()Z"⟩, 113) := ⟨⟨by decide +kernel, by decide +kernel⟩, List.mem_of_getElem? (i := 1373) (by decide +kernel), List.mem_of_getElem? (i := 1873) (by decide +kernel), List.mem_of_getElem? (i := 1874) (by decide +kernel)⟩
theorem lw_p89 : lw_okq (⟨"CableStreetModel", "wordHere", "()I"⟩, 113) := ⟨⟨by decide +kernel, by decide +kernel⟩, List.mem_of_getElem? (i := 1373) (by decide +kernel), List.mem_of_getElem? (i := 1877) (by decide +kernel), List.mem_of_getElem? (i := 1878) (by decide +kernel)⟩
theorem lw_p90 : lw_okq (⟨"CableStreetModel", "emit", "(II)V"⟩, 113) := ⟨⟨by decide +kernel, by decide +kernel⟩, List.mem_of_getElem? (i := 1373) (by decide +kernel), List.mem_of_getElem? (i := 1881) (by decide +kernel), List.mem_of_getElem? (i := 1882) (by decide +kernel)⟩
theorem lw_p91 : lw_okq (⟨"CableStreetModel", "behindUnit", "()Z"⟩, 113) := ⟨⟨by decide +kernel, by decide +kernel⟩, List.mem_of_getElem? (i := 1373) (by decide +kernel), List.mem_of_getElem? (i := 1885) (by decide +kernel), List.mem_of_getElem? (i := 1886) (by decide +kernel)⟩
theorem lw_p92 : lw_okq (⟨"CableStreetModel", "rankHere", "()I"⟩, 113) := ⟨⟨by decide +kernel, by decide +kernel⟩, List.mem_of_getElem? (i := 1373) (by decide +kernel), List.mem_of_getElem? (i := 1889) (by decide +kernel), List.mem_of_getElem? (i := 1890) (by decide +kernel)⟩
theorem lw_p93 : lw_okq (⟨"CableStreetModel", "isCompared", "()Z"⟩, 113) := ⟨⟨by decide +kernel, by decide +kernel⟩, List.mem_of_getElem? (i := 1373) (by decide +kernel), List.mem_of_getElem? (i := 1893) (by decide +kernel), List.mem_of_getElem? (i := 1894) (by decide +kernel)⟩
theorem lw_p94 : lw_okq (⟨"CableStreetModel", "tick", "()V"⟩, 113) := ⟨⟨by decide +kernel, by decide +kernel⟩, List.mem_of_getElem? (i := 1373) (by decide +kernel), List.mem_of_getElem? (i := 1909) (by decide +kernel), List.mem_of_getElem? (i := 1910) (by decide +kernel)⟩
theorem lw_p95 : lw_okq (⟨"CableStreetModel", "loadOf", "(I)I"⟩, 113) := ⟨⟨by decide +kernel, by decide +kernel⟩, List.mem_of_getElem? (i := 1373) (by decide +kernel), List.mem_of_getElem? (i := 1913) (by decide +kernel), List.mem_of_getElem? (i := 1914) (by decide +kernel)⟩
def lw_privs_6 : List (MethodName × Nat) := [(⟨"CableStreetModel", "readCar", "()V"⟩, 113), (⟨"CableStreetModel", "readMark", "(I)V"⟩, 113), (⟨"CableStreetModel", "readGrown", "(J)V"⟩, 113), (⟨"CableStreetModel", "readSplice", "()V"⟩, 113), (⟨"CableStreetModel", "ropeHere", "()I"⟩, 113), (⟨"CableStreetModel", "readCross", "()V"⟩, 113), (⟨"CableStreetModel", "e", "()V"⟩, 113), (⟨"CableStreetModel", "pushE", "(II)V"⟩, 113), (⟨"CableStreetModel", "unit", "()Z"⟩, 113), (⟨"CableStreetModel", "wordHere", "()I"⟩, 113), (⟨"CableStreetModel", "emit", "(II)V"⟩, 113), (⟨"CableStreetModel", "behindUnit", "()Z"⟩, 113), (⟨"CableStreetModel", "rankHere", "()I"⟩, 113), (⟨"CableStreetModel", "isCompared", "()Z"⟩, 113), (⟨"CableStreetModel", "tick", "()V"⟩, 113), (⟨"CableStreetModel", "loadOf", "(I)I"⟩, 113)]
theorem lw_r6 : ∀ q ∈ lw_privs_6, lw_okq q := List.forall_mem_cons.mpr ⟨lw_p80, List.forall_mem_cons.mpr ⟨lw_p81, List.forall_mem_cons.mpr ⟨lw_p82, List.forall_mem_cons.mpr ⟨lw_p83, List.forall_mem_cons.mpr ⟨lw_p84, List.forall_mem_cons.mpr ⟨lw_p85, List.forall_mem_cons.mpr ⟨lw_p86, List.forall_mem_cons.mpr ⟨lw_p87, List.forall_mem_cons.mpr ⟨lw_p88, List.forall_mem_cons.mpr ⟨lw_p89, List.forall_mem_cons.mpr ⟨lw_p90, List.forall_mem_cons.mpr ⟨lw_p91, List.forall_mem_cons.mpr ⟨lw_p92, List.forall_mem_cons.mpr ⟨lw_p93, List.forall_mem_cons.mpr ⟨lw_p94, List.forall_mem_cons.mpr ⟨lw_p95, fun _ h => absurd h List.not_mem_nil⟩⟩⟩⟩⟩⟩⟩⟩⟩⟩⟩⟩⟩⟩⟩⟩
theorem lw_p96 : lw_okq (⟨"CableStreetModel", "carMany", "()I"⟩, 113) := ⟨⟨by decide +kernel, by decide +kernel⟩, List.mem_of_getElem? (i := 1373) (by decide +kernel), List.mem_of_getElem? (i := 1917) (by decide +kernel), List.mem_of_getElem? (i := 1918) (by decide +kernel)⟩
theorem lw_p97 : lw_okq (⟨"CableStreetModel", "on", "(I)I"⟩, 113) := ⟨⟨by decide +kernel, by decide +kernel⟩, List.mem_of_getElem? (i := 1373) (by decide +kernel), List.mem_of_getElem? (i := 1921) (by decide +kernel), List.mem_of_getElem? (i := 1922) (by decide +kernel)⟩
theorem lw_p98 : lw_okq (⟨"CableStreetModel", "ropeAt", "(I)I"⟩, 113) := ⟨⟨by decide +kernel, by decide +kernel⟩, List.mem_of_getElem? (i := 1373) (by decide +kernel), List.mem_of_getElem? (i := 1925) (by decide +kernel), List.mem_of_getElem? (i := 1926) (by decide +kernel)⟩
theorem lw_p99 : lw_okq (⟨"CableStreetModel", "weight", "(I)I"⟩, 113) := ⟨⟨by decide +kernel, by decide +kernel⟩, List.mem_of_getElem? (i := 1373) (by decide +kernel), List.mem_of_getElem? (i := 1929) (by decide +kernel), List.mem_of_getElem? (i := 1930) (by decide +kernel)⟩
theorem lw_p100 : lw_okq (⟨"CableStreetModel", "gradeAt", "(I)I"⟩, 113) := ⟨⟨by decide +kernel, by decide +kernel⟩, List.mem_of_getElem? (i := 1373) (by decide +kernel), List.mem_of_getElem? (i := 1933) (by decide +kernel), List.mem_of_getElem? (i := 1934) (by decide +kernel)⟩
theorem lw_p101 : lw_okq (⟨"CableStreetModel", "event0", "(IIII)I"⟩, 113) := ⟨⟨by decide +kernel, by decide +kernel⟩, List.mem_of_getElem? (i := 1373) (by decide +kernel), List.mem_of_getElem? (i := 1937) (by decide +kernel), List.mem_of_getElem? (i := 1938) (by decide +kernel)⟩
theorem lw_p102 : lw_okq (⟨"CableStreetModel", "moveStrand", "()V"⟩, 113) := ⟨⟨by decide +kernel, by decide +kernel⟩, List.mem_of_getElem? (i := 1373) (by decide +kernel), List.mem_of_getElem? (i := 1941) (by decide +kernel), List.mem_of_getElem? (i := 1942) (by decide +kernel)⟩
theorem lw_p103 : lw_okq (⟨"CableStreetModel", "strandOn", "()I"⟩, 113) := ⟨⟨by decide +kernel, by decide +kernel⟩, List.mem_of_getElem? (i := 1373) (by decide +kernel), List.mem_of_getElem? (i := 1945) (by decide +kernel), List.mem_of_getElem? (i := 1946) (by decide +kernel)⟩
theorem lw_p104 : lw_okq (⟨"CableStreetModel", "segmentOf", "(II)I"⟩, 113) := ⟨⟨by decide +kernel, by decide +kernel⟩, List.mem_of_getElem? (i := 1373) (by decide +kernel), List.mem_of_getElem? (i := 1949) (by decide +kernel), List.mem_of_getElem? (i := 1950) (by decide +kernel)⟩
theorem lw_p105 : lw_okq (⟨"CableStreetModel", "moveSplice", "(I)V"⟩, 113) := ⟨⟨by decide +kernel, by decide +kernel⟩, List.mem_of_getElem? (i := 1373) (by decide +kernel), List.mem_of_getElem? (i := 1953) (by decide +kernel), List.mem_of_getElem? (i := 1954) (by decide +kernel)⟩
theorem lw_p106 : lw_okq (⟨"CableStreetModel", "grippers", "(I)I"⟩, 113) := ⟨⟨by decide +kernel, by decide +kernel⟩, List.mem_of_getElem? (i := 1373) (by decide +kernel), List.mem_of_getElem? (i := 1957) (by decide +kernel), List.mem_of_getElem? (i := 1958) (by decide +kernel)⟩
theorem lw_p107 : lw_okq (⟨"CableStreetModel", "cutRope", "(III)V"⟩, 113) := ⟨⟨by decide +kernel, by decide +kernel⟩, List.mem_of_getElem? (i := 1373) (by decide +kernel), List.mem_of_getElem? (i := 1961) (by decide +kernel), List.mem_of_getElem? (i := 1962) (by decide +kernel)⟩
theorem lw_p108 : lw_okq (⟨"CableStreetModel", "goes", "(I)V"⟩, 113) := ⟨⟨by decide +kernel, by decide +kernel⟩, List.mem_of_getElem? (i := 1373) (by decide +kernel), List.mem_of_getElem? (i := 1965) (by decide +kernel), List.mem_of_getElem? (i := 1966) (by decide +kernel)⟩
theorem lw_p109 : lw_okq (⟨"CableStreetModel", "readMarks", "(II)V"⟩, 113) := ⟨⟨by decide +kernel, by decide +kernel⟩, List.mem_of_getElem? (i := 1373) (by decide +kernel), List.mem_of_getElem? (i := 1969) (by decide +kernel), List.mem_of_getElem? (i := 1970) (by decide +kernel)⟩
theorem lw_p110 : lw_okq (⟨"CableStreetModel", "has", "(II)Z"⟩, 113) := ⟨⟨by decide +kernel, by decide +kernel⟩, List.mem_of_getElem? (i := 1373) (by decide +kernel), List.mem_of_getElem? (i := 1973) (by decide +kernel), List.mem_of_getElem? (i := 1974) (by decide +kernel)⟩
theorem lw_p111 : lw_okq (⟨"CableStreetModel", "waitsOn", "(II)V"⟩, 113) := ⟨⟨by decide +kernel, by decide +kernel⟩, List.mem_of_getElem? (i := 1373) (by decide +kernel), List.mem_of_getElem? (i := 1977) (by decide +kernel), List.mem_of_getElem? (i := 1978) (by decide +kernel)⟩
def lw_privs_7 : List (MethodName × Nat) := [(⟨"CableStreetModel", "carMany", "()I"⟩, 113), (⟨"CableStreetModel", "on", "(I)I"⟩, 113), (⟨"CableStreetModel", "ropeAt", "(I)I"⟩, 113), (⟨"CableStreetModel", "weight", "(I)I"⟩, 113), (⟨"CableStreetModel", "gradeAt", "(I)I"⟩, 113), (⟨"CableStreetModel", "event0", "(IIII)I"⟩, 113), (⟨"CableStreetModel", "moveStrand", "()V"⟩, 113), (⟨"CableStreetModel", "strandOn", "()I"⟩, 113), (⟨"CableStreetModel", "segmentOf", "(II)I"⟩, 113), (⟨"CableStreetModel", "moveSplice", "(I)V"⟩, 113), (⟨"CableStreetModel", "grippers", "(I)I"⟩, 113), (⟨"CableStreetModel", "cutRope", "(III)V"⟩, 113), (⟨"CableStreetModel", "goes", "(I)V"⟩, 113), (⟨"CableStreetModel", "readMarks", "(II)V"⟩, 113), (⟨"CableStreetModel", "has", "(II)Z"⟩, 113), (⟨"CableStreetModel", "waitsOn", "(II)V"⟩, 113)]
theorem lw_r7 : ∀ q ∈ lw_privs_7, lw_okq q := List.forall_mem_cons.mpr ⟨lw_p96, List.forall_mem_cons.mpr ⟨lw_p97, List.forall_mem_cons.mpr ⟨lw_p98, List.forall_mem_cons.mpr ⟨lw_p99, List.forall_mem_cons.mpr ⟨lw_p100, List.forall_mem_cons.mpr ⟨lw_p101, List.forall_mem_cons.mpr ⟨lw_p102, List.forall_mem_cons.mpr ⟨lw_p103, List.forall_mem_cons.mpr ⟨lw_p104, List.forall_mem_cons.mpr ⟨lw_p105, List.forall_mem_cons.mpr ⟨lw_p106, List.forall_mem_cons.mpr ⟨lw_p107, List.forall_mem_cons.mpr ⟨lw_p108, List.forall_mem_cons.mpr ⟨lw_p109, List.forall_mem_cons.mpr ⟨lw_p110, List.forall_mem_cons.mpr ⟨lw_p111, fun _ h => absurd h List.not_mem_nil⟩⟩⟩⟩⟩⟩⟩⟩⟩⟩⟩⟩⟩⟩⟩⟩
theorem lw_p112 : lw_okq (⟨"CableStreetModel", "latestOf", "(II)I"⟩, 113) := ⟨⟨by decide +kernel, by decide +kernel⟩, List.mem_of_getElem? (i := 1373) (by decide +kernel), List.mem_of_getElem? (i := 1984) (by decide +kernel), List.mem_of_getElem? (i := 1985) (by decide +kernel)⟩
theorem lw_p113 : lw_okq (⟨"CableStreetModel", "gripsOn", "(II)V"⟩, 113) := ⟨⟨by decide +kernel, by decide +kernel⟩, List.mem_of_getElem? (i := 1373) (by decide +kernel), List.mem_of_getElem? (i := 1988) (by decide +kernel), List.mem_of_getElem? (i := 1989) (by decide +kernel)⟩
theorem lw_p114 : lw_okq (⟨"CableStreetModel", "coasting", "(II)I"⟩, 113) := ⟨⟨by decide +kernel, by decide +kernel⟩, List.mem_of_getElem? (i := 1373) (by decide +kernel), List.mem_of_getElem? (i := 1992) (by decide +kernel), List.mem_of_getElem? (i := 1993) (by decide +kernel)⟩
theorem lw_p115 : lw_okq (⟨"CableStreetModel", "holdBack", "(II)V"⟩, 113) := ⟨⟨by decide +kernel, by decide +kernel⟩, List.mem_of_getElem? (i := 1373) (by decide +kernel), List.mem_of_getElem? (i := 1996) (by decide +kernel), List.mem_of_getElem? (i := 1997) (by decide +kernel)⟩
theorem lw_p116 : lw_okq (⟨"CableStreetModel", "crossAt", "(I)I"⟩, 113) := ⟨⟨by decide +kernel, by decide +kernel⟩, List.mem_of_getElem? (i := 1373) (by decide +kernel), List.mem_of_getElem? (i := 2000) (by decide +kernel), List.mem_of_getElem? (i := 2001) (by decide +kernel)⟩
theorem lw_p117 : lw_okq (⟨"CableStreetModel", "comes", "(II)I"⟩, 113) := ⟨⟨by decide +kernel, by decide +kernel⟩, List.mem_of_getElem? (i := 1373) (by decide +kernel), List.mem_of_getElem? (i := 2004) (by decide +kernel), List.mem_of_getElem? (i := 2005) (by decide +kernel)⟩
theorem lw_p118 : lw_okq (⟨"CableStreetModel", "amount", "(II)I"⟩, 113) := ⟨⟨by decide +kernel, by decide +kernel⟩, List.mem_of_getElem? (i := 1373) (by decide +kernel), List.mem_of_getElem? (i := 2008) (by decide +kernel), List.mem_of_getElem? (i := 2009) (by decide +kernel)⟩
theorem lw_p119 : lw_okq (⟨"CableStreetModel", "nearest", "(IZ)I"⟩, 113) := ⟨⟨by decide +kernel, by decide +kernel⟩, List.mem_of_getElem? (i := 1373) (by decide +kernel), List.mem_of_getElem? (i := 2012) (by decide +kernel), List.mem_of_getElem? (i := 2013) (by decide +kernel)⟩
theorem lw_p120 : lw_okq (⟨"CableStreetModel", "turns", "()V"⟩, 113) := ⟨⟨by decide +kernel, by decide +kernel⟩, List.mem_of_getElem? (i := 1373) (by decide +kernel), List.mem_of_getElem? (i := 2019) (by decide +kernel), List.mem_of_getElem? (i := 2020) (by decide +kernel)⟩
theorem lw_p121 : lw_okq (⟨"CableStreetModel", "comesBack", "(I)V"⟩, 113) := ⟨⟨by decide +kernel, by decide +kernel⟩, List.mem_of_getElem? (i := 1373) (by decide +kernel), List.mem_of_getElem? (i := 2023) (by decide +kernel), List.mem_of_getElem? (i := 2024) (by decide +kernel)⟩
theorem lw_p122 : lw_okq (⟨"CableStreetModel", "going", "()I"⟩, 113) := ⟨⟨by decide +kernel, by decide +kernel⟩, List.mem_of_getElem? (i := 1373) (by decide +kernel), List.mem_of_getElem? (i := 2027) (by decide +kernel), List.mem_of_getElem? (i := 2028) (by decide +kernel)⟩
theorem lw_p123 : lw_okq (⟨"CableStreetModel", "isCar", "(I)Z"⟩, 113) := ⟨⟨by decide +kernel, by decide +kernel⟩, List.mem_of_getElem? (i := 1373) (by decide +kernel), List.mem_of_getElem? (i := 2035) (by decide +kernel), List.mem_of_getElem? (i := 2036) (by decide +kernel)⟩
theorem lw_p124 : lw_okq (⟨"CableStreetModel", "isRope", "(I)Z"⟩, 113) := ⟨⟨by decide +kernel, by decide +kernel⟩, List.mem_of_getElem? (i := 1373) (by decide +kernel), List.mem_of_getElem? (i := 2047) (by decide +kernel), List.mem_of_getElem? (i := 2048) (by decide +kernel)⟩
theorem lw_p125 : lw_okq (⟨"CableStreetModel", "isPlace", "(II)Z"⟩, 113) := ⟨⟨by decide +kernel, by decide +kernel⟩, List.mem_of_getElem? (i := 1373) (by decide +kernel), List.mem_of_getElem? (i := 2059) (by decide +kernel), List.mem_of_getElem? (i := 2060) (by decide +kernel)⟩
theorem lw_p126 : lw_okq (⟨"CableStreetModel", "keep", "(I)V"⟩, 113) := ⟨⟨by decide +kernel, by decide +kernel⟩, List.mem_of_getElem? (i := 1373) (by decide +kernel), List.mem_of_getElem? (i := 2100) (by decide +kernel), List.mem_of_getElem? (i := 2101) (by decide +kernel)⟩
theorem lw_p127 : lw_okq (⟨"CableStreetModel", "keepEvents", "(I)V"⟩, 113) := ⟨⟨by decide +kernel, by decide +kernel⟩, List.mem_of_getElem? (i := 1373) (by decide +kernel), List.mem_of_getElem? (i := 2104) (by decide +kernel), List.mem_of_getElem? (i := 2105) (by decide +kernel)⟩
def lw_privs_8 : List (MethodName × Nat) := [(⟨"CableStreetModel", "latestOf", "(II)I"⟩, 113), (⟨"CableStreetModel", "gripsOn", "(II)V"⟩, 113), (⟨"CableStreetModel", "coasting", "(II)I"⟩, 113), (⟨"CableStreetModel", "holdBack", "(II)V"⟩, 113), (⟨"CableStreetModel", "crossAt", "(I)I"⟩, 113), (⟨"CableStreetModel", "comes", "(II)I"⟩, 113), (⟨"CableStreetModel", "amount", "(II)I"⟩, 113), (⟨"CableStreetModel", "nearest", "(IZ)I"⟩, 113), (⟨"CableStreetModel", "turns", "()V"⟩, 113), (⟨"CableStreetModel", "comesBack", "(I)V"⟩, 113), (⟨"CableStreetModel", "going", "()I"⟩, 113), (⟨"CableStreetModel", "isCar", "(I)Z"⟩, 113), (⟨"CableStreetModel", "isRope", "(I)Z"⟩, 113), (⟨"CableStreetModel", "isPlace", "(II)Z"⟩, 113), (⟨"CableStreetModel", "keep", "(I)V"⟩, 113), (⟨"CableStreetModel", "keepEvents", "(I)V"⟩, 113)]
theorem lw_r8 : ∀ q ∈ lw_privs_8, lw_okq q := List.forall_mem_cons.mpr ⟨lw_p112, List.forall_mem_cons.mpr ⟨lw_p113, List.forall_mem_cons.mpr ⟨lw_p114, List.forall_mem_cons.mpr ⟨lw_p115, List.forall_mem_cons.mpr ⟨lw_p116, List.forall_mem_cons.mpr ⟨lw_p117, List.forall_mem_cons.mpr ⟨lw_p118, List.forall_mem_cons.mpr ⟨lw_p119, List.forall_mem_cons.mpr ⟨lw_p120, List.forall_mem_cons.mpr ⟨lw_p121, List.forall_mem_cons.mpr ⟨lw_p122, List.forall_mem_cons.mpr ⟨lw_p123, List.forall_mem_cons.mpr ⟨lw_p124, List.forall_mem_cons.mpr ⟨lw_p125, List.forall_mem_cons.mpr ⟨lw_p126, List.forall_mem_cons.mpr ⟨lw_p127, fun _ h => absurd h List.not_mem_nil⟩⟩⟩⟩⟩⟩⟩⟩⟩⟩⟩⟩⟩⟩⟩⟩
theorem lw_p128 : lw_okq (⟨"CableStreetModel", "isWornBy", "(I)Z"⟩, 113) := ⟨⟨by decide +kernel, by decide +kernel⟩, List.mem_of_getElem? (i := 1373) (by decide +kernel), List.mem_of_getElem? (i := 2108) (by decide +kernel), List.mem_of_getElem? (i := 2109) (by decide +kernel)⟩
theorem lw_p129 : lw_okq (⟨"CableStreetModel", "bring", "(I)V"⟩, 113) := ⟨⟨by decide +kernel, by decide +kernel⟩, List.mem_of_getElem? (i := 1373) (by decide +kernel), List.mem_of_getElem? (i := 2112) (by decide +kernel), List.mem_of_getElem? (i := 2113) (by decide +kernel)⟩
theorem lw_p130 : lw_okq (⟨"CableStreetModel", "bringEvents", "(I)V"⟩, 113) := ⟨⟨by decide +kernel, by decide +kernel⟩, List.mem_of_getElem? (i := 1373) (by decide +kernel), List.mem_of_getElem? (i := 2116) (by decide +kernel), List.mem_of_getElem? (i := 2117) (by decide +kernel)⟩
theorem lw_p131 : lw_okq (⟨"CableStreetModel", "coast", "(II)V"⟩, 113) := ⟨⟨by decide +kernel, by decide +kernel⟩, List.mem_of_getElem? (i := 1373) (by decide +kernel), List.mem_of_getElem? (i := 2135) (by decide +kernel), List.mem_of_getElem? (i := 2136) (by decide +kernel)⟩
theorem lw_p132 : lw_okq (⟨"CableStreetModel", "headOf", "(I)I"⟩, 113) := ⟨⟨by decide +kernel, by decide +kernel⟩, List.mem_of_getElem? (i := 1373) (by decide +kernel), List.mem_of_getElem? (i := 2154) (by decide +kernel), List.mem_of_getElem? (i := 2155) (by decide +kernel)⟩
theorem lw_p133 : lw_okq (⟨"CableStreetModel", "findFalse", "()V"⟩, 113) := ⟨⟨by decide +kernel, by decide +kernel⟩, List.mem_of_getElem? (i := 1373) (by decide +kernel), List.mem_of_getElem? (i := 2191) (by decide +kernel), List.mem_of_getElem? (i := 2192) (by decide +kernel)⟩
theorem lw_p134 : lw_okq (⟨"CableStreetModel", "counts", "(II)Z"⟩, 113) := ⟨⟨by decide +kernel, by decide +kernel⟩, List.mem_of_getElem? (i := 1373) (by decide +kernel), List.mem_of_getElem? (i := 2195) (by decide +kernel), List.mem_of_getElem? (i := 2196) (by decide +kernel)⟩
theorem lw_p135 : lw_okq (⟨"CableStreetModel", "latest", "(III)I"⟩, 113) := ⟨⟨by decide +kernel, by decide +kernel⟩, List.mem_of_getElem? (i := 1373) (by decide +kernel), List.mem_of_getElem? (i := 2203) (by decide +kernel), List.mem_of_getElem? (i := 2204) (by decide +kernel)⟩
def lw_privs_9 : List (MethodName × Nat) := [(⟨"CableStreetModel", "isWornBy", "(I)Z"⟩, 113), (⟨"CableStreetModel", "bring", "(I)V"⟩, 113), (⟨"CableStreetModel", "bringEvents", "(I)V"⟩, 113), (⟨"CableStreetModel", "coast", "(II)V"⟩, 113), (⟨"CableStreetModel", "headOf", "(I)I"⟩, 113), (⟨"CableStreetModel", "findFalse", "()V"⟩, 113), (⟨"CableStreetModel", "counts", "(II)Z"⟩, 113), (⟨"CableStreetModel", "latest", "(III)I"⟩, 113)]
theorem lw_r9 : ∀ q ∈ lw_privs_9, lw_okq q := List.forall_mem_cons.mpr ⟨lw_p128, List.forall_mem_cons.mpr ⟨lw_p129, List.forall_mem_cons.mpr ⟨lw_p130, List.forall_mem_cons.mpr ⟨lw_p131, List.forall_mem_cons.mpr ⟨lw_p132, List.forall_mem_cons.mpr ⟨lw_p133, List.forall_mem_cons.mpr ⟨lw_p134, List.forall_mem_cons.mpr ⟨lw_p135, fun _ h => absurd h List.not_mem_nil⟩⟩⟩⟩⟩⟩⟩⟩
def lw_privs : List (MethodName × Nat) := lw_privs_1 ++ (lw_privs_2 ++ (lw_privs_3 ++ (lw_privs_4 ++ (lw_privs_5 ++ (lw_privs_6 ++ (lw_privs_7 ++ (lw_privs_8 ++ (lw_privs_9))))))))
def lw_tbl : List Cond := k2_sels lw_privs ++ tables_1
theorem lw_privs_ok : ∀ q ∈ lw_privs, lw_okq q := by
  show ∀ q ∈ lw_privs_1 ++ (lw_privs_2 ++ (lw_privs_3 ++ (lw_privs_4 ++ (lw_privs_5 ++ (lw_privs_6 ++ (lw_privs_7 ++ (lw_privs_8 ++ (lw_privs_9)))))))), lw_okq q
  exact List.forall_mem_append.mpr ⟨lw_r1, List.forall_mem_append.mpr ⟨lw_r2, List.forall_mem_append.mpr ⟨lw_r3, List.forall_mem_append.mpr ⟨lw_r4, List.forall_mem_append.mpr ⟨lw_r5, List.forall_mem_append.mpr ⟨lw_r6, List.forall_mem_append.mpr ⟨lw_r7, List.forall_mem_append.mpr ⟨lw_r8, lw_r9⟩⟩⟩⟩⟩⟩⟩⟩
def RX0 : String := "CableStreet$Car"
def TX0 : u_T := fun k => match k with
  | 0 => ("CableStreet$Car", "x", "I", false)
  | 1 => ("CableStreet$Car", "v", "I", false)
  | 2 => ("CableStreet$Car", "mode", "I", false)
  | 3 => ("CableStreet$Car", "waits", "I", false)
  | 4 => ("CableStreet$Car", "caught", "Z", false)
  | 5 => ("CableStreet$Car", "entered", "Z", false)
  | 6 => ("CableStreet$Car", "gripped", "I", false)
  | 7 => ("CableStreet$Car", "doneAt", "I", false)
  | 8 => ("CableStreet$Car", "trips", "I", false)
  | 9 => ("CableStreet$Car", "caughtEvent", "I", false)
  | _ => ("CableStreet$Car", "heldEvent", "I", false)
def tyX0 : Nat → FieldType := fun k => match k with
  | 0 => .int
  | 1 => .int
  | 2 => .int
  | 3 => .int
  | 4 => .boolean
  | 5 => .boolean
  | 6 => .int
  | 7 => .int
  | 8 => .int
  | 9 => .int
  | _ => .int
theorem nmX0 : ∀ a, a < 11 → ∀ b, b < 11 → a ≠ b → (TX0 a).2.1 ≠ (TX0 b).2.1 := by decide +kernel
theorem tyX0_ok : ∀ k, k < 11 → parseFieldDescriptor (TX0 k).2.2.1 = some (tyX0 k) := by decide +kernel
abbrev cX0_init : ByteArray := prog_2_method_1_code
def yX0_init : MethodName := ⟨RX0, "<init>", "()V"⟩
abbrev cX0_begin : ByteArray := prog_2_method_2_code
def yX0_begin : MethodName := ⟨RX0, "begin", "(I)V"⟩
abbrev cX0_copyFrom : ByteArray := prog_2_method_3_code
def yX0_copyFrom : MethodName := ⟨RX0, "copyFrom", "(LCableStreet$Car;)V"⟩
abbrev cX0_segment : ByteArray := prog_2_method_4_code
def yX0_segment : MethodName := ⟨RX0, "segment", "()I"⟩
abbrev cX0_waitFor : ByteArray := prog_2_method_5_code
def yX0_waitFor : MethodName := ⟨RX0, "waitFor", "(I)V"⟩
abbrev cX0_waitLonger : ByteArray := prog_2_method_6_code
def yX0_waitLonger : MethodName := ⟨RX0, "waitLonger", "(I)V"⟩
abbrev cX0_letGo : ByteArray := prog_2_method_7_code
def yX0_letGo : MethodName := ⟨RX0, "letGo", "()V"⟩
def RX1 : String := "CableStreet$Crosses"
def TX1 : u_T := fun k => match k with
  | 0 => ("CableStreet$Crosses", "told", "I", false)
  | 1 => ("CableStreet$Crosses", "units", "I", false)
  | 2 => ("CableStreet$Crosses", "numberOn", "[I", true)
  | 3 => ("CableStreet$Crosses", "begin", "[I", true)
  | 4 => ("CableStreet$Crosses", "steps", "[I", true)
  | _ => ("CableStreet$Crosses", "stepsTold", "I", false)
def tyX1 : Nat → FieldType := fun k => match k with
  | 0 => .int
  | 1 => .int
  | 2 => .array .int
  | 3 => .array .int
  | 4 => .array .int
  | _ => .int
theorem nmX1 : ∀ a, a < 6 → ∀ b, b < 6 → a ≠ b → (TX1 a).2.1 ≠ (TX1 b).2.1 := by decide +kernel
theorem tyX1_ok : ∀ k, k < 6 → parseFieldDescriptor (TX1 k).2.2.1 = some (tyX1 k) := by decide +kernel
abbrev cX1_init : ByteArray := prog_3_method_1_code
def yX1_init : MethodName := ⟨RX1, "<init>", "()V"⟩
abbrev cX1_clear : ByteArray := prog_3_method_2_code
def yX1_clear : MethodName := ⟨RX1, "clear", "()V"⟩
abbrev cX1_numberOn : ByteArray := prog_3_method_3_code
def yX1_numberOn : MethodName := ⟨RX1, "numberOn", "(I)I"⟩
abbrev cX1_add : ByteArray := prog_3_method_4_code
def yX1_add : MethodName := ⟨RX1, "add", "(I)V"⟩
abbrev cX1_addStep : ByteArray := prog_3_method_5_code
def yX1_addStep : MethodName := ⟨RX1, "addStep", "(II)V"⟩
abbrev cX1_firstStep : ByteArray := prog_3_method_6_code
def yX1_firstStep : MethodName := ⟨RX1, "firstStep", "(I)I"⟩
abbrev cX1_stepsEnd : ByteArray := prog_3_method_7_code
def yX1_stepsEnd : MethodName := ⟨RX1, "stepsEnd", "(I)I"⟩
abbrev cX1_opOf : ByteArray := prog_3_method_8_code
def yX1_opOf : MethodName := ⟨RX1, "opOf", "(I)I"⟩
abbrev cX1_argumentOf : ByteArray := prog_3_method_9_code
def yX1_argumentOf : MethodName := ⟨RX1, "argumentOf", "(I)I"⟩
def RX2 : String := "CableStreet$Events"
def TX2 : u_T := fun k => match k with
  | 0 => ("CableStreet$Events", "counts", "[I", true)
  | 1 => ("CableStreet$Events", "cells", "[I", true)
  | _ => ("CableStreet$Events", "kept", "I", false)
def tyX2 : Nat → FieldType := fun k => match k with
  | 0 => .array .int
  | 1 => .array .int
  | _ => .int
theorem nmX2 : ∀ a, a < 3 → ∀ b, b < 3 → a ≠ b → (TX2 a).2.1 ≠ (TX2 b).2.1 := by decide +kernel
theorem tyX2_ok : ∀ k, k < 3 → parseFieldDescriptor (TX2 k).2.2.1 = some (tyX2 k) := by decide +kernel
abbrev cX2_init : ByteArray := prog_4_method_1_code
def yX2_init : MethodName := ⟨RX2, "<init>", "()V"⟩
abbrev cX2_clear : ByteArray := prog_4_method_2_code
def yX2_clear : MethodName := ⟨RX2, "clear", "()V"⟩
abbrev cX2_copyFrom : ByteArray := prog_4_method_3_code
def yX2_copyFrom : MethodName := ⟨RX2, "copyFrom", "(LCableStreet$Events;)V"⟩
abbrev cX2_keep : ByteArray := prog_4_method_4_code
def yX2_keep : MethodName := ⟨RX2, "keep", "(IIIII)I"⟩
abbrev cX2_cell : ByteArray := prog_4_method_5_code
def yX2_cell : MethodName := ⟨RX2, "cell", "(II)I"⟩
def RX3 : String := "CableStreet$Forecast"
def TX3 : u_T := fun k => match k with
  | 0 => ("CableStreet$Forecast", "machine", "LCableStreet$Machine;", true)
  | 1 => ("CableStreet$Forecast", "trial", "LCableStreet$State;", true)
  | 2 => ("CableStreet$Forecast", "coastSegment", "I", false)
  | 3 => ("CableStreet$Forecast", "coastMeetsRope", "Z", false)
  | 4 => ("CableStreet$Forecast", "coastTicks", "I", false)
  | 5 => ("CableStreet$Forecast", "powerSum", "I", false)
  | _ => ("CableStreet$Forecast", "powerPeak", "I", false)
def tyX3 : Nat → FieldType := fun k => match k with
  | 0 => .object "CableStreet$Machine"
  | 1 => .object "CableStreet$State"
  | 2 => .int
  | 3 => .boolean
  | 4 => .int
  | 5 => .int
  | _ => .int
theorem nmX3 : ∀ a, a < 7 → ∀ b, b < 7 → a ≠ b → (TX3 a).2.1 ≠ (TX3 b).2.1 := by decide +kernel
theorem tyX3_ok : ∀ k, k < 7 → parseFieldDescriptor (TX3 k).2.2.1 = some (tyX3 k) := by decide +kernel
abbrev cX3_init : ByteArray := prog_5_method_1_code
def yX3_init : MethodName := ⟨RX3, "<init>", "()V"⟩
abbrev cX3_followCoast : ByteArray := prog_5_method_2_code
def yX3_followCoast : MethodName := ⟨RX3, "followCoast", "(LCableStreet$Plan;II)V"⟩
abbrev cX3_leastSpeedToRope : ByteArray := prog_5_method_3_code
def yX3_leastSpeedToRope : MethodName := ⟨RX3, "leastSpeedToRope", "(LCableStreet$Plan;I)I"⟩
abbrev cX3_topSpeed : ByteArray := prog_5_method_4_code
def yX3_topSpeed : MethodName := ⟨RX3, "topSpeed", "(LCableStreet$Plan;I)I"⟩
abbrev cX3_carOfStrand : ByteArray := prog_5_method_5_code
def yX3_carOfStrand : MethodName := ⟨RX3, "carOfStrand", "(LCableStreet$Plan;LCableStreet$State;)I"⟩
abbrev cX3_ticksTillWorn : ByteArray := prog_5_method_6_code
def yX3_ticksTillWorn : MethodName := ⟨RX3, "ticksTillWorn", "(LCableStreet$Plan;LCableStreet$State;I)I"⟩
abbrev cX3_leastGapIfWaits : ByteArray := prog_5_method_7_code
def yX3_leastGapIfWaits : MethodName := ⟨RX3, "leastGapIfWaits", "(LCableStreet$Plan;LCableStreet$State;III)I"⟩
abbrev cX3_gapNow : ByteArray := prog_5_method_8_code
def yX3_gapNow : MethodName := ⟨RX3, "gapNow", "(LCableStreet$Plan;)I"⟩
abbrev cX3_drawPower : ByteArray := prog_5_method_9_code
def yX3_drawPower : MethodName := ⟨RX3, "drawPower", "(LCableStreet$Plan;LCableStreet$State;I)V"⟩
abbrev cX3_drawTimetable : ByteArray := prog_5_method_10_code
def yX3_drawTimetable : MethodName := ⟨RX3, "drawTimetable", "(LCableStreet$Plan;[I)V"⟩
def RX4 : String := "CableStreet$Lexer"
def TX4 : u_T := fun k => match k with
  | 0 => ("CableStreet$Lexer", "text", "[B", false)
  | 1 => ("CableStreet$Lexer", "length", "I", false)
  | 2 => ("CableStreet$Lexer", "next", "I", false)
  | 3 => ("CableStreet$Lexer", "kind", "I", false)
  | 4 => ("CableStreet$Lexer", "place", "I", false)
  | 5 => ("CableStreet$Lexer", "value", "I", false)
  | 6 => ("CableStreet$Lexer", "word", "I", false)
  | _ => ("CableStreet$Lexer", "letters", "J", false)
def tyX4 : Nat → FieldType := fun k => match k with
  | 0 => .array .byte
  | 1 => .int
  | 2 => .int
  | 3 => .int
  | 4 => .int
  | 5 => .int
  | 6 => .int
  | _ => .long
theorem nmX4 : ∀ a, a < 8 → ∀ b, b < 8 → a ≠ b → (TX4 a).2.1 ≠ (TX4 b).2.1 := by decide +kernel
theorem tyX4_ok : ∀ k, k < 8 → parseFieldDescriptor (TX4 k).2.2.1 = some (tyX4 k) := by decide +kernel
abbrev cX4_init : ByteArray := prog_6_method_1_code
def yX4_init : MethodName := ⟨RX4, "<init>", "()V"⟩
abbrev cX4_open : ByteArray := prog_6_method_2_code
def yX4_open : MethodName := ⟨RX4, "open", "([BI)V"⟩
abbrev cX4_advance : ByteArray := prog_6_method_3_code
def yX4_advance : MethodName := ⟨RX4, "advance", "()V"⟩
abbrev cX4_isLetter : ByteArray := prog_6_method_4_code
def yX4_isLetter : MethodName := ⟨RX4, "isLetter", "(I)Z"⟩
abbrev cX4_isDigit : ByteArray := prog_6_method_5_code
def yX4_isDigit : MethodName := ⟨RX4, "isDigit", "(I)Z"⟩
abbrev cX4_readWord : ByteArray := prog_6_method_6_code
def yX4_readWord : MethodName := ⟨RX4, "readWord", "()V"⟩
abbrev cX4_wordNumber : ByteArray := prog_6_method_7_code
def yX4_wordNumber : MethodName := ⟨RX4, "wordNumber", "(J)I"⟩
abbrev cX4_readNumber : ByteArray := prog_6_method_8_code
def yX4_readNumber : MethodName := ⟨RX4, "readNumber", "()V"⟩
def RX5 : String := "CableStreet$Logs"
def TX5 : u_T := fun k => match k with
  | 0 => ("CableStreet$Logs", "time", "I", false)
  | 1 => ("CableStreet$Logs", "told", "I", false)
  | 2 => ("CableStreet$Logs", "car", "[I", true)
  | 3 => ("CableStreet$Logs", "tick", "[I", true)
  | 4 => ("CableStreet$Logs", "segment", "[I", true)
  | 5 => ("CableStreet$Logs", "toldAt", "[I", true)
  | 6 => ("CableStreet$Logs", "untoldAt", "[I", true)
  | 7 => ("CableStreet$Logs", "timetable", "[I", true)
  | _ => ("CableStreet$Logs", "timetableDrawn", "Z", false)
def tyX5 : Nat → FieldType := fun k => match k with
  | 0 => .int
  | 1 => .int
  | 2 => .array .int
  | 3 => .array .int
  | 4 => .array .int
  | 5 => .array .int
  | 6 => .array .int
  | 7 => .array .int
  | _ => .boolean
theorem nmX5 : ∀ a, a < 9 → ∀ b, b < 9 → a ≠ b → (TX5 a).2.1 ≠ (TX5 b).2.1 := by decide +kernel
theorem tyX5_ok : ∀ k, k < 9 → parseFieldDescriptor (TX5 k).2.2.1 = some (tyX5 k) := by decide +kernel
abbrev cX5_init : ByteArray := prog_7_method_1_code
def yX5_init : MethodName := ⟨RX5, "<init>", "()V"⟩
abbrev cX5_forget : ByteArray := prog_7_method_2_code
def yX5_forget : MethodName := ⟨RX5, "forget", "()V"⟩
abbrev cX5_tell : ByteArray := prog_7_method_3_code
def yX5_tell : MethodName := ⟨RX5, "tell", "(III)I"⟩
abbrev cX5_takeBack : ByteArray := prog_7_method_4_code
def yX5_takeBack : MethodName := ⟨RX5, "takeBack", "(I)Z"⟩
abbrev cX5_counts : ByteArray := prog_7_method_5_code
def yX5_counts : MethodName := ⟨RX5, "counts", "(II)Z"⟩
abbrev cX5_isFalse : ByteArray := prog_7_method_6_code
def yX5_isFalse : MethodName := ⟨RX5, "isFalse", "(I)Z"⟩
abbrev cX5_falseOnes : ByteArray := prog_7_method_7_code
def yX5_falseOnes : MethodName := ⟨RX5, "falseOnes", "(I)I"⟩
abbrev cX5_firstFalse : ByteArray := prog_7_method_8_code
def yX5_firstFalse : MethodName := ⟨RX5, "firstFalse", "(I)I"⟩
abbrev cX5_speedOf : ByteArray := prog_7_method_9_code
def yX5_speedOf : MethodName := ⟨RX5, "speedOf", "(II)I"⟩
abbrev cX5_latestBelow : ByteArray := prog_7_method_10_code
def yX5_latestBelow : MethodName := ⟨RX5, "latestBelow", "(III)I"⟩
def RX6 : String := "CableStreet$Machine"
def TX6 : u_T := fun k => match k with
  | 0 => ("CableStreet$Machine", "plan", "LCableStreet$Plan;", false)
  | 1 => ("CableStreet$Machine", "state", "LCableStreet$State;", false)
  | 2 => ("CableStreet$Machine", "ropeSpeed", "[I", true)
  | _ => ("CableStreet$Machine", "stack", "[I", true)
def tyX6 : Nat → FieldType := fun k => match k with
  | 0 => .object "CableStreet$Plan"
  | 1 => .object "CableStreet$State"
  | 2 => .array .int
  | _ => .array .int
theorem nmX6 : ∀ a, a < 4 → ∀ b, b < 4 → a ≠ b → (TX6 a).2.1 ≠ (TX6 b).2.1 := by decide +kernel
theorem tyX6_ok : ∀ k, k < 4 → parseFieldDescriptor (TX6 k).2.2.1 = some (tyX6 k) := by decide +kernel
abbrev cX6_init : ByteArray := prog_8_method_1_code
def yX6_init : MethodName := ⟨RX6, "<init>", "()V"⟩
abbrev cX6_tick : ByteArray := prog_8_method_2_code
def yX6_tick : MethodName := ⟨RX6, "tick", "(LCableStreet$Plan;LCableStreet$State;)V"⟩
abbrev cX6_note : ByteArray := prog_8_method_3_code
def yX6_note : MethodName := ⟨RX6, "note", "(IIII)I"⟩
abbrev cX6_dipRopes : ByteArray := prog_8_method_4_code
def yX6_dipRopes : MethodName := ⟨RX6, "dipRopes", "()V"⟩
abbrev cX6_moveStrand : ByteArray := prog_8_method_5_code
def yX6_moveStrand : MethodName := ⟨RX6, "moveStrand", "()V"⟩
abbrev cX6_wearSplices : ByteArray := prog_8_method_6_code
def yX6_wearSplices : MethodName := ⟨RX6, "wearSplices", "()V"⟩
abbrev cX6_gripsOn : ByteArray := prog_8_method_7_code
def yX6_gripsOn : MethodName := ⟨RX6, "gripsOn", "(I)I"⟩
abbrev cX6_cutRope : ByteArray := prog_8_method_8_code
def yX6_cutRope : MethodName := ⟨RX6, "cutRope", "(III)V"⟩
abbrev cX6_obeyMarks : ByteArray := prog_8_method_9_code
def yX6_obeyMarks : MethodName := ⟨RX6, "obeyMarks", "(LCableStreet$Car;)V"⟩
abbrev cX6_waitOn : ByteArray := prog_8_method_10_code
def yX6_waitOn : MethodName := ⟨RX6, "waitOn", "(ILCableStreet$Car;)V"⟩
abbrev cX6_ride : ByteArray := prog_8_method_11_code
def yX6_ride : MethodName := ⟨RX6, "ride", "(ILCableStreet$Car;)V"⟩
abbrev cX6_missGrip : ByteArray := prog_8_method_12_code
def yX6_missGrip : MethodName := ⟨RX6, "missGrip", "(ILCableStreet$Car;)V"⟩
abbrev cX6_step : ByteArray := prog_8_method_13_code
def yX6_step : MethodName := ⟨RX6, "step", "(ILCableStreet$Car;)V"⟩
abbrev cX6_countBumps : ByteArray := prog_8_method_14_code
def yX6_countBumps : MethodName := ⟨RX6, "countBumps", "()V"⟩
abbrev cX6_turnTable : ByteArray := prog_8_method_15_code
def yX6_turnTable : MethodName := ⟨RX6, "turnTable", "()V"⟩
abbrev cX6_bringBack : ByteArray := prog_8_method_16_code
def yX6_bringBack : MethodName := ⟨RX6, "bringBack", "(I)V"⟩
abbrev cX6_longestDone : ByteArray := prog_8_method_17_code
def yX6_longestDone : MethodName := ⟨RX6, "longestDone", "()I"⟩
abbrev cX6_ask : ByteArray := prog_8_method_18_code
def yX6_ask : MethodName := ⟨RX6, "ask", "(LCableStreet$Plan;LCableStreet$State;II)I"⟩
abbrev cX6_valueOf : ByteArray := prog_8_method_19_code
def yX6_valueOf : MethodName := ⟨RX6, "valueOf", "(III)I"⟩
abbrev cX6_unitValue : ByteArray := prog_8_method_20_code
def yX6_unitValue : MethodName := ⟨RX6, "unitValue", "(III)I"⟩
abbrev cX6_tenthsToNearest : ByteArray := prog_8_method_21_code
def yX6_tenthsToNearest : MethodName := ⟨RX6, "tenthsToNearest", "(II)I"⟩
abbrev cX6_joined : ByteArray := prog_8_method_22_code
def yX6_joined : MethodName := ⟨RX6, "joined", "(III)I"⟩
def RX7 : String := "CableStreet$Plan"
def TX7 : u_T := fun k => match k with
  | 0 => ("CableStreet$Plan", "ropesTold", "I", false)
  | 1 => ("CableStreet$Plan", "ropes", "[LCableStreet$Rope;", true)
  | 2 => ("CableStreet$Plan", "ropeOn", "[I", true)
  | 3 => ("CableStreet$Plan", "gradesTold", "I", false)
  | 4 => ("CableStreet$Plan", "grade", "[I", true)
  | 5 => ("CableStreet$Plan", "cars", "I", false)
  | 6 => ("CableStreet$Plan", "carAt", "[I", true)
  | 7 => ("CableStreet$Plan", "weighs", "[I", true)
  | 8 => ("CableStreet$Plan", "marksTold", "I", false)
  | 9 => ("CableStreet$Plan", "marks", "[[I", true)
  | 10 => ("CableStreet$Plan", "drag", "I", false)
  | 11 => ("CableStreet$Plan", "brake", "I", false)
  | 12 => ("CableStreet$Plan", "turn", "I", false)
  | 13 => ("CableStreet$Plan", "splices", "I", false)
  | 14 => ("CableStreet$Plan", "spliceRope", "[I", true)
  | 15 => ("CableStreet$Plan", "spliceAt", "[I", true)
  | 16 => ("CableStreet$Plan", "lasts", "[I", true)
  | _ => ("CableStreet$Plan", "crosses", "LCableStreet$Crosses;", true)
def tyX7 : Nat → FieldType := fun k => match k with
  | 0 => .int
  | 1 => .array (.object "CableStreet$Rope")
  | 2 => .array .int
  | 3 => .int
  | 4 => .array .int
  | 5 => .int
  | 6 => .array .int
  | 7 => .array .int
  | 8 => .int
  | 9 => .array (.array .int)
  | 10 => .int
  | 11 => .int
  | 12 => .int
  | 13 => .int
  | 14 => .array .int
  | 15 => .array .int
  | 16 => .array .int
  | _ => .object "CableStreet$Crosses"
theorem nmX7 : ∀ a, a < 18 → ∀ b, b < 18 → a ≠ b → (TX7 a).2.1 ≠ (TX7 b).2.1 := by decide +kernel
theorem tyX7_ok : ∀ k, k < 18 → parseFieldDescriptor (TX7 k).2.2.1 = some (tyX7 k) := by decide +kernel
abbrev cX7_init : ByteArray := prog_9_method_1_code
def yX7_init : MethodName := ⟨RX7, "<init>", "()V"⟩
abbrev cX7_clear : ByteArray := prog_9_method_2_code
def yX7_clear : MethodName := ⟨RX7, "clear", "()V"⟩
abbrev cX7_isSegment : ByteArray := prog_9_method_3_code
def yX7_isSegment : MethodName := ⟨RX7, "isSegment", "(I)Z"⟩
abbrev cX7_hasRope : ByteArray := prog_9_method_4_code
def yX7_hasRope : MethodName := ⟨RX7, "hasRope", "(I)Z"⟩
abbrev cX7_hasCar : ByteArray := prog_9_method_5_code
def yX7_hasCar : MethodName := ⟨RX7, "hasCar", "(I)Z"⟩
abbrev cX7_hasSplice : ByteArray := prog_9_method_6_code
def yX7_hasSplice : MethodName := ⟨RX7, "hasSplice", "(I)Z"⟩
abbrev cX7_hasPlace : ByteArray := prog_9_method_7_code
def yX7_hasPlace : MethodName := ⟨RX7, "hasPlace", "(II)Z"⟩
abbrev cX7_ropeOn : ByteArray := prog_9_method_8_code
def yX7_ropeOn : MethodName := ⟨RX7, "ropeOn", "(I)I"⟩
abbrev cX7_layRope : ByteArray := prog_9_method_9_code
def yX7_layRope : MethodName := ⟨RX7, "layRope", "(I)V"⟩
abbrev cX7_grade : ByteArray := prog_9_method_10_code
def yX7_grade : MethodName := ⟨RX7, "grade", "(I)I"⟩
abbrev cX7_layGrade : ByteArray := prog_9_method_11_code
def yX7_layGrade : MethodName := ⟨RX7, "layGrade", "(III)V"⟩
abbrev cX7_mark : ByteArray := prog_9_method_12_code
def yX7_mark : MethodName := ⟨RX7, "mark", "(II)I"⟩
abbrev cX7_setMark : ByteArray := prog_9_method_13_code
def yX7_setMark : MethodName := ⟨RX7, "setMark", "(III)V"⟩
abbrev cX7_pull : ByteArray := prog_9_method_14_code
def yX7_pull : MethodName := ⟨RX7, "pull", "(II)I"⟩
abbrev cX7_brakesHold : ByteArray := prog_9_method_15_code
def yX7_brakesHold : MethodName := ⟨RX7, "brakesHold", "(II)Z"⟩
abbrev cX7_coasted : ByteArray := prog_9_method_16_code
def yX7_coasted : MethodName := ⟨RX7, "coasted", "(II)I"⟩
abbrev cX7_placeAfter : ByteArray := prog_9_method_17_code
def yX7_placeAfter : MethodName := ⟨RX7, "placeAfter", "(III)I"⟩
abbrev cX7_segmentOfPlace : ByteArray := prog_9_method_18_code
def yX7_segmentOfPlace : MethodName := ⟨RX7, "segmentOfPlace", "(II)I"⟩
def RX8 : String := "CableStreet$Reader"
def TX8 : u_T := fun k => match k with
  | 0 => ("CableStreet$Reader", "lexer", "LCableStreet$Lexer;", true)
  | 1 => ("CableStreet$Reader", "plan", "LCableStreet$Plan;", false)
  | 2 => ("CableStreet$Reader", "ropeNames", "[J", true)
  | 3 => ("CableStreet$Reader", "carNames", "[J", true)
  | 4 => ("CableStreet$Reader", "spliceNames", "[J", true)
  | 5 => ("CableStreet$Reader", "dragTold", "Z", false)
  | 6 => ("CableStreet$Reader", "brakeTold", "Z", false)
  | 7 => ("CableStreet$Reader", "turnTold", "Z", false)
  | 8 => ("CableStreet$Reader", "fault", "I", false)
  | _ => ("CableStreet$Reader", "faultPlace", "I", false)
def tyX8 : Nat → FieldType := fun k => match k with
  | 0 => .object "CableStreet$Lexer"
  | 1 => .object "CableStreet$Plan"
  | 2 => .array .long
  | 3 => .array .long
  | 4 => .array .long
  | 5 => .boolean
  | 6 => .boolean
  | 7 => .boolean
  | 8 => .int
  | _ => .int
theorem nmX8 : ∀ a, a < 10 → ∀ b, b < 10 → a ≠ b → (TX8 a).2.1 ≠ (TX8 b).2.1 := by decide +kernel
theorem tyX8_ok : ∀ k, k < 10 → parseFieldDescriptor (TX8 k).2.2.1 = some (tyX8 k) := by decide +kernel
abbrev cX8_init : ByteArray := prog_10_method_1_code
def yX8_init : MethodName := ⟨RX8, "<init>", "()V"⟩
abbrev cX8_open : ByteArray := prog_10_method_2_code
def yX8_open : MethodName := ⟨RX8, "open", "(LCableStreet$Plan;[BI)V"⟩
abbrev cX8_hasLine : ByteArray := prog_10_method_3_code
def yX8_hasLine : MethodName := ⟨RX8, "hasLine", "()Z"⟩
abbrev cX8_wrong : ByteArray := prog_10_method_4_code
def yX8_wrong : MethodName := ⟨RX8, "wrong", "(II)V"⟩
abbrev cX8_wrongHere : ByteArray := prog_10_method_5_code
def yX8_wrongHere : MethodName := ⟨RX8, "wrongHere", "(I)V"⟩
abbrev cX8_readLine : ByteArray := prog_10_method_6_code
def yX8_readLine : MethodName := ⟨RX8, "readLine", "()V"⟩
abbrev cX8_mayBegin : ByteArray := prog_10_method_7_code
def yX8_mayBegin : MethodName := ⟨RX8, "mayBegin", "(I)Z"⟩
abbrev cX8_readRope : ByteArray := prog_10_method_8_code
def yX8_readRope : MethodName := ⟨RX8, "readRope", "()V"⟩
abbrev cX8_readGrade : ByteArray := prog_10_method_9_code
def yX8_readGrade : MethodName := ⟨RX8, "readGrade", "()V"⟩
abbrev cX8_readCar : ByteArray := prog_10_method_10_code
def yX8_readCar : MethodName := ⟨RX8, "readCar", "()V"⟩
abbrev cX8_readSplice : ByteArray := prog_10_method_11_code
def yX8_readSplice : MethodName := ⟨RX8, "readSplice", "()V"⟩
abbrev cX8_readMark : ByteArray := prog_10_method_12_code
def yX8_readMark : MethodName := ⟨RX8, "readMark", "(I)V"⟩
abbrev cX8_readSetting : ByteArray := prog_10_method_13_code
def yX8_readSetting : MethodName := ⟨RX8, "readSetting", "(I)V"⟩
abbrev cX8_readCross : ByteArray := prog_10_method_14_code
def yX8_readCross : MethodName := ⟨RX8, "readCross", "()V"⟩
abbrev cX8_readEither : ByteArray := prog_10_method_15_code
def yX8_readEither : MethodName := ⟨RX8, "readEither", "(I)V"⟩
abbrev cX8_readBoth : ByteArray := prog_10_method_16_code
def yX8_readBoth : MethodName := ⟨RX8, "readBoth", "(I)V"⟩
abbrev cX8_readOne : ByteArray := prog_10_method_17_code
def yX8_readOne : MethodName := ⟨RX8, "readOne", "(I)V"⟩
abbrev cX8_readRelation : ByteArray := prog_10_method_18_code
def yX8_readRelation : MethodName := ⟨RX8, "readRelation", "(I)V"⟩
abbrev cX8_relationHere : ByteArray := prog_10_method_19_code
def yX8_relationHere : MethodName := ⟨RX8, "relationHere", "()I"⟩
abbrev cX8_readSum : ByteArray := prog_10_method_20_code
def yX8_readSum : MethodName := ⟨RX8, "readSum", "(I)V"⟩
abbrev cX8_readTerm : ByteArray := prog_10_method_21_code
def yX8_readTerm : MethodName := ⟨RX8, "readTerm", "(I)V"⟩
abbrev cX8_readUnit : ByteArray := prog_10_method_22_code
def yX8_readUnit : MethodName := ⟨RX8, "readUnit", "(I)V"⟩
abbrev cX8_readValueWord : ByteArray := prog_10_method_23_code
def yX8_readValueWord : MethodName := ⟨RX8, "readValueWord", "()V"⟩
abbrev cX8_isWord : ByteArray := prog_10_method_24_code
def yX8_isWord : MethodName := ⟨RX8, "isWord", "(I)Z"⟩
abbrev cX8_skipWord : ByteArray := prog_10_method_25_code
def yX8_skipWord : MethodName := ⟨RX8, "skipWord", "(I)Z"⟩
abbrev cX8_takeWord : ByteArray := prog_10_method_26_code
def yX8_takeWord : MethodName := ⟨RX8, "takeWord", "(I)V"⟩
abbrev cX8_isSign : ByteArray := prog_10_method_27_code
def yX8_isSign : MethodName := ⟨RX8, "isSign", "(C)Z"⟩
abbrev cX8_skipSign : ByteArray := prog_10_method_28_code
def yX8_skipSign : MethodName := ⟨RX8, "skipSign", "(C)Z"⟩
abbrev cX8_takeSign : ByteArray := prog_10_method_29_code
def yX8_takeSign : MethodName := ⟨RX8, "takeSign", "(C)V"⟩
abbrev cX8_number : ByteArray := prog_10_method_30_code
def yX8_number : MethodName := ⟨RX8, "number", "(II)I"⟩
abbrev cX8_goOn : ByteArray := prog_10_method_31_code
def yX8_goOn : MethodName := ⟨RX8, "goOn", "()V"⟩
abbrev cX8_takeNumber : ByteArray := prog_10_method_32_code
def yX8_takeNumber : MethodName := ⟨RX8, "takeNumber", "(II)I"⟩
abbrev cX8_takeAfter : ByteArray := prog_10_method_33_code
def yX8_takeAfter : MethodName := ⟨RX8, "takeAfter", "(III)I"⟩
abbrev cX8_isName : ByteArray := prog_10_method_34_code
def yX8_isName : MethodName := ⟨RX8, "isName", "()Z"⟩
abbrev cX8_takeNewName : ByteArray := prog_10_method_35_code
def yX8_takeNewName : MethodName := ⟨RX8, "takeNewName", "([JI)V"⟩
abbrev cX8_takeRopeName : ByteArray := prog_10_method_36_code
def yX8_takeRopeName : MethodName := ⟨RX8, "takeRopeName", "()I"⟩
abbrev cX8_indexOfName : ByteArray := prog_10_method_37_code
def yX8_indexOfName : MethodName := ⟨RX8, "indexOfName", "([JI)I"⟩
def RX9 : String := "CableStreet$Rope"
def TX9 : u_T := fun k => match k with
  | 0 => ("CableStreet$Rope", "speed", "I", false)
  | 1 => ("CableStreet$Rope", "length", "I", false)
  | 2 => ("CableStreet$Rope", "from", "I", false)
  | 3 => ("CableStreet$Rope", "to", "I", false)
  | _ => ("CableStreet$Rope", "bears", "I", false)
def tyX9 : Nat → FieldType := fun k => match k with
  | 0 => .int
  | 1 => .int
  | 2 => .int
  | 3 => .int
  | _ => .int
theorem nmX9 : ∀ a, a < 5 → ∀ b, b < 5 → a ≠ b → (TX9 a).2.1 ≠ (TX9 b).2.1 := by decide +kernel
theorem tyX9_ok : ∀ k, k < 5 → parseFieldDescriptor (TX9 k).2.2.1 = some (tyX9 k) := by decide +kernel
abbrev cX9_init : ByteArray := prog_11_method_1_code
def yX9_init : MethodName := ⟨RX9, "<init>", "()V"⟩
def RX10 : String := "CableStreet$State"
def TX10 : u_T := fun k => match k with
  | 0 => ("CableStreet$State", "tick", "I", false)
  | 1 => ("CableStreet$State", "cars", "[LCableStreet$Car;", true)
  | 2 => ("CableStreet$State", "cut", "[Z", true)
  | 3 => ("CableStreet$State", "strandRope", "I", false)
  | 4 => ("CableStreet$State", "strandPlace", "I", false)
  | 5 => ("CableStreet$State", "strandTook", "I", false)
  | 6 => ("CableStreet$State", "splicePlace", "[I", true)
  | 7 => ("CableStreet$State", "wear", "[I", true)
  | 8 => ("CableStreet$State", "onTable", "I", false)
  | 9 => ("CableStreet$State", "tableTicks", "I", false)
  | _ => ("CableStreet$State", "events", "LCableStreet$Events;", true)
def tyX10 : Nat → FieldType := fun k => match k with
  | 0 => .int
  | 1 => .array (.object "CableStreet$Car")
  | 2 => .array .boolean
  | 3 => .int
  | 4 => .int
  | 5 => .int
  | 6 => .array .int
  | 7 => .array .int
  | 8 => .int
  | 9 => .int
  | _ => .object "CableStreet$Events"
theorem nmX10 : ∀ a, a < 11 → ∀ b, b < 11 → a ≠ b → (TX10 a).2.1 ≠ (TX10 b).2.1 := by decide +kernel
theorem tyX10_ok : ∀ k, k < 11 → parseFieldDescriptor (TX10 k).2.2.1 = some (tyX10 k) := by decide +kernel
abbrev cX10_init : ByteArray := prog_12_method_1_code
def yX10_init : MethodName := ⟨RX10, "<init>", "()V"⟩
abbrev cX10_begin : ByteArray := prog_12_method_2_code
def yX10_begin : MethodName := ⟨RX10, "begin", "(LCableStreet$Plan;)V"⟩
abbrev cX10_copyFrom : ByteArray := prog_12_method_3_code
def yX10_copyFrom : MethodName := ⟨RX10, "copyFrom", "(LCableStreet$State;)V"⟩
abbrev cX10_notDone : ByteArray := prog_12_method_4_code
def yX10_notDone : MethodName := ⟨RX10, "notDone", "(LCableStreet$Plan;)I"⟩
abbrev cX10_load : ByteArray := prog_12_method_5_code
def yX10_load : MethodName := ⟨RX10, "load", "(LCableStreet$Plan;I)I"⟩
abbrev cX10_dips : ByteArray := prog_12_method_6_code
def yX10_dips : MethodName := ⟨RX10, "dips", "(LCableStreet$Plan;I)Z"⟩
def RX11 : String := "CableStreet"
def TX11 : u_T := fun k => match k with
  | 0 => ("CableStreet", "tape", "[B", true)
  | 1 => ("CableStreet", "taped", "I", false)
  | 2 => ("CableStreet", "reader", "LCableStreet$Reader;", true)
  | 3 => ("CableStreet", "plan", "LCableStreet$Plan;", false)
  | 4 => ("CableStreet", "sparePlan", "LCableStreet$Plan;", false)
  | 5 => ("CableStreet", "now", "LCableStreet$State;", true)
  | 6 => ("CableStreet", "boxes", "[LCableStreet$State;", true)
  | 7 => ("CableStreet", "boxFull", "[Z", true)
  | 8 => ("CableStreet", "machine", "LCableStreet$Machine;", true)
  | 9 => ("CableStreet", "forecast", "LCableStreet$Forecast;", true)
  | _ => ("CableStreet", "logs", "LCableStreet$Logs;", true)
def tyX11 : Nat → FieldType := fun k => match k with
  | 0 => .array .byte
  | 1 => .int
  | 2 => .object "CableStreet$Reader"
  | 3 => .object "CableStreet$Plan"
  | 4 => .object "CableStreet$Plan"
  | 5 => .object "CableStreet$State"
  | 6 => .array (.object "CableStreet$State")
  | 7 => .array .boolean
  | 8 => .object "CableStreet$Machine"
  | 9 => .object "CableStreet$Forecast"
  | _ => .object "CableStreet$Logs"
theorem nmX11 : ∀ a, a < 11 → ∀ b, b < 11 → a ≠ b → (TX11 a).2.1 ≠ (TX11 b).2.1 := by decide +kernel
theorem tyX11_ok : ∀ k, k < 11 → parseFieldDescriptor (TX11 k).2.2.1 = some (tyX11 k) := by decide +kernel
abbrev cX11_init : ByteArray := prog_1_method_1_code
def yX11_init : MethodName := ⟨RX11, "<init>", "()V"⟩
abbrev cX11_feed : ByteArray := prog_1_method_2_code
def yX11_feed : MethodName := ⟨RX11, "feed", "(IIIII)I"⟩
abbrev cX11_putBytes : ByteArray := prog_1_method_3_code
def yX11_putBytes : MethodName := ⟨RX11, "putBytes", "(I)V"⟩
abbrev cX11_end : ByteArray := prog_1_method_4_code
def yX11_end : MethodName := ⟨RX11, "end", "(I)I"⟩
abbrev cX11_street : ByteArray := prog_1_method_5_code
def yX11_street : MethodName := ⟨RX11, "street", "()I"⟩
abbrev cX11_fault : ByteArray := prog_1_method_6_code
def yX11_fault : MethodName := ⟨RX11, "fault", "(I)I"⟩
abbrev cX11_run : ByteArray := prog_1_method_7_code
def yX11_run : MethodName := ⟨RX11, "run", "(I)I"⟩
abbrev cX11_car : ByteArray := prog_1_method_8_code
def yX11_car : MethodName := ⟨RX11, "car", "(II)I"⟩
abbrev cX11_speed : ByteArray := prog_1_method_9_code
def yX11_speed : MethodName := ⟨RX11, "speed", "(I)I"⟩
abbrev cX11_rope : ByteArray := prog_1_method_10_code
def yX11_rope : MethodName := ⟨RX11, "rope", "(II)I"⟩
abbrev cX11_count : ByteArray := prog_1_method_11_code
def yX11_count : MethodName := ⟨RX11, "count", "(I)I"⟩
abbrev cX11_strand : ByteArray := prog_1_method_12_code
def yX11_strand : MethodName := ⟨RX11, "strand", "(II)Z"⟩
abbrev cX11_strandNow : ByteArray := prog_1_method_13_code
def yX11_strandNow : MethodName := ⟨RX11, "strandNow", "(I)I"⟩
abbrev cX11_free : ByteArray := prog_1_method_14_code
def yX11_free : MethodName := ⟨RX11, "free", "(I)Z"⟩
abbrev cX11_splice : ByteArray := prog_1_method_15_code
def yX11_splice : MethodName := ⟨RX11, "splice", "(II)I"⟩
abbrev cX11_due : ByteArray := prog_1_method_16_code
def yX11_due : MethodName := ⟨RX11, "due", "(I)I"⟩
abbrev cX11_cost : ByteArray := prog_1_method_17_code
def yX11_cost : MethodName := ⟨RX11, "cost", "(II)I"⟩
abbrev cX11_isAhead : ByteArray := prog_1_method_18_code
def yX11_isAhead : MethodName := ⟨RX11, "isAhead", "(I)Z"⟩
abbrev cX11_halt : ByteArray := prog_1_method_19_code
def yX11_halt : MethodName := ⟨RX11, "halt", "(I)I"⟩
abbrev cX11_rolls : ByteArray := prog_1_method_20_code
def yX11_rolls : MethodName := ⟨RX11, "rolls", "()I"⟩
abbrev cX11_trips : ByteArray := prog_1_method_21_code
def yX11_trips : MethodName := ⟨RX11, "trips", "(I)I"⟩
abbrev cX11_asks : ByteArray := prog_1_method_22_code
def yX11_asks : MethodName := ⟨RX11, "asks", "(II)I"⟩
abbrev cX11_event : ByteArray := prog_1_method_23_code
def yX11_event : MethodName := ⟨RX11, "event", "(II)I"⟩
abbrev cX11_coasts : ByteArray := prog_1_method_24_code
def yX11_coasts : MethodName := ⟨RX11, "coasts", "(III)I"⟩
abbrev cX11_need : ByteArray := prog_1_method_25_code
def yX11_need : MethodName := ⟨RX11, "need", "(I)I"⟩
abbrev cX11_takes : ByteArray := prog_1_method_26_code
def yX11_takes : MethodName := ⟨RX11, "takes", "()I"⟩
abbrev cX11_head : ByteArray := prog_1_method_27_code
def yX11_head : MethodName := ⟨RX11, "head", "(I)I"⟩
abbrev cX11_spread : ByteArray := prog_1_method_28_code
def yX11_spread : MethodName := ⟨RX11, "spread", "(II)I"⟩
abbrev cX11_power : ByteArray := prog_1_method_29_code
def yX11_power : MethodName := ⟨RX11, "power", "(II)I"⟩
abbrev cX11_runaway : ByteArray := prog_1_method_30_code
def yX11_runaway : MethodName := ⟨RX11, "runaway", "(II)I"⟩
abbrev cX11_order : ByteArray := prog_1_method_31_code
def yX11_order : MethodName := ⟨RX11, "order", "(I)I"⟩
abbrev cX11_carsAheadInOrder : ByteArray := prog_1_method_32_code
def yX11_carsAheadInOrder : MethodName := ⟨RX11, "carsAheadInOrder", "(I)I"⟩
abbrev cX11_where : ByteArray := prog_1_method_33_code
def yX11_where : MethodName := ⟨RX11, "where", "(III)I"⟩
abbrev cX11_log : ByteArray := prog_1_method_34_code
def yX11_log : MethodName := ⟨RX11, "log", "(III)I"⟩
abbrev cX11_untell : ByteArray := prog_1_method_35_code
def yX11_untell : MethodName := ⟨RX11, "untell", "(I)Z"⟩
abbrev cX11_later : ByteArray := prog_1_method_36_code
def yX11_later : MethodName := ⟨RX11, "later", "(I)I"⟩
abbrev cX11_judge : ByteArray := prog_1_method_37_code
def yX11_judge : MethodName := ⟨RX11, "judge", "(II)I"⟩
abbrev cX11_logged : ByteArray := prog_1_method_38_code
def yX11_logged : MethodName := ⟨RX11, "logged", "(II)I"⟩
abbrev cX11_image : ByteArray := prog_1_method_39_code
def yX11_image : MethodName := ⟨RX11, "image", "(I)I"⟩
abbrev cX11_back : ByteArray := prog_1_method_40_code
def yX11_back : MethodName := ⟨RX11, "back", "(I)I"⟩
abbrev cX11_about : ByteArray := prog_1_method_41_code
def yX11_about : MethodName := ⟨RX11, "about", "(I)I"⟩
def RX12 : String := "CableStreetModel"
def TX12 : u_T := fun k => match k with
  | 0 => ("CableStreetModel", "tape", "[B", true)
  | 1 => ("CableStreetModel", "text", "[B", true)
  | 2 => ("CableStreetModel", "taped", "I", false)
  | 3 => ("CableStreetModel", "size", "I", false)
  | 4 => ("CableStreetModel", "faultKind", "I", false)
  | 5 => ("CableStreetModel", "faultPlace", "I", false)
  | 6 => ("CableStreetModel", "at", "I", false)
  | 7 => ("CableStreetModel", "end", "I", false)
  | 8 => ("CableStreetModel", "token", "I", false)
  | 9 => ("CableStreetModel", "number", "I", false)
  | 10 => ("CableStreetModel", "name", "J", false)
  | 11 => ("CableStreetModel", "ropes", "[I", true)
  | 12 => ("CableStreetModel", "cars", "[I", true)
  | 13 => ("CableStreetModel", "grades", "[I", true)
  | 14 => ("CableStreetModel", "marks", "[I", true)
  | 15 => ("CableStreetModel", "lines", "[I", true)
  | 16 => ("CableStreetModel", "drag", "[I", true)
  | 17 => ("CableStreetModel", "brake", "[I", true)
  | 18 => ("CableStreetModel", "isDrag", "[Z", true)
  | 19 => ("CableStreetModel", "isBrake", "[Z", true)
  | 20 => ("CableStreetModel", "isMark", "[Z", true)
  | 21 => ("CableStreetModel", "rName", "[J", true)
  | 22 => ("CableStreetModel", "cName", "[J", true)
  | 23 => ("CableStreetModel", "rSpeed", "[I", true)
  | 24 => ("CableStreetModel", "rLong", "[I", true)
  | 25 => ("CableStreetModel", "rFrom", "[I", true)
  | 26 => ("CableStreetModel", "rTo", "[I", true)
  | 27 => ("CableStreetModel", "rBears", "[I", true)
  | 28 => ("CableStreetModel", "grade", "[I", true)
  | 29 => ("CableStreetModel", "ropeOn", "[I", true)
  | 30 => ("CableStreetModel", "stopFor", "[I", true)
  | 31 => ("CableStreetModel", "cAt", "[I", true)
  | 32 => ("CableStreetModel", "weighs", "[I", true)
  | 33 => ("CableStreetModel", "splices", "[I", true)
  | 34 => ("CableStreetModel", "turn", "[I", true)
  | 35 => ("CableStreetModel", "crosses", "[I", true)
  | 36 => ("CableStreetModel", "unitsOf", "[I", true)
  | 37 => ("CableStreetModel", "pRope", "[I", true)
  | 38 => ("CableStreetModel", "pAt", "[I", true)
  | 39 => ("CableStreetModel", "pLasts", "[I", true)
  | 40 => ("CableStreetModel", "xOn", "[I", true)
  | 41 => ("CableStreetModel", "uFrom", "[I", true)
  | 42 => ("CableStreetModel", "uTo", "[I", true)
  | 43 => ("CableStreetModel", "pName", "[J", true)
  | 44 => ("CableStreetModel", "bank", "I", false)
  | 45 => ("CableStreetModel", "rb", "I", false)
  | 46 => ("CableStreetModel", "code", "[I", true)
  | 47 => ("CableStreetModel", "codeNumber", "[I", true)
  | 48 => ("CableStreetModel", "eWhat", "[I", true)
  | 49 => ("CableStreetModel", "eSign", "[I", true)
  | 50 => ("CableStreetModel", "pile", "[I", true)
  | 51 => ("CableStreetModel", "codes", "I", false)
  | 52 => ("CableStreetModel", "within", "I", false)
  | 53 => ("CableStreetModel", "piled", "I", false)
  | 54 => ("CableStreetModel", "x", "[I", true)
  | 55 => ("CableStreetModel", "v", "[I", true)
  | 56 => ("CableStreetModel", "mode", "[I", true)
  | 57 => ("CableStreetModel", "waits", "[I", true)
  | 58 => ("CableStreetModel", "gripped", "[I", true)
  | 59 => ("CableStreetModel", "speeds", "[I", true)
  | 60 => ("CableStreetModel", "isCaught", "[Z", true)
  | 61 => ("CableStreetModel", "isEntered", "[Z", true)
  | 62 => ("CableStreetModel", "isCut", "[Z", true)
  | 63 => ("CableStreetModel", "ticks", "I", false)
  | 64 => ("CableStreetModel", "strandRope", "I", false)
  | 65 => ("CableStreetModel", "strandPlace", "I", false)
  | 66 => ("CableStreetModel", "misses", "I", false)
  | 67 => ("CableStreetModel", "saved", "I", false)
  | 68 => ("CableStreetModel", "cuts", "I", false)
  | 69 => ("CableStreetModel", "dips", "I", false)
  | 70 => ("CableStreetModel", "bumps", "I", false)
  | 71 => ("CableStreetModel", "caughtBy", "I", false)
  | 72 => ("CableStreetModel", "heldBack", "I", false)
  | 73 => ("CableStreetModel", "rolled", "I", false)
  | 74 => ("CableStreetModel", "backs", "I", false)
  | 75 => ("CableStreetModel", "onTable", "I", false)
  | 76 => ("CableStreetModel", "tableTicks", "I", false)
  | 77 => ("CableStreetModel", "doneAt", "[I", true)
  | 78 => ("CableStreetModel", "trips", "[I", true)
  | 79 => ("CableStreetModel", "place", "[I", true)
  | 80 => ("CableStreetModel", "wear", "[I", true)
  | 81 => ("CableStreetModel", "evTick", "[I", true)
  | 82 => ("CableStreetModel", "evWhat", "[I", true)
  | 83 => ("CableStreetModel", "evCar", "[I", true)
  | 84 => ("CableStreetModel", "evRope", "[I", true)
  | 85 => ("CableStreetModel", "evCause", "[I", true)
  | 86 => ("CableStreetModel", "events", "I", false)
  | 87 => ("CableStreetModel", "coastOn", "I", false)
  | 88 => ("CableStreetModel", "coastTicks", "I", false)
  | 89 => ("CableStreetModel", "isRoped", "Z", false)
  | 90 => ("CableStreetModel", "lCar", "[I", true)
  | 91 => ("CableStreetModel", "lTick", "[I", true)
  | 92 => ("CableStreetModel", "lOn", "[I", true)
  | 93 => ("CableStreetModel", "lTold", "[I", true)
  | 94 => ("CableStreetModel", "lUntold", "[I", true)
  | 95 => ("CableStreetModel", "isFalse", "[Z", true)
  | 96 => ("CableStreetModel", "logs", "I", false)
  | 97 => ("CableStreetModel", "time", "I", false)
  | 98 => ("CableStreetModel", "boxTicks", "[I", true)
  | 99 => ("CableStreetModel", "boxRow", "[I", true)
  | 100 => ("CableStreetModel", "boxDone", "[I", true)
  | 101 => ("CableStreetModel", "boxTrips", "[I", true)
  | 102 => ("CableStreetModel", "boxPlace", "[I", true)
  | 103 => ("CableStreetModel", "boxWear", "[I", true)
  | 104 => ("CableStreetModel", "boxEvent", "[I", true)
  | 105 => ("CableStreetModel", "boxX", "[I", true)
  | 106 => ("CableStreetModel", "boxV", "[I", true)
  | 107 => ("CableStreetModel", "boxMode", "[I", true)
  | 108 => ("CableStreetModel", "boxWaits", "[I", true)
  | 109 => ("CableStreetModel", "boxGripped", "[I", true)
  | 110 => ("CableStreetModel", "boxCaught", "[Z", true)
  | 111 => ("CableStreetModel", "boxEntered", "[Z", true)
  | _ => ("CableStreetModel", "boxCut", "[Z", true)
def tyX12 : Nat → FieldType := fun k => match k with
  | 0 => .array .byte
  | 1 => .array .byte
  | 2 => .int
  | 3 => .int
  | 4 => .int
  | 5 => .int
  | 6 => .int
  | 7 => .int
  | 8 => .int
  | 9 => .int
  | 10 => .long
  | 11 => .array .int
  | 12 => .array .int
  | 13 => .array .int
  | 14 => .array .int
  | 15 => .array .int
  | 16 => .array .int
  | 17 => .array .int
  | 18 => .array .boolean
  | 19 => .array .boolean
  | 20 => .array .boolean
  | 21 => .array .long
  | 22 => .array .long
  | 23 => .array .int
  | 24 => .array .int
  | 25 => .array .int
  | 26 => .array .int
  | 27 => .array .int
  | 28 => .array .int
  | 29 => .array .int
  | 30 => .array .int
  | 31 => .array .int
  | 32 => .array .int
  | 33 => .array .int
  | 34 => .array .int
  | 35 => .array .int
  | 36 => .array .int
  | 37 => .array .int
  | 38 => .array .int
  | 39 => .array .int
  | 40 => .array .int
  | 41 => .array .int
  | 42 => .array .int
  | 43 => .array .long
  | 44 => .int
  | 45 => .int
  | 46 => .array .int
  | 47 => .array .int
  | 48 => .array .int
  | 49 => .array .int
  | 50 => .array .int
  | 51 => .int
  | 52 => .int
  | 53 => .int
  | 54 => .array .int
  | 55 => .array .int
  | 56 => .array .int
  | 57 => .array .int
  | 58 => .array .int
  | 59 => .array .int
  | 60 => .array .boolean
  | 61 => .array .boolean
  | 62 => .array .boolean
  | 63 => .int
  | 64 => .int
  | 65 => .int
  | 66 => .int
  | 67 => .int
  | 68 => .int
  | 69 => .int
  | 70 => .int
  | 71 => .int
  | 72 => .int
  | 73 => .int
  | 74 => .int
  | 75 => .int
  | 76 => .int
  | 77 => .array .int
  | 78 => .array .int
  | 79 => .array .int
  | 80 => .array .int
  | 81 => .array .int
  | 82 => .array .int
  | 83 => .array .int
  | 84 => .array .int
  | 85 => .array .int
  | 86 => .int
  | 87 => .int
  | 88 => .int
  | 89 => .boolean
  | 90 => .array .int
  | 91 => .array .int
  | 92 => .array .int
  | 93 => .array .int
  | 94 => .array .int
  | 95 => .array .boolean
  | 96 => .int
  | 97 => .int
  | 98 => .array .int
  | 99 => .array .int
  | 100 => .array .int
  | 101 => .array .int
  | 102 => .array .int
  | 103 => .array .int
  | 104 => .array .int
  | 105 => .array .int
  | 106 => .array .int
  | 107 => .array .int
  | 108 => .array .int
  | 109 => .array .int
  | 110 => .array .boolean
  | 111 => .array .boolean
  | _ => .array .boolean
theorem nmX12 : ∀ a, a < 113 → ∀ b, b < 113 → a ≠ b → (TX12 a).2.1 ≠ (TX12 b).2.1 := by decide +kernel
theorem tyX12_ok : ∀ k, k < 113 → parseFieldDescriptor (TX12 k).2.2.1 = some (tyX12 k) := by decide +kernel
abbrev cX12_init : ByteArray := prog_14_method_1_code
def yX12_init : MethodName := ⟨RX12, "<init>", "()V"⟩
abbrev cX12_sign : ByteArray := prog_14_method_2_code
def yX12_sign : MethodName := ⟨RX12, "sign", "(I)I"⟩
abbrev cX12_isLetter : ByteArray := prog_14_method_3_code
def yX12_isLetter : MethodName := ⟨RX12, "isLetter", "(I)Z"⟩
abbrev cX12_isDigit : ByteArray := prog_14_method_4_code
def yX12_isDigit : MethodName := ⟨RX12, "isDigit", "(I)Z"⟩
abbrev cX12_fails : ByteArray := prog_14_method_5_code
def yX12_fails : MethodName := ⟨RX12, "fails", "(II)V"⟩
abbrev cX12_isGood : ByteArray := prog_14_method_6_code
def yX12_isGood : MethodName := ⟨RX12, "isGood", "()Z"⟩
abbrev cX12_isKept : ByteArray := prog_14_method_7_code
def yX12_isKept : MethodName := ⟨RX12, "isKept", "(J)Z"⟩
abbrev cX12_isSign : ByteArray := prog_14_method_8_code
def yX12_isSign : MethodName := ⟨RX12, "isSign", "(I)Z"⟩
abbrev cX12_goOn : ByteArray := prog_14_method_9_code
def yX12_goOn : MethodName := ⟨RX12, "goOn", "()V"⟩
abbrev cX12_is : ByteArray := prog_14_method_10_code
def yX12_is : MethodName := ⟨RX12, "is", "(I)Z"⟩
abbrev cX12_isWord : ByteArray := prog_14_method_11_code
def yX12_isWord : MethodName := ⟨RX12, "isWord", "(J)Z"⟩
abbrev cX12_wrong : ByteArray := prog_14_method_12_code
def yX12_wrong : MethodName := ⟨RX12, "wrong", "()V"⟩
abbrev cX12_must : ByteArray := prog_14_method_13_code
def yX12_must : MethodName := ⟨RX12, "must", "(Z)V"⟩
abbrev cX12_numeral : ByteArray := prog_14_method_14_code
def yX12_numeral : MethodName := ⟨RX12, "numeral", "(II)I"⟩
abbrev cX12_signed : ByteArray := prog_14_method_15_code
def yX12_signed : MethodName := ⟨RX12, "signed", "(I)I"⟩
abbrev cX12_clearBank : ByteArray := prog_14_method_16_code
def yX12_clearBank : MethodName := ⟨RX12, "clearBank", "()V"⟩
abbrev cX12_street : ByteArray := prog_14_method_17_code
def yX12_street : MethodName := ⟨RX12, "street", "()I"⟩
abbrev cX12_markHere : ByteArray := prog_14_method_18_code
def yX12_markHere : MethodName := ⟨RX12, "markHere", "()I"⟩
abbrev cX12_readLine : ByteArray := prog_14_method_19_code
def yX12_readLine : MethodName := ⟨RX12, "readLine", "()V"⟩
abbrev cX12_after : ByteArray := prog_14_method_20_code
def yX12_after : MethodName := ⟨RX12, "after", "(JII)I"⟩
abbrev cX12_fresh : ByteArray := prog_14_method_21_code
def yX12_fresh : MethodName := ⟨RX12, "fresh", "([JII)J"⟩
abbrev cX12_readRope : ByteArray := prog_14_method_22_code
def yX12_readRope : MethodName := ⟨RX12, "readRope", "()V"⟩
abbrev cX12_isGrownFull : ByteArray := prog_14_method_23_code
def yX12_isGrownFull : MethodName := ⟨RX12, "isGrownFull", "()Z"⟩
abbrev cX12_readGrown : ByteArray := prog_14_method_24_code
def yX12_readGrown : MethodName := ⟨RX12, "readGrown", "(J)V"⟩
abbrev cX12_ropeHere : ByteArray := prog_14_method_25_code
def yX12_ropeHere : MethodName := ⟨RX12, "ropeHere", "()I"⟩
abbrev cX12_readSplice : ByteArray := prog_14_method_26_code
def yX12_readSplice : MethodName := ⟨RX12, "readSplice", "()V"⟩
abbrev cX12_readCross : ByteArray := prog_14_method_27_code
def yX12_readCross : MethodName := ⟨RX12, "readCross", "()V"⟩
abbrev cX12_emit : ByteArray := prog_14_method_28_code
def yX12_emit : MethodName := ⟨RX12, "emit", "(II)V"⟩
abbrev cX12_pushE : ByteArray := prog_14_method_29_code
def yX12_pushE : MethodName := ⟨RX12, "pushE", "(II)V"⟩
abbrev cX12_e : ByteArray := prog_14_method_30_code
def yX12_e : MethodName := ⟨RX12, "e", "()V"⟩
abbrev cX12_wordHere : ByteArray := prog_14_method_31_code
def yX12_wordHere : MethodName := ⟨RX12, "wordHere", "()I"⟩
abbrev cX12_unit : ByteArray := prog_14_method_32_code
def yX12_unit : MethodName := ⟨RX12, "unit", "()Z"⟩
abbrev cX12_rankHere : ByteArray := prog_14_method_33_code
def yX12_rankHere : MethodName := ⟨RX12, "rankHere", "()I"⟩
abbrev cX12_isCompared : ByteArray := prog_14_method_34_code
def yX12_isCompared : MethodName := ⟨RX12, "isCompared", "()Z"⟩
abbrev cX12_behindUnit : ByteArray := prog_14_method_35_code
def yX12_behindUnit : MethodName := ⟨RX12, "behindUnit", "()Z"⟩
abbrev cX12_two : ByteArray := prog_14_method_36_code
def yX12_two : MethodName := ⟨RX12, "two", "(III)I"⟩
abbrev cX12_nearest : ByteArray := prog_14_method_37_code
def yX12_nearest : MethodName := ⟨RX12, "nearest", "(IZ)I"⟩
abbrev cX12_amount : ByteArray := prog_14_method_38_code
def yX12_amount : MethodName := ⟨RX12, "amount", "(II)I"⟩
abbrev cX12_crossAt : ByteArray := prog_14_method_39_code
def yX12_crossAt : MethodName := ⟨RX12, "crossAt", "(I)I"⟩
abbrev cX12_comes : ByteArray := prog_14_method_40_code
def yX12_comes : MethodName := ⟨RX12, "comes", "(II)I"⟩
abbrev cX12_readGrade : ByteArray := prog_14_method_41_code
def yX12_readGrade : MethodName := ⟨RX12, "readGrade", "()V"⟩
abbrev cX12_readCar : ByteArray := prog_14_method_42_code
def yX12_readCar : MethodName := ⟨RX12, "readCar", "()V"⟩
abbrev cX12_readMark : ByteArray := prog_14_method_43_code
def yX12_readMark : MethodName := ⟨RX12, "readMark", "(I)V"⟩
abbrev cX12_fault : ByteArray := prog_14_method_44_code
def yX12_fault : MethodName := ⟨RX12, "fault", "(I)I"⟩
abbrev cX12_isIn : ByteArray := prog_14_method_45_code
def yX12_isIn : MethodName := ⟨RX12, "isIn", "(III)Z"⟩
abbrev cX12_carMany : ByteArray := prog_14_method_46_code
def yX12_carMany : MethodName := ⟨RX12, "carMany", "()I"⟩
abbrev cX12_isCar : ByteArray := prog_14_method_47_code
def yX12_isCar : MethodName := ⟨RX12, "isCar", "(I)Z"⟩
abbrev cX12_isRope : ByteArray := prog_14_method_48_code
def yX12_isRope : MethodName := ⟨RX12, "isRope", "(I)Z"⟩
abbrev cX12_isSegment : ByteArray := prog_14_method_49_code
def yX12_isSegment : MethodName := ⟨RX12, "isSegment", "(I)Z"⟩
abbrev cX12_gradeAt : ByteArray := prog_14_method_50_code
def yX12_gradeAt : MethodName := ⟨RX12, "gradeAt", "(I)I"⟩
abbrev cX12_ropeAt : ByteArray := prog_14_method_51_code
def yX12_ropeAt : MethodName := ⟨RX12, "ropeAt", "(I)I"⟩
abbrev cX12_has : ByteArray := prog_14_method_52_code
def yX12_has : MethodName := ⟨RX12, "has", "(II)Z"⟩
abbrev cX12_weight : ByteArray := prog_14_method_53_code
def yX12_weight : MethodName := ⟨RX12, "weight", "(I)I"⟩
abbrev cX12_sizeOf : ByteArray := prog_14_method_54_code
def yX12_sizeOf : MethodName := ⟨RX12, "sizeOf", "(I)I"⟩
abbrev cX12_begin : ByteArray := prog_14_method_55_code
def yX12_begin : MethodName := ⟨RX12, "begin", "()V"⟩
abbrev cX12_event0 : ByteArray := prog_14_method_56_code
def yX12_event0 : MethodName := ⟨RX12, "event0", "(IIII)I"⟩
abbrev cX12_latestOf : ByteArray := prog_14_method_57_code
def yX12_latestOf : MethodName := ⟨RX12, "latestOf", "(II)I"⟩
abbrev cX12_cutRope : ByteArray := prog_14_method_58_code
def yX12_cutRope : MethodName := ⟨RX12, "cutRope", "(III)V"⟩
abbrev cX12_on : ByteArray := prog_14_method_59_code
def yX12_on : MethodName := ⟨RX12, "on", "(I)I"⟩
abbrev cX12_loadOf : ByteArray := prog_14_method_60_code
def yX12_loadOf : MethodName := ⟨RX12, "loadOf", "(I)I"⟩
abbrev cX12_segmentOf : ByteArray := prog_14_method_61_code
def yX12_segmentOf : MethodName := ⟨RX12, "segmentOf", "(II)I"⟩
abbrev cX12_strandOn : ByteArray := prog_14_method_62_code
def yX12_strandOn : MethodName := ⟨RX12, "strandOn", "()I"⟩
abbrev cX12_grippers : ByteArray := prog_14_method_63_code
def yX12_grippers : MethodName := ⟨RX12, "grippers", "(I)I"⟩
abbrev cX12_moveSplice : ByteArray := prog_14_method_64_code
def yX12_moveSplice : MethodName := ⟨RX12, "moveSplice", "(I)V"⟩
abbrev cX12_moveStrand : ByteArray := prog_14_method_65_code
def yX12_moveStrand : MethodName := ⟨RX12, "moveStrand", "()V"⟩
abbrev cX12_goes : ByteArray := prog_14_method_66_code
def yX12_goes : MethodName := ⟨RX12, "goes", "(I)V"⟩
abbrev cX12_holdBack : ByteArray := prog_14_method_67_code
def yX12_holdBack : MethodName := ⟨RX12, "holdBack", "(II)V"⟩
abbrev cX12_readMarks : ByteArray := prog_14_method_68_code
def yX12_readMarks : MethodName := ⟨RX12, "readMarks", "(II)V"⟩
abbrev cX12_waitsOn : ByteArray := prog_14_method_69_code
def yX12_waitsOn : MethodName := ⟨RX12, "waitsOn", "(II)V"⟩
abbrev cX12_gripsOn : ByteArray := prog_14_method_70_code
def yX12_gripsOn : MethodName := ⟨RX12, "gripsOn", "(II)V"⟩
abbrev cX12_coasting : ByteArray := prog_14_method_71_code
def yX12_coasting : MethodName := ⟨RX12, "coasting", "(II)I"⟩
abbrev cX12_tick : ByteArray := prog_14_method_72_code
def yX12_tick : MethodName := ⟨RX12, "tick", "()V"⟩
abbrev cX12_turns : ByteArray := prog_14_method_73_code
def yX12_turns : MethodName := ⟨RX12, "turns", "()V"⟩
abbrev cX12_comesBack : ByteArray := prog_14_method_74_code
def yX12_comesBack : MethodName := ⟨RX12, "comesBack", "(I)V"⟩
abbrev cX12_going : ByteArray := prog_14_method_75_code
def yX12_going : MethodName := ⟨RX12, "going", "()I"⟩
abbrev cX12_run : ByteArray := prog_14_method_76_code
def yX12_run : MethodName := ⟨RX12, "run", "(I)I"⟩
abbrev cX12_car : ByteArray := prog_14_method_77_code
def yX12_car : MethodName := ⟨RX12, "car", "(II)I"⟩
abbrev cX12_speed : ByteArray := prog_14_method_78_code
def yX12_speed : MethodName := ⟨RX12, "speed", "(I)I"⟩
abbrev cX12_rope : ByteArray := prog_14_method_79_code
def yX12_rope : MethodName := ⟨RX12, "rope", "(II)I"⟩
abbrev cX12_count : ByteArray := prog_14_method_80_code
def yX12_count : MethodName := ⟨RX12, "count", "(I)I"⟩
abbrev cX12_isPlace : ByteArray := prog_14_method_81_code
def yX12_isPlace : MethodName := ⟨RX12, "isPlace", "(II)Z"⟩
abbrev cX12_strand : ByteArray := prog_14_method_82_code
def yX12_strand : MethodName := ⟨RX12, "strand", "(II)Z"⟩
abbrev cX12_strandNow : ByteArray := prog_14_method_83_code
def yX12_strandNow : MethodName := ⟨RX12, "strandNow", "(I)I"⟩
abbrev cX12_free : ByteArray := prog_14_method_84_code
def yX12_free : MethodName := ⟨RX12, "free", "(I)Z"⟩
abbrev cX12_splice : ByteArray := prog_14_method_85_code
def yX12_splice : MethodName := ⟨RX12, "splice", "(II)I"⟩
abbrev cX12_halt : ByteArray := prog_14_method_86_code
def yX12_halt : MethodName := ⟨RX12, "halt", "(I)I"⟩
abbrev cX12_rolls : ByteArray := prog_14_method_87_code
def yX12_rolls : MethodName := ⟨RX12, "rolls", "()I"⟩
abbrev cX12_trips : ByteArray := prog_14_method_88_code
def yX12_trips : MethodName := ⟨RX12, "trips", "(I)I"⟩
abbrev cX12_asks : ByteArray := prog_14_method_89_code
def yX12_asks : MethodName := ⟨RX12, "asks", "(II)I"⟩
abbrev cX12_event : ByteArray := prog_14_method_90_code
def yX12_event : MethodName := ⟨RX12, "event", "(II)I"⟩
abbrev cX12_due : ByteArray := prog_14_method_91_code
def yX12_due : MethodName := ⟨RX12, "due", "(I)I"⟩
abbrev cX12_isWornBy : ByteArray := prog_14_method_92_code
def yX12_isWornBy : MethodName := ⟨RX12, "isWornBy", "(I)Z"⟩
abbrev cX12_cost : ByteArray := prog_14_method_93_code
def yX12_cost : MethodName := ⟨RX12, "cost", "(II)I"⟩
abbrev cX12_signOf : ByteArray := prog_14_method_94_code
def yX12_signOf : MethodName := ⟨RX12, "signOf", "(I)I"⟩
abbrev cX12_coast : ByteArray := prog_14_method_95_code
def yX12_coast : MethodName := ⟨RX12, "coast", "(II)V"⟩
abbrev cX12_coasts : ByteArray := prog_14_method_96_code
def yX12_coasts : MethodName := ⟨RX12, "coasts", "(III)I"⟩
abbrev cX12_need : ByteArray := prog_14_method_97_code
def yX12_need : MethodName := ⟨RX12, "need", "(I)I"⟩
abbrev cX12_takes : ByteArray := prog_14_method_98_code
def yX12_takes : MethodName := ⟨RX12, "takes", "()I"⟩
abbrev cX12_headOf : ByteArray := prog_14_method_99_code
def yX12_headOf : MethodName := ⟨RX12, "headOf", "(I)I"⟩
abbrev cX12_head : ByteArray := prog_14_method_100_code
def yX12_head : MethodName := ⟨RX12, "head", "(I)I"⟩
abbrev cX12_spread : ByteArray := prog_14_method_101_code
def yX12_spread : MethodName := ⟨RX12, "spread", "(II)I"⟩
abbrev cX12_power : ByteArray := prog_14_method_102_code
def yX12_power : MethodName := ⟨RX12, "power", "(II)I"⟩
abbrev cX12_runaway : ByteArray := prog_14_method_103_code
def yX12_runaway : MethodName := ⟨RX12, "runaway", "(II)I"⟩
abbrev cX12_order : ByteArray := prog_14_method_104_code
def yX12_order : MethodName := ⟨RX12, "order", "(I)I"⟩
abbrev cX12_where : ByteArray := prog_14_method_105_code
def yX12_where : MethodName := ⟨RX12, "where", "(III)I"⟩
abbrev cX12_log : ByteArray := prog_14_method_106_code
def yX12_log : MethodName := ⟨RX12, "log", "(III)I"⟩
abbrev cX12_untell : ByteArray := prog_14_method_107_code
def yX12_untell : MethodName := ⟨RX12, "untell", "(I)Z"⟩
abbrev cX12_later : ByteArray := prog_14_method_108_code
def yX12_later : MethodName := ⟨RX12, "later", "(I)I"⟩
abbrev cX12_counts : ByteArray := prog_14_method_109_code
def yX12_counts : MethodName := ⟨RX12, "counts", "(II)Z"⟩
abbrev cX12_findFalse : ByteArray := prog_14_method_110_code
def yX12_findFalse : MethodName := ⟨RX12, "findFalse", "()V"⟩
abbrev cX12_judge : ByteArray := prog_14_method_111_code
def yX12_judge : MethodName := ⟨RX12, "judge", "(II)I"⟩
abbrev cX12_latest : ByteArray := prog_14_method_112_code
def yX12_latest : MethodName := ⟨RX12, "latest", "(III)I"⟩
abbrev cX12_logged : ByteArray := prog_14_method_113_code
def yX12_logged : MethodName := ⟨RX12, "logged", "(II)I"⟩
abbrev cX12_keep : ByteArray := prog_14_method_114_code
def yX12_keep : MethodName := ⟨RX12, "keep", "(I)V"⟩
abbrev cX12_bring : ByteArray := prog_14_method_115_code
def yX12_bring : MethodName := ⟨RX12, "bring", "(I)V"⟩
abbrev cX12_keepEvents : ByteArray := prog_14_method_116_code
def yX12_keepEvents : MethodName := ⟨RX12, "keepEvents", "(I)V"⟩
abbrev cX12_bringEvents : ByteArray := prog_14_method_117_code
def yX12_bringEvents : MethodName := ⟨RX12, "bringEvents", "(I)V"⟩
abbrev cX12_image : ByteArray := prog_14_method_118_code
def yX12_image : MethodName := ⟨RX12, "image", "(I)I"⟩
abbrev cX12_back : ByteArray := prog_14_method_119_code
def yX12_back : MethodName := ⟨RX12, "back", "(I)I"⟩
abbrev cX12_about : ByteArray := prog_14_method_120_code
def yX12_about : MethodName := ⟨RX12, "about", "(I)I"⟩
abbrev cX12_feed : ByteArray := prog_14_method_121_code
def yX12_feed : MethodName := ⟨RX12, "feed", "(IIIII)I"⟩
abbrev cX12_end : ByteArray := prog_14_method_122_code
def yX12_end : MethodName := ⟨RX12, "end", "(I)I"⟩
def RJ6 : String := "java/lang/Integer"
abbrev cJ6_signum_0f7a4 : ByteArray := prog_16_method_56_code
def yJ6_signum_0f7a4 : MethodName := ⟨RJ6, "signum", "(I)I"⟩
def RJ7 : String := "java/util/Arrays"
abbrev cJ7_fill_53178 : ByteArray := prog_22_method_103_code
def yJ7_fill_53178 : MethodName := ⟨RJ7, "fill", "([II)V"⟩
def RL : String := "CableStreetLaw"
abbrev cL_law : ByteArray := code
def yL_law : MethodName := ⟨RL, "law", "([I)Z"⟩
abbrev vwCl : List vw_C := [(RX0, TX0, 11), (RX1, TX1, 6), (RX2, TX2, 3), (RX3, TX3, 7), (RX4, TX4, 8), (RX5, TX5, 9), (RX6, TX6, 4), (RX7, TX7, 18), (RX8, TX8, 10), (RX9, TX9, 5), (RX10, TX10, 11), (RX11, TX11, 11), (RX12, TX12, 113)]
