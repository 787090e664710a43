/-! The JDK's own String methods: names, rows, words -/
def jy_length : MethodName := ⟨"java/lang/String", "length", "()I"⟩
abbrev jc_length : ByteArray := prog_18_method_54_code
theorem jd_length_0 : decode jc_length 0 = .ok (.aload_n 0, 1) := by decide +kernel
theorem jd_length_1 : decode jc_length 1 = .ok (.getfield 9, 3) := by decide +kernel
theorem jd_length_4 : decode jc_length 4 = .ok (.arraylength, 1) := by decide +kernel
theorem jd_length_5 : decode jc_length 5 = .ok (.aload_n 0, 1) := by decide +kernel
theorem jd_length_6 : decode jc_length 6 = .ok (.invokevirtual 335, 3) := by decide +kernel
theorem jd_length_9 : decode jc_length 9 = .ok (.ishr, 1) := by decide +kernel
theorem jd_length_10 : decode jc_length 10 = .ok (.ireturn, 1) := by decide +kernel
theorem jw_length_code : (Jvm.Cond.code ({ cls := "java/lang/String", name := "length", desc := "()I" } : Jvm.MethodName) prog_18_method_54_code (1 : Nat) (Option.some Jvm.ClassFile.FieldType.int)) ∈ gU := tb_3 (List.mem_of_getElem? (i := 147) rfl) rfl
theorem jw_length_init : (Jvm.Cond.initialized "java/lang/String") ∈ gU := tb_1 (List.mem_of_getElem? (i := 17) rfl) rfl
theorem jw_length_inst : (Jvm.Cond.instanceMethod ({ cls := "java/lang/String", name := "length", desc := "()I" } : Jvm.MethodName)) ∈ gU := tb_3 (List.mem_of_getElem? (i := 145) rfl) rfl
theorem jw_length_sel : (Jvm.Cond.selects "java/lang/String" ({ cls := "java/lang/String", name := "length", desc := "()I" } : Jvm.MethodName) ({ cls := "java/lang/String", name := "length", desc := "()I" } : Jvm.MethodName)) ∈ gU := tb_3 (List.mem_of_getElem? (i := 146) rfl) rfl
theorem jy_length_ok : ri_yOK jy_length 0 := ⟨by decide, by decide, by decide +kernel⟩
def jy_coder : MethodName := ⟨"java/lang/String", "coder", "()B"⟩
abbrev jc_coder : ByteArray := prog_18_method_152_code
theorem jd_coder_0 : decode jc_coder 0 = .ok (.getstatic 38, 3) := by decide +kernel
theorem jd_coder_3 : decode jc_coder 3 = .ok (.ifCond .eq 10, 3) := by decide +kernel
theorem jd_coder_6 : decode jc_coder 6 = .ok (.aload_n 0, 1) := by decide +kernel
theorem jd_coder_7 : decode jc_coder 7 = .ok (.getfield 15, 3) := by decide +kernel
theorem jd_coder_10 : decode jc_coder 10 = .ok (.goto 4, 3) := by decide +kernel
theorem jd_coder_13 : decode jc_coder 13 = .ok (.iconst 1, 1) := by decide +kernel
theorem jd_coder_14 : decode jc_coder 14 = .ok (.ireturn, 1) := by decide +kernel
theorem jw_coder_code : (Jvm.Cond.code ({ cls := "java/lang/String", name := "coder", desc := "()B" } : Jvm.MethodName) prog_18_method_152_code (1 : Nat) (Option.some Jvm.ClassFile.FieldType.byte)) ∈ gU := tb_3 (List.mem_of_getElem? (i := 151) rfl) rfl
theorem jw_coder_init : (Jvm.Cond.initialized "java/lang/String") ∈ gU := tb_1 (List.mem_of_getElem? (i := 17) rfl) rfl
theorem jw_coder_inst : (Jvm.Cond.instanceMethod ({ cls := "java/lang/String", name := "coder", desc := "()B" } : Jvm.MethodName)) ∈ gU := tb_3 (List.mem_of_getElem? (i := 149) rfl) rfl
theorem jw_coder_sel : (Jvm.Cond.selects "java/lang/String" ({ cls := "java/lang/String", name := "coder", desc := "()B" } : Jvm.MethodName) ({ cls := "java/lang/String", name := "coder", desc := "()B" } : Jvm.MethodName)) ∈ gU := tb_3 (List.mem_of_getElem? (i := 150) rfl) rfl
theorem jy_coder_ok : ri_yOK jy_coder 0 := ⟨by decide, by decide, by decide +kernel⟩
def jy_charAt : MethodName := ⟨"java/lang/String", "charAt", "(I)C"⟩
abbrev jc_charAt : ByteArray := prog_18_method_56_code
theorem jd_charAt_0 : decode jc_charAt 0 = .ok (.aload_n 0, 1) := by decide +kernel
theorem jd_charAt_1 : decode jc_charAt 1 = .ok (.invokevirtual 492, 3) := by decide +kernel
theorem jd_charAt_4 : decode jc_charAt 4 = .ok (.ifCond .eq 12, 3) := by decide +kernel
theorem jd_charAt_7 : decode jc_charAt 7 = .ok (.aload_n 0, 1) := by decide +kernel
theorem jd_charAt_8 : decode jc_charAt 8 = .ok (.getfield 9, 3) := by decide +kernel
theorem jd_charAt_11 : decode jc_charAt 11 = .ok (.iload_n 1, 1) := by decide +kernel
theorem jd_charAt_12 : decode jc_charAt 12 = .ok (.invokestatic 495, 3) := by decide +kernel
theorem jd_charAt_15 : decode jc_charAt 15 = .ok (.ireturn, 1) := by decide +kernel
theorem jd_charAt_16 : decode jc_charAt 16 = .ok (.aload_n 0, 1) := by decide +kernel
theorem jd_charAt_17 : decode jc_charAt 17 = .ok (.getfield 9, 3) := by decide +kernel
theorem jd_charAt_20 : decode jc_charAt 20 = .ok (.iload_n 1, 1) := by decide +kernel
theorem jd_charAt_21 : decode jc_charAt 21 = .ok (.invokestatic 498, 3) := by decide +kernel
theorem jd_charAt_24 : decode jc_charAt 24 = .ok (.ireturn, 1) := by decide +kernel
theorem jw_charAt_code : (Jvm.Cond.code ({ cls := "java/lang/String", name := "charAt", desc := "(I)C" } : Jvm.MethodName) prog_18_method_56_code (2 : Nat) (Option.some Jvm.ClassFile.FieldType.char)) ∈ gU := tb_3 (List.mem_of_getElem? (i := 157) rfl) rfl
theorem jw_charAt_init : (Jvm.Cond.initialized "java/lang/String") ∈ gU := tb_1 (List.mem_of_getElem? (i := 17) rfl) rfl
theorem jw_charAt_inst : (Jvm.Cond.instanceMethod ({ cls := "java/lang/String", name := "charAt", desc := "(I)C" } : Jvm.MethodName)) ∈ gU := tb_3 (List.mem_of_getElem? (i := 155) rfl) rfl
theorem jw_charAt_sel : (Jvm.Cond.selects "java/lang/String" ({ cls := "java/lang/String", name := "charAt", desc := "(I)C" } : Jvm.MethodName) ({ cls := "java/lang/String", name := "charAt", desc := "(I)C" } : Jvm.MethodName)) ∈ gU := tb_3 (List.mem_of_getElem? (i := 156) rfl) rfl
theorem jy_charAt_ok : ri_yOK jy_charAt 1 := ⟨by decide, by decide, by decide +kernel⟩
def jy_isLatin1 : MethodName := ⟨"java/lang/String", "isLatin1", "()Z"⟩
abbrev jc_isLatin1 : ByteArray := prog_18_method_154_code
theorem jd_isLatin1_0 : decode jc_isLatin1 0 = .ok (.getstatic 38, 3) := by decide +kernel
theorem jd_isLatin1_3 : decode jc_isLatin1 3 = .ok (.ifCond .eq 14, 3) := by decide +kernel
theorem jd_isLatin1_6 : decode jc_isLatin1 6 = .ok (.aload_n 0, 1) := by decide +kernel
theorem jd_isLatin1_7 : decode jc_isLatin1 7 = .ok (.getfield 15, 3) := by decide +kernel
theorem jd_isLatin1_10 : decode jc_isLatin1 10 = .ok (.ifCond .ne 7, 3) := by decide +kernel
theorem jd_isLatin1_13 : decode jc_isLatin1 13 = .ok (.iconst 1, 1) := by decide +kernel
theorem jd_isLatin1_14 : decode jc_isLatin1 14 = .ok (.goto 4, 3) := by decide +kernel
theorem jd_isLatin1_17 : decode jc_isLatin1 17 = .ok (.iconst 0, 1) := by decide +kernel
theorem jd_isLatin1_18 : decode jc_isLatin1 18 = .ok (.ireturn, 1) := by decide +kernel
theorem jw_isLatin1_code : (Jvm.Cond.code ({ cls := "java/lang/String", name := "isLatin1", desc := "()Z" } : Jvm.MethodName) prog_18_method_154_code (1 : Nat) (Option.some Jvm.ClassFile.FieldType.boolean)) ∈ gU := tb_3 (List.mem_of_getElem? (i := 161) rfl) rfl
theorem jw_isLatin1_init : (Jvm.Cond.initialized "java/lang/String") ∈ gU := tb_1 (List.mem_of_getElem? (i := 17) rfl) rfl
theorem jw_isLatin1_inst : (Jvm.Cond.instanceMethod ({ cls := "java/lang/String", name := "isLatin1", desc := "()Z" } : Jvm.MethodName)) ∈ gU := tb_3 (List.mem_of_getElem? (i := 159) rfl) rfl
theorem jw_isLatin1_sel : (Jvm.Cond.selects "java/lang/String" ({ cls := "java/lang/String", name := "isLatin1", desc := "()Z" } : Jvm.MethodName) ({ cls := "java/lang/String", name := "isLatin1", desc := "()Z" } : Jvm.MethodName)) ∈ gU := tb_3 (List.mem_of_getElem? (i := 160) rfl) rfl
theorem jy_isLatin1_ok : ri_yOK jy_isLatin1 0 := ⟨by decide, by decide, by decide +kernel⟩
def jy_lcharAt : MethodName := ⟨"java/lang/StringLatin1", "charAt", "([BI)C"⟩
abbrev jc_lcharAt : ByteArray := prog_19_method_2_code
theorem jd_lcharAt_0 : decode jc_lcharAt 0 = .ok (.iload_n 1, 1) := by decide +kernel
theorem jd_lcharAt_1 : decode jc_lcharAt 1 = .ok (.aload_n 0, 1) := by decide +kernel
theorem jd_lcharAt_2 : decode jc_lcharAt 2 = .ok (.arraylength, 1) := by decide +kernel
theorem jd_lcharAt_3 : decode jc_lcharAt 3 = .ok (.invokestatic 9, 3) := by decide +kernel
theorem jd_lcharAt_6 : decode jc_lcharAt 6 = .ok (.aload_n 0, 1) := by decide +kernel
theorem jd_lcharAt_7 : decode jc_lcharAt 7 = .ok (.iload_n 1, 1) := by decide +kernel
theorem jd_lcharAt_8 : decode jc_lcharAt 8 = .ok (.baload, 1) := by decide +kernel
theorem jd_lcharAt_9 : decode jc_lcharAt 9 = .ok (.sipush 255, 3) := by decide +kernel
theorem jd_lcharAt_12 : decode jc_lcharAt 12 = .ok (.iand, 1) := by decide +kernel
theorem jd_lcharAt_13 : decode jc_lcharAt 13 = .ok (.i2c, 1) := by decide +kernel
theorem jd_lcharAt_14 : decode jc_lcharAt 14 = .ok (.ireturn, 1) := by decide +kernel
theorem jw_lcharAt_code : (Jvm.Cond.code ({ cls := "java/lang/StringLatin1", name := "charAt", desc := "([BI)C" } : Jvm.MethodName) prog_19_method_2_code (2 : Nat) (Option.some Jvm.ClassFile.FieldType.char)) ∈ gU := tb_3 (List.mem_of_getElem? (i := 164) rfl) rfl
theorem jw_lcharAt_init : (Jvm.Cond.initialized "java/lang/StringLatin1") ∈ gU := tb_1 (List.mem_of_getElem? (i := 18) rfl) rfl
theorem jw_lcharAt_static : (Jvm.Cond.static ({ cls := "java/lang/StringLatin1", name := "charAt", desc := "([BI)C" } : Jvm.MethodName)) ∈ gU := tb_3 (List.mem_of_getElem? (i := 163) rfl) rfl
theorem jy_lcharAt_ok : ri_yOK jy_lcharAt 2 := ⟨by decide, by decide, by decide +kernel⟩
def jy_checkIx : MethodName := ⟨"java/lang/String", "checkIndex", "(II)V"⟩
abbrev jc_checkIx : ByteArray := prog_18_method_155_code
theorem jd_checkIx_0 : decode jc_checkIx 0 = .ok (.iload_n 0, 1) := by decide +kernel
theorem jd_checkIx_1 : decode jc_checkIx 1 = .ok (.iload_n 1, 1) := by decide +kernel
theorem jd_checkIx_2 : decode jc_checkIx 2 = .ok (.getstatic 1053, 3) := by decide +kernel
theorem jd_checkIx_5 : decode jc_checkIx 5 = .ok (.invokestatic 1059, 3) := by decide +kernel
theorem jd_checkIx_8 : decode jc_checkIx 8 = .ok (.pop, 1) := by decide +kernel
theorem jd_checkIx_9 : decode jc_checkIx 9 = .ok (.return_, 1) := by decide +kernel
theorem jw_checkIx_code : (Jvm.Cond.code ({ cls := "java/lang/String", name := "checkIndex", desc := "(II)V" } : Jvm.MethodName) prog_18_method_155_code (2 : Nat) (Option.none : Option Jvm.ClassFile.FieldType)) ∈ gU := tb_3 (List.mem_of_getElem? (i := 167) rfl) rfl
theorem jw_checkIx_init : (Jvm.Cond.initialized "java/lang/String") ∈ gU := tb_1 (List.mem_of_getElem? (i := 17) rfl) rfl
theorem jw_checkIx_static : (Jvm.Cond.static ({ cls := "java/lang/String", name := "checkIndex", desc := "(II)V" } : Jvm.MethodName)) ∈ gU := tb_3 (List.mem_of_getElem? (i := 166) rfl) rfl
theorem jy_checkIx_ok : ri_yOK jy_checkIx 2 := ⟨by decide, by decide, by decide +kernel⟩
def jy_pcheckIx : MethodName := ⟨"jdk/internal/util/Preconditions", "checkIndex", "(IILjava/util/function/BiFunction;)I"⟩
abbrev jc_pcheckIx : ByteArray := prog_23_method_11_code
theorem jd_pcheckIx_0 : decode jc_pcheckIx 0 = .ok (.iload_n 0, 1) := by decide +kernel
theorem jd_pcheckIx_1 : decode jc_pcheckIx 1 = .ok (.ifCond .lt 8, 3) := by decide +kernel
theorem jd_pcheckIx_4 : decode jc_pcheckIx 4 = .ok (.iload_n 0, 1) := by decide +kernel
theorem jd_pcheckIx_5 : decode jc_pcheckIx 5 = .ok (.iload_n 1, 1) := by decide +kernel
theorem jd_pcheckIx_6 : decode jc_pcheckIx 6 = .ok (.if_icmp .lt 10, 3) := by decide +kernel
theorem jd_pcheckIx_9 : decode jc_pcheckIx 9 = .ok (.aload_n 2, 1) := by decide +kernel
theorem jd_pcheckIx_10 : decode jc_pcheckIx 10 = .ok (.iload_n 0, 1) := by decide +kernel
theorem jd_pcheckIx_11 : decode jc_pcheckIx 11 = .ok (.iload_n 1, 1) := by decide +kernel
theorem jd_pcheckIx_15 : decode jc_pcheckIx 15 = .ok (.athrow, 1) := by decide +kernel
theorem jd_pcheckIx_16 : decode jc_pcheckIx 16 = .ok (.iload_n 0, 1) := by decide +kernel
theorem jd_pcheckIx_17 : decode jc_pcheckIx 17 = .ok (.ireturn, 1) := by decide +kernel
theorem jw_pcheckIx_code : (Jvm.Cond.code ({ cls := "jdk/internal/util/Preconditions", name := "checkIndex", desc := "(IILjava/util/function/BiFunction;)I" } : Jvm.MethodName) prog_23_method_11_code (3 : Nat) (Option.some Jvm.ClassFile.FieldType.int)) ∈ gU := tb_3 (List.mem_of_getElem? (i := 172) rfl) rfl
theorem jw_pcheckIx_init : (Jvm.Cond.initialized "jdk/internal/util/Preconditions") ∈ gU := tb_1 (List.mem_of_getElem? (i := 19) rfl) rfl
theorem jw_pcheckIx_static : (Jvm.Cond.static ({ cls := "jdk/internal/util/Preconditions", name := "checkIndex", desc := "(IILjava/util/function/BiFunction;)I" } : Jvm.MethodName)) ∈ gU := tb_3 (List.mem_of_getElem? (i := 171) rfl) rfl
theorem jy_pcheckIx_ok : ri_yOK jy_pcheckIx 3 := ⟨by decide, by decide, by decide +kernel⟩
def jy_indexOf1 : MethodName := ⟨"java/lang/String", "indexOf", "(I)I"⟩
abbrev jc_indexOf1 : ByteArray := prog_18_method_79_code
theorem jd_indexOf1_0 : decode jc_indexOf1 0 = .ok (.aload_n 0, 1) := by decide +kernel
theorem jd_indexOf1_1 : decode jc_indexOf1 1 = .ok (.iload_n 1, 1) := by decide +kernel
theorem jd_indexOf1_2 : decode jc_indexOf1 2 = .ok (.iconst 0, 1) := by decide +kernel
theorem jd_indexOf1_3 : decode jc_indexOf1 3 = .ok (.invokevirtual 633, 3) := by decide +kernel
theorem jd_indexOf1_6 : decode jc_indexOf1 6 = .ok (.ireturn, 1) := by decide +kernel
theorem jw_indexOf1_code : (Jvm.Cond.code ({ cls := "java/lang/String", name := "indexOf", desc := "(I)I" } : Jvm.MethodName) prog_18_method_79_code (2 : Nat) (Option.some Jvm.ClassFile.FieldType.int)) ∈ gU := tb_3 (List.mem_of_getElem? (i := 204) rfl) rfl
theorem jw_indexOf1_init : (Jvm.Cond.initialized "java/lang/String") ∈ gU := tb_1 (List.mem_of_getElem? (i := 17) rfl) rfl
theorem jw_indexOf1_inst : (Jvm.Cond.instanceMethod ({ cls := "java/lang/String", name := "indexOf", desc := "(I)I" } : Jvm.MethodName)) ∈ gU := tb_3 (List.mem_of_getElem? (i := 202) rfl) rfl
theorem jw_indexOf1_sel : (Jvm.Cond.selects "java/lang/String" ({ cls := "java/lang/String", name := "indexOf", desc := "(I)I" } : Jvm.MethodName) ({ cls := "java/lang/String", name := "indexOf", desc := "(I)I" } : Jvm.MethodName)) ∈ gU := tb_3 (List.mem_of_getElem? (i := 203) rfl) rfl
theorem jy_indexOf1_ok : ri_yOK jy_indexOf1 1 := ⟨by decide, by decide, by decide +kernel⟩
def jy_indexOf2 : MethodName := ⟨"java/lang/String", "indexOf", "(II)I"⟩
abbrev jc_indexOf2 : ByteArray := prog_18_method_80_code
theorem jd_indexOf2_0 : decode jc_indexOf2 0 = .ok (.aload_n 0, 1) := by decide +kernel
theorem jd_indexOf2_1 : decode jc_indexOf2 1 = .ok (.invokevirtual 492, 3) := by decide +kernel
theorem jd_indexOf2_4 : decode jc_indexOf2 4 = .ok (.ifCond .eq 19, 3) := by decide +kernel
theorem jd_indexOf2_7 : decode jc_indexOf2 7 = .ok (.aload_n 0, 1) := by decide +kernel
theorem jd_indexOf2_8 : decode jc_indexOf2 8 = .ok (.getfield 9, 3) := by decide +kernel
theorem jd_indexOf2_11 : decode jc_indexOf2 11 = .ok (.iload_n 1, 1) := by decide +kernel
theorem jd_indexOf2_12 : decode jc_indexOf2 12 = .ok (.iload_n 2, 1) := by decide +kernel
theorem jd_indexOf2_13 : decode jc_indexOf2 13 = .ok (.aload_n 0, 1) := by decide +kernel
theorem jd_indexOf2_14 : decode jc_indexOf2 14 = .ok (.invokevirtual 505, 3) := by decide +kernel
theorem jd_indexOf2_17 : decode jc_indexOf2 17 = .ok (.invokestatic 637, 3) := by decide +kernel
theorem jd_indexOf2_20 : decode jc_indexOf2 20 = .ok (.goto 16, 3) := by decide +kernel
theorem jd_indexOf2_23 : decode jc_indexOf2 23 = .ok (.aload_n 0, 1) := by decide +kernel
theorem jd_indexOf2_24 : decode jc_indexOf2 24 = .ok (.getfield 9, 3) := by decide +kernel
theorem jd_indexOf2_27 : decode jc_indexOf2 27 = .ok (.iload_n 1, 1) := by decide +kernel
theorem jd_indexOf2_28 : decode jc_indexOf2 28 = .ok (.iload_n 2, 1) := by decide +kernel
theorem jd_indexOf2_29 : decode jc_indexOf2 29 = .ok (.aload_n 0, 1) := by decide +kernel
theorem jd_indexOf2_30 : decode jc_indexOf2 30 = .ok (.invokevirtual 505, 3) := by decide +kernel
theorem jd_indexOf2_33 : decode jc_indexOf2 33 = .ok (.invokestatic 640, 3) := by decide +kernel
theorem jd_indexOf2_36 : decode jc_indexOf2 36 = .ok (.ireturn, 1) := by decide +kernel
theorem jw_indexOf2_code : (Jvm.Cond.code ({ cls := "java/lang/String", name := "indexOf", desc := "(II)I" } : Jvm.MethodName) prog_18_method_80_code (3 : Nat) (Option.some Jvm.ClassFile.FieldType.int)) ∈ gU := tb_3 (List.mem_of_getElem? (i := 208) rfl) rfl
theorem jw_indexOf2_init : (Jvm.Cond.initialized "java/lang/String") ∈ gU := tb_1 (List.mem_of_getElem? (i := 17) rfl) rfl
theorem jw_indexOf2_inst : (Jvm.Cond.instanceMethod ({ cls := "java/lang/String", name := "indexOf", desc := "(II)I" } : Jvm.MethodName)) ∈ gU := tb_3 (List.mem_of_getElem? (i := 206) rfl) rfl
theorem jw_indexOf2_sel : (Jvm.Cond.selects "java/lang/String" ({ cls := "java/lang/String", name := "indexOf", desc := "(II)I" } : Jvm.MethodName) ({ cls := "java/lang/String", name := "indexOf", desc := "(II)I" } : Jvm.MethodName)) ∈ gU := tb_3 (List.mem_of_getElem? (i := 207) rfl) rfl
theorem jy_indexOf2_ok : ri_yOK jy_indexOf2 2 := ⟨by decide, by decide, by decide +kernel⟩
def jy_lindexOf : MethodName := ⟨"java/lang/StringLatin1", "indexOf", "([BIII)I"⟩
abbrev jc_lindexOf : ByteArray := prog_19_method_22_code
theorem jd_lindexOf_0 : decode jc_lindexOf 0 = .ok (.iload_n 1, 1) := by decide +kernel
theorem jd_lindexOf_1 : decode jc_lindexOf 1 = .ok (.invokestatic 88, 3) := by decide +kernel
theorem jd_lindexOf_4 : decode jc_lindexOf 4 = .ok (.ifCond .ne 5, 3) := by decide +kernel
theorem jd_lindexOf_7 : decode jc_lindexOf 7 = .ok (.iconst (-1), 1) := by decide +kernel
theorem jd_lindexOf_8 : decode jc_lindexOf 8 = .ok (.ireturn, 1) := by decide +kernel
theorem jd_lindexOf_9 : decode jc_lindexOf 9 = .ok (.iload_n 2, 1) := by decide +kernel
theorem jd_lindexOf_10 : decode jc_lindexOf 10 = .ok (.iconst 0, 1) := by decide +kernel
theorem jd_lindexOf_11 : decode jc_lindexOf 11 = .ok (.invokestatic 92, 3) := by decide +kernel
theorem jd_lindexOf_14 : decode jc_lindexOf 14 = .ok (.istore_n 2, 1) := by decide +kernel
theorem jd_lindexOf_15 : decode jc_lindexOf 15 = .ok (.iload_n 3, 1) := by decide +kernel
theorem jd_lindexOf_16 : decode jc_lindexOf 16 = .ok (.aload_n 0, 1) := by decide +kernel
theorem jd_lindexOf_17 : decode jc_lindexOf 17 = .ok (.arraylength, 1) := by decide +kernel
theorem jd_lindexOf_18 : decode jc_lindexOf 18 = .ok (.invokestatic 38, 3) := by decide +kernel
theorem jd_lindexOf_21 : decode jc_lindexOf 21 = .ok (.istore_n 3, 1) := by decide +kernel
theorem jd_lindexOf_22 : decode jc_lindexOf 22 = .ok (.iload_n 2, 1) := by decide +kernel
theorem jd_lindexOf_23 : decode jc_lindexOf 23 = .ok (.iload_n 3, 1) := by decide +kernel
theorem jd_lindexOf_24 : decode jc_lindexOf 24 = .ok (.if_icmp .lt 5, 3) := by decide +kernel
theorem jd_lindexOf_27 : decode jc_lindexOf 27 = .ok (.iconst (-1), 1) := by decide +kernel
theorem jd_lindexOf_28 : decode jc_lindexOf 28 = .ok (.ireturn, 1) := by decide +kernel
theorem jd_lindexOf_29 : decode jc_lindexOf 29 = .ok (.aload_n 0, 1) := by decide +kernel
theorem jd_lindexOf_30 : decode jc_lindexOf 30 = .ok (.iload_n 1, 1) := by decide +kernel
theorem jd_lindexOf_31 : decode jc_lindexOf 31 = .ok (.iload_n 2, 1) := by decide +kernel
theorem jd_lindexOf_32 : decode jc_lindexOf 32 = .ok (.iload_n 3, 1) := by decide +kernel
theorem jd_lindexOf_33 : decode jc_lindexOf 33 = .ok (.invokestatic 95, 3) := by decide +kernel
theorem jd_lindexOf_36 : decode jc_lindexOf 36 = .ok (.ireturn, 1) := by decide +kernel
theorem jw_lindexOf_code : (Jvm.Cond.code ({ cls := "java/lang/StringLatin1", name := "indexOf", desc := "([BIII)I" } : Jvm.MethodName) prog_19_method_22_code (4 : Nat) (Option.some Jvm.ClassFile.FieldType.int)) ∈ gU := tb_3 (List.mem_of_getElem? (i := 212) rfl) rfl
theorem jw_lindexOf_init : (Jvm.Cond.initialized "java/lang/StringLatin1") ∈ gU := tb_1 (List.mem_of_getElem? (i := 18) rfl) rfl
theorem jw_lindexOf_static : (Jvm.Cond.static ({ cls := "java/lang/StringLatin1", name := "indexOf", desc := "([BIII)I" } : Jvm.MethodName)) ∈ gU := tb_3 (List.mem_of_getElem? (i := 211) rfl) rfl
theorem jy_lindexOf_ok : ri_yOK jy_lindexOf 4 := ⟨by decide, by decide, by decide +kernel⟩
def jy_canEncode : MethodName := ⟨"java/lang/StringLatin1", "canEncode", "(I)Z"⟩
abbrev jc_canEncode : ByteArray := prog_19_method_4_code
theorem jd_canEncode_0 : decode jc_canEncode 0 = .ok (.iload_n 0, 1) := by decide +kernel
theorem jd_canEncode_1 : decode jc_canEncode 1 = .ok (.ifCond .lt 14, 3) := by decide +kernel
theorem jd_canEncode_4 : decode jc_canEncode 4 = .ok (.iload_n 0, 1) := by decide +kernel
theorem jd_canEncode_5 : decode jc_canEncode 5 = .ok (.sipush 255, 3) := by decide +kernel
theorem jd_canEncode_8 : decode jc_canEncode 8 = .ok (.if_icmp .gt 7, 3) := by decide +kernel
theorem jd_canEncode_11 : decode jc_canEncode 11 = .ok (.iconst 1, 1) := by decide +kernel
theorem jd_canEncode_12 : decode jc_canEncode 12 = .ok (.goto 4, 3) := by decide +kernel
theorem jd_canEncode_15 : decode jc_canEncode 15 = .ok (.iconst 0, 1) := by decide +kernel
theorem jd_canEncode_16 : decode jc_canEncode 16 = .ok (.ireturn, 1) := by decide +kernel
theorem jw_canEncode_code : (Jvm.Cond.code ({ cls := "java/lang/StringLatin1", name := "canEncode", desc := "(I)Z" } : Jvm.MethodName) prog_19_method_4_code (1 : Nat) (Option.some Jvm.ClassFile.FieldType.boolean)) ∈ gU := tb_3 (List.mem_of_getElem? (i := 215) rfl) rfl
theorem jw_canEncode_init : (Jvm.Cond.initialized "java/lang/StringLatin1") ∈ gU := tb_1 (List.mem_of_getElem? (i := 18) rfl) rfl
theorem jw_canEncode_static : (Jvm.Cond.static ({ cls := "java/lang/StringLatin1", name := "canEncode", desc := "(I)Z" } : Jvm.MethodName)) ∈ gU := tb_3 (List.mem_of_getElem? (i := 214) rfl) rfl
theorem jy_canEncode_ok : ri_yOK jy_canEncode 1 := ⟨by decide, by decide, by decide +kernel⟩
def jy_indexOfChar : MethodName := ⟨"java/lang/StringLatin1", "indexOfChar", "([BIII)I"⟩
abbrev jc_indexOfChar : ByteArray := prog_19_method_23_code
theorem jd_indexOfChar_0 : decode jc_indexOfChar 0 = .ok (.iload_n 1, 1) := by decide +kernel
theorem jd_indexOfChar_1 : decode jc_indexOfChar 1 = .ok (.i2b, 1) := by decide +kernel
theorem jd_indexOfChar_2 : decode jc_indexOfChar 2 = .ok (.istore 4, 2) := by decide +kernel
theorem jd_indexOfChar_4 : decode jc_indexOfChar 4 = .ok (.iload_n 2, 1) := by decide +kernel
theorem jd_indexOfChar_5 : decode jc_indexOfChar 5 = .ok (.istore 5, 2) := by decide +kernel
theorem jd_indexOfChar_7 : decode jc_indexOfChar 7 = .ok (.iload 5, 2) := by decide +kernel
theorem jd_indexOfChar_9 : decode jc_indexOfChar 9 = .ok (.iload_n 3, 1) := by decide +kernel
theorem jd_indexOfChar_10 : decode jc_indexOfChar 10 = .ok (.if_icmp .ge 21, 3) := by decide +kernel
theorem jd_indexOfChar_13 : decode jc_indexOfChar 13 = .ok (.aload_n 0, 1) := by decide +kernel
theorem jd_indexOfChar_14 : decode jc_indexOfChar 14 = .ok (.iload 5, 2) := by decide +kernel
theorem jd_indexOfChar_16 : decode jc_indexOfChar 16 = .ok (.baload, 1) := by decide +kernel
theorem jd_indexOfChar_17 : decode jc_indexOfChar 17 = .ok (.iload 4, 2) := by decide +kernel
theorem jd_indexOfChar_19 : decode jc_indexOfChar 19 = .ok (.if_icmp .ne 6, 3) := by decide +kernel
theorem jd_indexOfChar_22 : decode jc_indexOfChar 22 = .ok (.iload 5, 2) := by decide +kernel
theorem jd_indexOfChar_24 : decode jc_indexOfChar 24 = .ok (.ireturn, 1) := by decide +kernel
theorem jd_indexOfChar_25 : decode jc_indexOfChar 25 = .ok (.iinc 5 1, 3) := by decide +kernel
theorem jd_indexOfChar_28 : decode jc_indexOfChar 28 = .ok (.goto (-21), 3) := by decide +kernel
theorem jd_indexOfChar_31 : decode jc_indexOfChar 31 = .ok (.iconst (-1), 1) := by decide +kernel
theorem jd_indexOfChar_32 : decode jc_indexOfChar 32 = .ok (.ireturn, 1) := by decide +kernel
theorem jw_indexOfChar_code : (Jvm.Cond.code ({ cls := "java/lang/StringLatin1", name := "indexOfChar", desc := "([BIII)I" } : Jvm.MethodName) prog_19_method_23_code (6 : Nat) (Option.some Jvm.ClassFile.FieldType.int)) ∈ gU := tb_3 (List.mem_of_getElem? (i := 220) rfl) rfl
theorem jw_indexOfChar_init : (Jvm.Cond.initialized "java/lang/StringLatin1") ∈ gU := tb_1 (List.mem_of_getElem? (i := 18) rfl) rfl
theorem jw_indexOfChar_static : (Jvm.Cond.static ({ cls := "java/lang/StringLatin1", name := "indexOfChar", desc := "([BIII)I" } : Jvm.MethodName)) ∈ gU := tb_3 (List.mem_of_getElem? (i := 219) rfl) rfl
theorem jy_indexOfChar_ok : ri_yOK jy_indexOfChar 4 := ⟨by decide, by decide, by decide +kernel⟩
theorem jl_length_1 : (Jvm.Cond.fieldLink "java/lang/String" (9 : Nat) "java/lang/String" "value" "[B") ∈ gU := tb_10 (List.mem_of_getElem? (i := 66) rfl) rfl
theorem jl_length_6 : (Jvm.Cond.methodLink "java/lang/String" (335 : Nat) ({ cls := "java/lang/String", name := "coder", desc := "()B" } : Jvm.MethodName)) ∈ gU := tb_3 (List.mem_of_getElem? (i := 148) rfl) rfl
theorem jl_coder_0 : (Jvm.Cond.fieldLink "java/lang/String" (38 : Nat) "java/lang/String" "COMPACT_STRINGS" "Z") ∈ gU := tb_3 (List.mem_of_getElem? (i := 152) rfl) rfl
theorem jl_coder_7 : (Jvm.Cond.fieldLink "java/lang/String" (15 : Nat) "java/lang/String" "coder" "B") ∈ gU := tb_10 (List.mem_of_getElem? (i := 67) rfl) rfl
theorem jl_charAt_1 : (Jvm.Cond.methodLink "java/lang/String" (492 : Nat) ({ cls := "java/lang/String", name := "isLatin1", desc := "()Z" } : Jvm.MethodName)) ∈ gU := tb_3 (List.mem_of_getElem? (i := 158) rfl) rfl
theorem jl_charAt_8 : (Jvm.Cond.fieldLink "java/lang/String" (9 : Nat) "java/lang/String" "value" "[B") ∈ gU := tb_10 (List.mem_of_getElem? (i := 66) rfl) rfl
theorem jl_charAt_12 : (Jvm.Cond.methodLink "java/lang/String" (495 : Nat) ({ cls := "java/lang/StringLatin1", name := "charAt", desc := "([BI)C" } : Jvm.MethodName)) ∈ gU := tb_3 (List.mem_of_getElem? (i := 162) rfl) rfl
theorem jl_charAt_17 : (Jvm.Cond.fieldLink "java/lang/String" (9 : Nat) "java/lang/String" "value" "[B") ∈ gU := tb_10 (List.mem_of_getElem? (i := 66) rfl) rfl
theorem jl_charAt_21 : (Jvm.Cond.methodLink "java/lang/String" (498 : Nat) ({ cls := "java/lang/StringUTF16", name := "charAt", desc := "([BI)C" } : Jvm.MethodName)) ∈ gU := tb_3 (List.mem_of_getElem? (i := 173) rfl) rfl
theorem jl_isLatin1_0 : (Jvm.Cond.fieldLink "java/lang/String" (38 : Nat) "java/lang/String" "COMPACT_STRINGS" "Z") ∈ gU := tb_3 (List.mem_of_getElem? (i := 152) rfl) rfl
theorem jl_isLatin1_7 : (Jvm.Cond.fieldLink "java/lang/String" (15 : Nat) "java/lang/String" "coder" "B") ∈ gU := tb_10 (List.mem_of_getElem? (i := 67) rfl) rfl
theorem jl_lcharAt_3 : (Jvm.Cond.methodLink "java/lang/StringLatin1" (9 : Nat) ({ cls := "java/lang/String", name := "checkIndex", desc := "(II)V" } : Jvm.MethodName)) ∈ gU := tb_3 (List.mem_of_getElem? (i := 165) rfl) rfl
theorem jl_checkIx_2 : (Jvm.Cond.fieldLink "java/lang/String" (1053 : Nat) "jdk/internal/util/Preconditions" "SIOOBE_FORMATTER" "Ljava/util/function/BiFunction;") ∈ gU := tb_3 (List.mem_of_getElem? (i := 168) rfl) rfl
theorem jl_checkIx_5 : (Jvm.Cond.methodLink "java/lang/String" (1059 : Nat) ({ cls := "jdk/internal/util/Preconditions", name := "checkIndex", desc := "(IILjava/util/function/BiFunction;)I" } : Jvm.MethodName)) ∈ gU := tb_3 (List.mem_of_getElem? (i := 170) rfl) rfl
theorem jl_indexOf1_3 : (Jvm.Cond.methodLink "java/lang/String" (633 : Nat) ({ cls := "java/lang/String", name := "indexOf", desc := "(II)I" } : Jvm.MethodName)) ∈ gU := tb_3 (List.mem_of_getElem? (i := 205) rfl) rfl
theorem jl_indexOf2_1 : (Jvm.Cond.methodLink "java/lang/String" (492 : Nat) ({ cls := "java/lang/String", name := "isLatin1", desc := "()Z" } : Jvm.MethodName)) ∈ gU := tb_3 (List.mem_of_getElem? (i := 158) rfl) rfl
theorem jl_indexOf2_8 : (Jvm.Cond.fieldLink "java/lang/String" (9 : Nat) "java/lang/String" "value" "[B") ∈ gU := tb_10 (List.mem_of_getElem? (i := 66) rfl) rfl
theorem jl_indexOf2_14 : (Jvm.Cond.methodLink "java/lang/String" (505 : Nat) ({ cls := "java/lang/String", name := "length", desc := "()I" } : Jvm.MethodName)) ∈ gU := tb_3 (List.mem_of_getElem? (i := 209) rfl) rfl
theorem jl_indexOf2_17 : (Jvm.Cond.methodLink "java/lang/String" (637 : Nat) ({ cls := "java/lang/StringLatin1", name := "indexOf", desc := "([BIII)I" } : Jvm.MethodName)) ∈ gU := tb_3 (List.mem_of_getElem? (i := 210) rfl) rfl
theorem jl_indexOf2_24 : (Jvm.Cond.fieldLink "java/lang/String" (9 : Nat) "java/lang/String" "value" "[B") ∈ gU := tb_10 (List.mem_of_getElem? (i := 66) rfl) rfl
theorem jl_indexOf2_30 : (Jvm.Cond.methodLink "java/lang/String" (505 : Nat) ({ cls := "java/lang/String", name := "length", desc := "()I" } : Jvm.MethodName)) ∈ gU := tb_3 (List.mem_of_getElem? (i := 209) rfl) rfl
theorem jl_indexOf2_33 : (Jvm.Cond.methodLink "java/lang/String" (640 : Nat) ({ cls := "java/lang/StringUTF16", name := "indexOf", desc := "([BIII)I" } : Jvm.MethodName)) ∈ gU := tb_3 (List.mem_of_getElem? (i := 221) rfl) rfl
theorem jl_lindexOf_1 : (Jvm.Cond.methodLink "java/lang/StringLatin1" (88 : Nat) ({ cls := "java/lang/StringLatin1", name := "canEncode", desc := "(I)Z" } : Jvm.MethodName)) ∈ gU := tb_3 (List.mem_of_getElem? (i := 213) rfl) rfl
theorem jl_lindexOf_11 : (Jvm.Cond.methodLink "java/lang/StringLatin1" (92 : Nat) ({ cls := "java/lang/Math", name := "max", desc := "(II)I" } : Jvm.MethodName)) ∈ gU := tb_3 (List.mem_of_getElem? (i := 216) rfl) rfl
theorem jl_lindexOf_18 : (Jvm.Cond.methodLink "java/lang/StringLatin1" (38 : Nat) ({ cls := "java/lang/Math", name := "min", desc := "(II)I" } : Jvm.MethodName)) ∈ gU := tb_3 (List.mem_of_getElem? (i := 217) rfl) rfl
theorem jl_lindexOf_33 : (Jvm.Cond.methodLink "java/lang/StringLatin1" (95 : Nat) ({ cls := "java/lang/StringLatin1", name := "indexOfChar", desc := "([BIII)I" } : Jvm.MethodName)) ∈ gU := tb_3 (List.mem_of_getElem? (i := 218) rfl) rfl
theorem jl_advance_168 : (Jvm.Cond.methodLink "CableStreet$Lexer" (69 : Nat) ({ cls := "java/lang/String", name := "indexOf", desc := "(I)I" } : Jvm.MethodName)) ∈ gU := tb_3 (List.mem_of_getElem? (i := 201) rfl) rfl
theorem jl_wordNumber_11 : (Jvm.Cond.methodLink "CableStreet$Lexer" (79 : Nat) ({ cls := "java/lang/String", name := "length", desc := "()I" } : Jvm.MethodName)) ∈ gU := tb_3 (List.mem_of_getElem? (i := 144) rfl) rfl
theorem jl_wordNumber_21 : (Jvm.Cond.methodLink "CableStreet$Lexer" (82 : Nat) ({ cls := "java/lang/String", name := "charAt", desc := "(I)C" } : Jvm.MethodName)) ∈ gU := tb_3 (List.mem_of_getElem? (i := 154) rfl) rfl
