abbrev b_J_Throwable_init2 : ByteArray := prog_27_method_5_code
def y_J_Throwable_init2 : MethodName := ⟨"java/lang/Throwable", "<init>", "(Ljava/lang/String;Ljava/lang/Throwable;ZZ)V"⟩
abbrev b_J_Exception_init1 : ByteArray := prog_18_method_5_code
def y_J_Exception_init1 : MethodName := ⟨"java/lang/Exception", "<init>", "(Ljava/lang/String;Ljava/lang/Throwable;ZZ)V"⟩
abbrev b_J_RuntimeException_init1 : ByteArray := prog_25_method_5_code
def y_J_RuntimeException_init1 : MethodName := ⟨"java/lang/RuntimeException", "<init>", "(Ljava/lang/String;Ljava/lang/Throwable;ZZ)V"⟩
abbrev b_Rf_init : ByteArray := prog_16_method_1_code
def y_Rf_init : MethodName := ⟨R_Rf, "<init>", "()V"⟩
abbrev b_Mm_init : ByteArray := prog_15_method_1_code
def y_Mm_init : MethodName := ⟨R_Mm, "<init>", "()V"⟩
theorem d_J_Throwable_init2_0 : decode b_J_Throwable_init2 0 = .ok (.aload_n 0, 1) := by decide +kernel
theorem d_J_Throwable_init2_1 : decode b_J_Throwable_init2 1 = .ok (.invokespecial 1, 3) := by decide +kernel
theorem d_J_Throwable_init2_4 : decode b_J_Throwable_init2 4 = .ok (.aload_n 0, 1) := by decide +kernel
theorem d_J_Throwable_init2_5 : decode b_J_Throwable_init2 5 = .ok (.aload_n 0, 1) := by decide +kernel
theorem d_J_Throwable_init2_6 : decode b_J_Throwable_init2 6 = .ok (.putfield 7, 3) := by decide +kernel
theorem d_J_Throwable_init2_9 : decode b_J_Throwable_init2 9 = .ok (.aload_n 0, 1) := by decide +kernel
theorem d_J_Throwable_init2_10 : decode b_J_Throwable_init2 10 = .ok (.getstatic 13, 3) := by decide +kernel
theorem d_J_Throwable_init2_13 : decode b_J_Throwable_init2 13 = .ok (.putfield 17, 3) := by decide +kernel
theorem d_J_Throwable_init2_16 : decode b_J_Throwable_init2 16 = .ok (.aload_n 0, 1) := by decide +kernel
theorem d_J_Throwable_init2_17 : decode b_J_Throwable_init2 17 = .ok (.getstatic 20, 3) := by decide +kernel
theorem d_J_Throwable_init2_20 : decode b_J_Throwable_init2 20 = .ok (.putfield 24, 3) := by decide +kernel
theorem d_J_Throwable_init2_23 : decode b_J_Throwable_init2 23 = .ok (.iload 4, 2) := by decide +kernel
theorem d_J_Throwable_init2_25 : decode b_J_Throwable_init2 25 = .ok (.ifCond .eq 11, 3) := by decide +kernel
theorem d_J_Throwable_init2_36 : decode b_J_Throwable_init2 36 = .ok (.aload_n 0, 1) := by decide +kernel
theorem d_J_Throwable_init2_37 : decode b_J_Throwable_init2 37 = .ok (.aconst_null, 1) := by decide +kernel
theorem d_J_Throwable_init2_38 : decode b_J_Throwable_init2 38 = .ok (.putfield 17, 3) := by decide +kernel
theorem d_J_Throwable_init2_41 : decode b_J_Throwable_init2 41 = .ok (.aload_n 0, 1) := by decide +kernel
theorem d_J_Throwable_init2_42 : decode b_J_Throwable_init2 42 = .ok (.aload_n 1, 1) := by decide +kernel
theorem d_J_Throwable_init2_43 : decode b_J_Throwable_init2 43 = .ok (.putfield 31, 3) := by decide +kernel
theorem d_J_Throwable_init2_46 : decode b_J_Throwable_init2 46 = .ok (.aload_n 0, 1) := by decide +kernel
theorem d_J_Throwable_init2_47 : decode b_J_Throwable_init2 47 = .ok (.aload_n 2, 1) := by decide +kernel
theorem d_J_Throwable_init2_48 : decode b_J_Throwable_init2 48 = .ok (.putfield 7, 3) := by decide +kernel
theorem d_J_Throwable_init2_51 : decode b_J_Throwable_init2 51 = .ok (.iload_n 3, 1) := by decide +kernel
theorem d_J_Throwable_init2_52 : decode b_J_Throwable_init2 52 = .ok (.ifCond .ne 8, 3) := by decide +kernel
theorem d_J_Throwable_init2_55 : decode b_J_Throwable_init2 55 = .ok (.aload_n 0, 1) := by decide +kernel
theorem d_J_Throwable_init2_56 : decode b_J_Throwable_init2 56 = .ok (.aconst_null, 1) := by decide +kernel
theorem d_J_Throwable_init2_57 : decode b_J_Throwable_init2 57 = .ok (.putfield 24, 3) := by decide +kernel
theorem d_J_Throwable_init2_60 : decode b_J_Throwable_init2 60 = .ok (.return_, 1) := by decide +kernel
theorem d_J_Exception_init1_0 : decode b_J_Exception_init1 0 = .ok (.aload_n 0, 1) := by decide +kernel
theorem d_J_Exception_init1_1 : decode b_J_Exception_init1 1 = .ok (.aload_n 1, 1) := by decide +kernel
theorem d_J_Exception_init1_2 : decode b_J_Exception_init1 2 = .ok (.aload_n 2, 1) := by decide +kernel
theorem d_J_Exception_init1_3 : decode b_J_Exception_init1 3 = .ok (.iload_n 3, 1) := by decide +kernel
theorem d_J_Exception_init1_4 : decode b_J_Exception_init1 4 = .ok (.iload 4, 2) := by decide +kernel
theorem d_J_Exception_init1_6 : decode b_J_Exception_init1 6 = .ok (.invokespecial 16, 3) := by decide +kernel
theorem d_J_Exception_init1_9 : decode b_J_Exception_init1 9 = .ok (.return_, 1) := by decide +kernel
theorem d_J_RuntimeException_init1_0 : decode b_J_RuntimeException_init1 0 = .ok (.aload_n 0, 1) := by decide +kernel
theorem d_J_RuntimeException_init1_1 : decode b_J_RuntimeException_init1 1 = .ok (.aload_n 1, 1) := by decide +kernel
theorem d_J_RuntimeException_init1_2 : decode b_J_RuntimeException_init1 2 = .ok (.aload_n 2, 1) := by decide +kernel
theorem d_J_RuntimeException_init1_3 : decode b_J_RuntimeException_init1 3 = .ok (.iload_n 3, 1) := by decide +kernel
theorem d_J_RuntimeException_init1_4 : decode b_J_RuntimeException_init1 4 = .ok (.iload 4, 2) := by decide +kernel
theorem d_J_RuntimeException_init1_6 : decode b_J_RuntimeException_init1 6 = .ok (.invokespecial 16, 3) := by decide +kernel
theorem d_J_RuntimeException_init1_9 : decode b_J_RuntimeException_init1 9 = .ok (.return_, 1) := by decide +kernel
theorem d_Rf_init_0 : decode b_Rf_init 0 = .ok (.aload_n 0, 1) := by decide +kernel
theorem d_Rf_init_1 : decode b_Rf_init 1 = .ok (.aconst_null, 1) := by decide +kernel
theorem d_Rf_init_2 : decode b_Rf_init 2 = .ok (.aconst_null, 1) := by decide +kernel
theorem d_Rf_init_3 : decode b_Rf_init 3 = .ok (.iconst 0, 1) := by decide +kernel
theorem d_Rf_init_4 : decode b_Rf_init 4 = .ok (.iconst 0, 1) := by decide +kernel
theorem d_Rf_init_5 : decode b_Rf_init 5 = .ok (.invokespecial 1, 3) := by decide +kernel
theorem d_Rf_init_8 : decode b_Rf_init 8 = .ok (.return_, 1) := by decide +kernel
theorem d_Mm_init_0 : decode b_Mm_init 0 = .ok (.aload_n 0, 1) := by decide +kernel
theorem d_Mm_init_1 : decode b_Mm_init 1 = .ok (.invokespecial 3, 3) := by decide +kernel
theorem d_Mm_init_4 : decode b_Mm_init 4 = .ok (.aload_n 0, 1) := by decide +kernel
theorem d_Mm_init_5 : decode b_Mm_init 5 = .ok (.sipush 2000, 3) := by decide +kernel
theorem d_Mm_init_8 : decode b_Mm_init 8 = .ok (.newarray .byte, 2) := by decide +kernel
theorem d_Mm_init_10 : decode b_Mm_init 10 = .ok (.putfield 9, 3) := by decide +kernel
theorem d_Mm_init_13 : decode b_Mm_init 13 = .ok (.aload_n 0, 1) := by decide +kernel
theorem d_Mm_init_14 : decode b_Mm_init 14 = .ok (.bipush 20, 2) := by decide +kernel
theorem d_Mm_init_16 : decode b_Mm_init 16 = .ok (.newarray .int, 2) := by decide +kernel
theorem d_Mm_init_18 : decode b_Mm_init 18 = .ok (.putfield 15, 3) := by decide +kernel
theorem d_Mm_init_21 : decode b_Mm_init 21 = .ok (.aload_n 0, 1) := by decide +kernel
theorem d_Mm_init_22 : decode b_Mm_init 22 = .ok (.bipush 20, 2) := by decide +kernel
theorem d_Mm_init_24 : decode b_Mm_init 24 = .ok (.bipush 8, 2) := by decide +kernel
theorem d_Mm_init_26 : decode b_Mm_init 26 = .ok (.multianewarray 19 2, 4) := by decide +kernel
theorem d_Mm_init_30 : decode b_Mm_init 30 = .ok (.putfield 21, 3) := by decide +kernel
theorem d_Mm_init_33 : decode b_Mm_init 33 = .ok (.aload_n 0, 1) := by decide +kernel
theorem d_Mm_init_34 : decode b_Mm_init 34 = .ok (.bipush 20, 2) := by decide +kernel
theorem d_Mm_init_36 : decode b_Mm_init 36 = .ok (.newarray .int, 2) := by decide +kernel
theorem d_Mm_init_38 : decode b_Mm_init 38 = .ok (.putfield 24, 3) := by decide +kernel
theorem d_Mm_init_41 : decode b_Mm_init 41 = .ok (.aload_n 0, 1) := by decide +kernel
theorem d_Mm_init_42 : decode b_Mm_init 42 = .ok (.bipush 30, 2) := by decide +kernel
theorem d_Mm_init_44 : decode b_Mm_init 44 = .ok (.newarray .long, 2) := by decide +kernel
theorem d_Mm_init_46 : decode b_Mm_init 46 = .ok (.putfield 27, 3) := by decide +kernel
theorem d_Mm_init_49 : decode b_Mm_init 49 = .ok (.aload_n 0, 1) := by decide +kernel
theorem d_Mm_init_50 : decode b_Mm_init 50 = .ok (.bipush 30, 2) := by decide +kernel
theorem d_Mm_init_52 : decode b_Mm_init 52 = .ok (.newarray .int, 2) := by decide +kernel
theorem d_Mm_init_54 : decode b_Mm_init 54 = .ok (.putfield 31, 3) := by decide +kernel
theorem d_Mm_init_57 : decode b_Mm_init 57 = .ok (.aload_n 0, 1) := by decide +kernel
theorem d_Mm_init_58 : decode b_Mm_init 58 = .ok (.bipush 30, 2) := by decide +kernel
theorem d_Mm_init_60 : decode b_Mm_init 60 = .ok (.newarray .int, 2) := by decide +kernel
theorem d_Mm_init_62 : decode b_Mm_init 62 = .ok (.putfield 34, 3) := by decide +kernel
theorem d_Mm_init_65 : decode b_Mm_init 65 = .ok (.aload_n 0, 1) := by decide +kernel
theorem d_Mm_init_66 : decode b_Mm_init 66 = .ok (.bipush 30, 2) := by decide +kernel
theorem d_Mm_init_68 : decode b_Mm_init 68 = .ok (.newarray .int, 2) := by decide +kernel
theorem d_Mm_init_70 : decode b_Mm_init 70 = .ok (.putfield 37, 3) := by decide +kernel
theorem d_Mm_init_73 : decode b_Mm_init 73 = .ok (.aload_n 0, 1) := by decide +kernel
theorem d_Mm_init_74 : decode b_Mm_init 74 = .ok (.bipush 30, 2) := by decide +kernel
theorem d_Mm_init_76 : decode b_Mm_init 76 = .ok (.bipush 60, 2) := by decide +kernel
theorem d_Mm_init_78 : decode b_Mm_init 78 = .ok (.multianewarray 19 2, 4) := by decide +kernel
theorem d_Mm_init_82 : decode b_Mm_init 82 = .ok (.putfield 40, 3) := by decide +kernel
theorem d_Mm_init_85 : decode b_Mm_init 85 = .ok (.aload_n 0, 1) := by decide +kernel
theorem d_Mm_init_86 : decode b_Mm_init 86 = .ok (.bipush 20, 2) := by decide +kernel
theorem d_Mm_init_88 : decode b_Mm_init 88 = .ok (.newarray .int, 2) := by decide +kernel
theorem d_Mm_init_90 : decode b_Mm_init 90 = .ok (.putfield 43, 3) := by decide +kernel
theorem d_Mm_init_93 : decode b_Mm_init 93 = .ok (.aload_n 0, 1) := by decide +kernel
theorem d_Mm_init_94 : decode b_Mm_init 94 = .ok (.bipush 20, 2) := by decide +kernel
theorem d_Mm_init_96 : decode b_Mm_init 96 = .ok (.newarray .int, 2) := by decide +kernel
theorem d_Mm_init_98 : decode b_Mm_init 98 = .ok (.putfield 46, 3) := by decide +kernel
theorem d_Mm_init_101 : decode b_Mm_init 101 = .ok (.aload_n 0, 1) := by decide +kernel
theorem d_Mm_init_102 : decode b_Mm_init 102 = .ok (.bipush 20, 2) := by decide +kernel
theorem d_Mm_init_104 : decode b_Mm_init 104 = .ok (.newarray .boolean, 2) := by decide +kernel
theorem d_Mm_init_106 : decode b_Mm_init 106 = .ok (.putfield 49, 3) := by decide +kernel
theorem d_Mm_init_109 : decode b_Mm_init 109 = .ok (.aload_n 0, 1) := by decide +kernel
theorem d_Mm_init_110 : decode b_Mm_init 110 = .ok (.bipush 20, 2) := by decide +kernel
theorem d_Mm_init_112 : decode b_Mm_init 112 = .ok (.newarray .long, 2) := by decide +kernel
theorem d_Mm_init_114 : decode b_Mm_init 114 = .ok (.putfield 53, 3) := by decide +kernel
theorem d_Mm_init_117 : decode b_Mm_init 117 = .ok (.aload_n 0, 1) := by decide +kernel
theorem d_Mm_init_118 : decode b_Mm_init 118 = .ok (.bipush 40, 2) := by decide +kernel
theorem d_Mm_init_120 : decode b_Mm_init 120 = .ok (.newarray .int, 2) := by decide +kernel
theorem d_Mm_init_122 : decode b_Mm_init 122 = .ok (.putfield 56, 3) := by decide +kernel
theorem d_Mm_init_125 : decode b_Mm_init 125 = .ok (.aload_n 0, 1) := by decide +kernel
theorem d_Mm_init_126 : decode b_Mm_init 126 = .ok (.bipush 40, 2) := by decide +kernel
theorem d_Mm_init_128 : decode b_Mm_init 128 = .ok (.newarray .long, 2) := by decide +kernel
theorem d_Mm_init_130 : decode b_Mm_init 130 = .ok (.putfield 59, 3) := by decide +kernel
theorem d_Mm_init_133 : decode b_Mm_init 133 = .ok (.aload_n 0, 1) := by decide +kernel
theorem d_Mm_init_134 : decode b_Mm_init 134 = .ok (.bipush 40, 2) := by decide +kernel
theorem d_Mm_init_136 : decode b_Mm_init 136 = .ok (.newarray .int, 2) := by decide +kernel
theorem d_Mm_init_138 : decode b_Mm_init 138 = .ok (.putfield 62, 3) := by decide +kernel
theorem d_Mm_init_141 : decode b_Mm_init 141 = .ok (.aload_n 0, 1) := by decide +kernel
theorem d_Mm_init_142 : decode b_Mm_init 142 = .ok (.bipush 40, 2) := by decide +kernel
theorem d_Mm_init_144 : decode b_Mm_init 144 = .ok (.newarray .int, 2) := by decide +kernel
theorem d_Mm_init_146 : decode b_Mm_init 146 = .ok (.putfield 65, 3) := by decide +kernel
theorem d_Mm_init_149 : decode b_Mm_init 149 = .ok (.aload_n 0, 1) := by decide +kernel
theorem d_Mm_init_150 : decode b_Mm_init 150 = .ok (.sipush 2000, 3) := by decide +kernel
theorem d_Mm_init_153 : decode b_Mm_init 153 = .ok (.newarray .int, 2) := by decide +kernel
theorem d_Mm_init_155 : decode b_Mm_init 155 = .ok (.putfield 68, 3) := by decide +kernel
theorem d_Mm_init_158 : decode b_Mm_init 158 = .ok (.aload_n 0, 1) := by decide +kernel
theorem d_Mm_init_159 : decode b_Mm_init 159 = .ok (.sipush 2000, 3) := by decide +kernel
theorem d_Mm_init_162 : decode b_Mm_init 162 = .ok (.newarray .int, 2) := by decide +kernel
theorem d_Mm_init_164 : decode b_Mm_init 164 = .ok (.putfield 71, 3) := by decide +kernel
theorem d_Mm_init_167 : decode b_Mm_init 167 = .ok (.return_, 1) := by decide +kernel
theorem m_497 : Cond.methodLink "java/lang/Throwable" 1 objectInit ∈ lw_good := lw_in (List.mem_append_right _ (List.mem_of_getElem? (i := 497) (by decide +kernel))) (by decide +kernel)
theorem m_531 : Cond.fieldLink "java/lang/Throwable" 7 "java/lang/Throwable" "cause" "Ljava/lang/Throwable;" ∈ lw_good := lw_in (List.mem_append_right _ (List.mem_of_getElem? (i := 531) (by decide +kernel))) (by decide +kernel)
theorem m_498 : Cond.fieldLink "java/lang/Throwable" 13 "java/lang/Throwable" "UNASSIGNED_STACK" "[Ljava/lang/StackTraceElement;" ∈ lw_good := lw_in (List.mem_append_right _ (List.mem_of_getElem? (i := 498) (by decide +kernel))) (by decide +kernel)
theorem m_532 : Cond.fieldLink "java/lang/Throwable" 17 "java/lang/Throwable" "stackTrace" "[Ljava/lang/StackTraceElement;" ∈ lw_good := lw_in (List.mem_append_right _ (List.mem_of_getElem? (i := 532) (by decide +kernel))) (by decide +kernel)
theorem m_500 : Cond.fieldLink "java/lang/Throwable" 20 "java/lang/Throwable" "SUPPRESSED_SENTINEL" "Ljava/util/List;" ∈ lw_good := lw_in (List.mem_append_right _ (List.mem_of_getElem? (i := 500) (by decide +kernel))) (by decide +kernel)
theorem m_533 : Cond.fieldLink "java/lang/Throwable" 24 "java/lang/Throwable" "suppressedExceptions" "Ljava/util/List;" ∈ lw_good := lw_in (List.mem_append_right _ (List.mem_of_getElem? (i := 533) (by decide +kernel))) (by decide +kernel)
theorem m_530 : Cond.fieldLink "java/lang/Throwable" 31 "java/lang/Throwable" "detailMessage" "Ljava/lang/String;" ∈ lw_good := lw_in (List.mem_append_right _ (List.mem_of_getElem? (i := 530) (by decide +kernel))) (by decide +kernel)
theorem m_1150 : Cond.code y_J_Throwable_init2 b_J_Throwable_init2 5 none ∈ lw_good := lw_in (List.mem_append_right _ (List.mem_of_getElem? (i := 1150) (by decide +kernel))) (by decide +kernel)
theorem m_1148 : Cond.methodLink "java/lang/Exception" 16 y_J_Throwable_init2 ∈ lw_good := lw_in (List.mem_append_right _ (List.mem_of_getElem? (i := 1148) (by decide +kernel))) (by decide +kernel)
theorem m_12 : Cond.initialized "java/lang/Throwable" ∈ lw_good := lw_in (List.mem_append_right _ (List.mem_of_getElem? (i := 12) (by decide +kernel))) (by decide +kernel)
theorem m_1149 : Cond.instanceMethod y_J_Throwable_init2 ∈ lw_good := lw_in (List.mem_append_right _ (List.mem_of_getElem? (i := 1149) (by decide +kernel))) (by decide +kernel)
theorem m_1147 : Cond.code y_J_Exception_init1 b_J_Exception_init1 5 none ∈ lw_good := lw_in (List.mem_append_right _ (List.mem_of_getElem? (i := 1147) (by decide +kernel))) (by decide +kernel)
theorem m_1145 : Cond.methodLink "java/lang/RuntimeException" 16 y_J_Exception_init1 ∈ lw_good := lw_in (List.mem_append_right _ (List.mem_of_getElem? (i := 1145) (by decide +kernel))) (by decide +kernel)
theorem m_13 : Cond.initialized "java/lang/Exception" ∈ lw_good := lw_in (List.mem_append_right _ (List.mem_of_getElem? (i := 13) (by decide +kernel))) (by decide +kernel)
theorem m_1146 : Cond.instanceMethod y_J_Exception_init1 ∈ lw_good := lw_in (List.mem_append_right _ (List.mem_of_getElem? (i := 1146) (by decide +kernel))) (by decide +kernel)
theorem m_1144 : Cond.code y_J_RuntimeException_init1 b_J_RuntimeException_init1 5 none ∈ lw_good := lw_in (List.mem_append_right _ (List.mem_of_getElem? (i := 1144) (by decide +kernel))) (by decide +kernel)
theorem m_1142 : Cond.methodLink R_Rf 1 y_J_RuntimeException_init1 ∈ lw_good := lw_in (List.mem_append_right _ (List.mem_of_getElem? (i := 1142) (by decide +kernel))) (by decide +kernel)
theorem m_14 : Cond.initialized "java/lang/RuntimeException" ∈ lw_good := lw_in (List.mem_append_right _ (List.mem_of_getElem? (i := 14) (by decide +kernel))) (by decide +kernel)
theorem m_1143 : Cond.instanceMethod y_J_RuntimeException_init1 ∈ lw_good := lw_in (List.mem_append_right _ (List.mem_of_getElem? (i := 1143) (by decide +kernel))) (by decide +kernel)
theorem m_1161 : Cond.methodLink R_Mm 3 objectInit ∈ lw_good := lw_in (List.mem_append_right _ (List.mem_of_getElem? (i := 1161) (by decide +kernel))) (by decide +kernel)
theorem m_1164 : Cond.fieldLink R_Mm 9 "WaferRunnerModel$Module" "bytes" "[B" ∈ lw_good := lw_in (List.mem_append_right _ (List.mem_of_getElem? (i := 1164) (by decide +kernel))) (by decide +kernel)
theorem m_1168 : Cond.fieldLink R_Mm 15 "WaferRunnerModel$Module" "parameterCount" "[I" ∈ lw_good := lw_in (List.mem_append_right _ (List.mem_of_getElem? (i := 1168) (by decide +kernel))) (by decide +kernel)
theorem m_1162 : Cond.classLink R_Mm 19 "[[I" ∈ lw_good := lw_in (List.mem_append_right _ (List.mem_of_getElem? (i := 1162) (by decide +kernel))) (by decide +kernel)
theorem m_1170 : Cond.fieldLink R_Mm 21 "WaferRunnerModel$Module" "parameterTypes" "[[I" ∈ lw_good := lw_in (List.mem_append_right _ (List.mem_of_getElem? (i := 1170) (by decide +kernel))) (by decide +kernel)
theorem m_1172 : Cond.fieldLink R_Mm 24 "WaferRunnerModel$Module" "results" "[I" ∈ lw_good := lw_in (List.mem_append_right _ (List.mem_of_getElem? (i := 1172) (by decide +kernel))) (by decide +kernel)
theorem m_1175 : Cond.fieldLink R_Mm 27 "WaferRunnerModel$Module" "typeOf" "[J" ∈ lw_good := lw_in (List.mem_append_right _ (List.mem_of_getElem? (i := 1175) (by decide +kernel))) (by decide +kernel)
theorem m_1178 : Cond.fieldLink R_Mm 31 "WaferRunnerModel$Module" "codeAt" "[I" ∈ lw_good := lw_in (List.mem_append_right _ (List.mem_of_getElem? (i := 1178) (by decide +kernel))) (by decide +kernel)
theorem m_1180 : Cond.fieldLink R_Mm 34 "WaferRunnerModel$Module" "codeEnd" "[I" ∈ lw_good := lw_in (List.mem_append_right _ (List.mem_of_getElem? (i := 1180) (by decide +kernel))) (by decide +kernel)
theorem m_1182 : Cond.fieldLink R_Mm 37 "WaferRunnerModel$Module" "localCount" "[I" ∈ lw_good := lw_in (List.mem_append_right _ (List.mem_of_getElem? (i := 1182) (by decide +kernel))) (by decide +kernel)
theorem m_1184 : Cond.fieldLink R_Mm 40 "WaferRunnerModel$Module" "localTypes" "[[I" ∈ lw_good := lw_in (List.mem_append_right _ (List.mem_of_getElem? (i := 1184) (by decide +kernel))) (by decide +kernel)
theorem m_1191 : Cond.fieldLink R_Mm 43 "WaferRunnerModel$Module" "globalTypes" "[I" ∈ lw_good := lw_in (List.mem_append_right _ (List.mem_of_getElem? (i := 1191) (by decide +kernel))) (by decide +kernel)
theorem m_1193 : Cond.fieldLink R_Mm 46 "WaferRunnerModel$Module" "globalKinds" "[I" ∈ lw_good := lw_in (List.mem_append_right _ (List.mem_of_getElem? (i := 1193) (by decide +kernel))) (by decide +kernel)
theorem m_1195 : Cond.fieldLink R_Mm 49 "WaferRunnerModel$Module" "changes" "[Z" ∈ lw_good := lw_in (List.mem_append_right _ (List.mem_of_getElem? (i := 1195) (by decide +kernel))) (by decide +kernel)
theorem m_1197 : Cond.fieldLink R_Mm 53 "WaferRunnerModel$Module" "starts" "[J" ∈ lw_good := lw_in (List.mem_append_right _ (List.mem_of_getElem? (i := 1197) (by decide +kernel))) (by decide +kernel)
theorem m_1200 : Cond.fieldLink R_Mm 56 "WaferRunnerModel$Module" "exportKinds" "[I" ∈ lw_good := lw_in (List.mem_append_right _ (List.mem_of_getElem? (i := 1200) (by decide +kernel))) (by decide +kernel)
theorem m_1202 : Cond.fieldLink R_Mm 59 "WaferRunnerModel$Module" "exportOf" "[J" ∈ lw_good := lw_in (List.mem_append_right _ (List.mem_of_getElem? (i := 1202) (by decide +kernel))) (by decide +kernel)
theorem m_1204 : Cond.fieldLink R_Mm 62 "WaferRunnerModel$Module" "nameAt" "[I" ∈ lw_good := lw_in (List.mem_append_right _ (List.mem_of_getElem? (i := 1204) (by decide +kernel))) (by decide +kernel)
theorem m_1206 : Cond.fieldLink R_Mm 65 "WaferRunnerModel$Module" "nameLength" "[I" ∈ lw_good := lw_in (List.mem_append_right _ (List.mem_of_getElem? (i := 1206) (by decide +kernel))) (by decide +kernel)
theorem m_1208 : Cond.fieldLink R_Mm 68 "WaferRunnerModel$Module" "endOf" "[I" ∈ lw_good := lw_in (List.mem_append_right _ (List.mem_of_getElem? (i := 1208) (by decide +kernel))) (by decide +kernel)
theorem m_1210 : Cond.fieldLink R_Mm 71 "WaferRunnerModel$Module" "elseOf" "[I" ∈ lw_good := lw_in (List.mem_append_right _ (List.mem_of_getElem? (i := 1210) (by decide +kernel))) (by decide +kernel)
set_option maxHeartbeats 8000000 in
set_option maxRecDepth 100000 in
theorem c_J_Throwable_init2 (l : Launch) (htr : l.stackTraces = false) (G : va_G) (cB cI cJ cZ : ClassId) (rf : Nat) (rr : Int32) (sz : Nat) : MetX l y_J_Throwable_init2 (wx y_J_Throwable_init2 b_J_Throwable_init2 5 none) { frames := 1, cells := 0, slots := 0, locals := 12 } (XP G classes (xtys cB cI cJ cZ) xE [.ref rf, .null, .null, .int 0, .int 0] [(rf, .inr (12, [.null, .null, .null, .null, .int 0, .null, .int rr]))] sz) (XQ G classes (va_A [(rf, .inr (12, [.null, .null, .null, .null, .int 0, .null, .int rr]))] sz) (fun o w1 => o = .returned none ∧ w1 = [(rf, .inr (12, [.null, .null, .null, .null, .int 0, .null, .int rr]))])) 0 0 (va_A [(rf, .inr (12, [.null, .null, .null, .null, .int 0, .null, .int rr]))] sz) := by
  refine ex_ofW (cc := b_J_Throwable_init2) (maxL := 5) (ret := none) (by decide) rfl ?_
  intro p e s m args below meth c s₁ B hml hno hv
  obtain ⟨rfl, hsz, hP, hK, hD0, hE⟩ := hv
  have hx := B.exec
  have hb := B.bytes
  have hr := B.returns
  have hts : ∀ w ∈ lw_good, w.before _ s = true := fun w h => atoms_spec (ws := wx y_J_Throwable_init2 b_J_Throwable_init2 5 none) B.pre w (List.mem_cons_of_mem _ h)
  have hown : s.vm.findClass "java/lang/Throwable" = some m.cls := findClass_of_methodNamed B.named
  have hlocks := B.notSynchronized
  have htr9 : e.platform.stackTraces = false := by rw [B.admits.platform]; exact htr
  have hin : meth.name = "<init>" := (name_of_methodNamed B.named B.method).1
  subst hsz
  have hNS := xx_nostat hP
  have hD := hD0.self (sz := s.heap.size)
  generalize hAe : va_A [(rf, .inr (12, [.null, .null, .null, .null, .int 0, .null, .int rr]))] s.heap.size = A at hD hE hNS ⊢
  have hA : ∀ q : Nat, s.heap.size ≤ q → A q := fun q h => by rw [← hAe]; exact Or.inr h
  have hS : va_S A s.heap s.heap [] := va_S.rf
  have hl := lv_entry ([.ref rf, .null, .null, .int 0, .int 0]) (n := 5) (Nat.le_of_ble_eq_true rfl)
  rw [lg_entry_eq]
  generalize (lg_sl ([.ref rf, .null, .null, .int 0, .int 0]) ++ List.replicate (5 - (lg_sl ([.ref rf, .null, .null, .int 0, .int 0])).length) Slot.unset).toArray = ls at hl ⊢
  have hl : lv_has ls 5 [(0, .ref rf), (1, .null), (2, .null), (3, .int 0), (4, .int 0)] := hl
  refine lv_aload_n hx hb d_J_Throwable_init2_0 rfl (lv_at hl 0 rfl) ?_
  refine W.objInit hx hb hown (hts _ m_497) (hts _ m_34) (hts _ m_35) rfl (by rw [hml]; exact hl.1) rfl d_J_Throwable_init2_1 (Nat.le_of_ble_eq_true rfl) (Nat.le_of_ble_eq_true rfl) ?_
  refine W.eq (g2 := F0 m 4 ls []) rfl ?_
  refine lv_aload_n hx hb d_J_Throwable_init2_4 rfl (lv_at hl 0 rfl) ?_
  refine lv_aload_n hx hb d_J_Throwable_init2_5 rfl (lv_at hl 0 rfl) ?_
  refine va_put (D := G) (ci := 12) (v := .ref rf) (ty := .object "java/lang/Throwable") (C := R_Rf) (T := F_Rf) (N := 7) hx hb hts i_Rf t_Rf t_Rf_ok n_Rf hown hK hP hD hS 0 rfl rfl 2 (by decide) (hts _ m_531) (fun _ h9 => h9) rfl (by decide +kernel) rfl rfl (Nat.le_of_ble_eq_true rfl) d_J_Throwable_init2_6 (fun H locs hP hD hS => ?_)
  have hP : va_P G classes [(rf, .inr (12, [.null, .null, .ref rf, .null, .int 0, .null, .int rr]))] H := hP
  have hD : va_D A [(rf, .inr (12, [.null, .null, .ref rf, .null, .int 0, .null, .int rr]))] := hD
  refine lv_aload_n hx hb d_J_Throwable_init2_9 rfl (lv_at hl 0 rfl) ?_
  obtain ⟨vU, hvU, hZvU⟩ := hE.2.2.2.1.1
  refine va_gets hx hb hZvU hS hown (hts _ m_498) (fun _ h9 => h9) d_J_Throwable_init2_10 ?_
  refine va_put (D := G) (ci := 12) (v := vU) (ty := .array (.object "java/lang/StackTraceElement")) (C := R_Rf) (T := F_Rf) (N := 7) hx hb hts i_Rf t_Rf t_Rf_ok n_Rf hown hK hP hD hS 0 rfl rfl 3 (by decide) (hts _ m_532) (fun _ h9 => h9) rfl (by decide +kernel) (xx_narA hvU _) (xx_fitA hvU _) (Nat.le_of_ble_eq_true rfl) d_J_Throwable_init2_13 (fun H locs hP hD hS => ?_)
  have hP : va_P G classes [(rf, .inr (12, [.null, .null, .ref rf, vU, .int 0, .null, .int rr]))] H := hP
  have hD : va_D A [(rf, .inr (12, [.null, .null, .ref rf, vU, .int 0, .null, .int rr]))] := hD
  refine lv_aload_n hx hb d_J_Throwable_init2_16 rfl (lv_at hl 0 rfl) ?_
  obtain ⟨vS, hvS, hZvS⟩ := hE.2.2.2.2.1.1
  refine va_gets hx hb hZvS hS hown (hts _ m_500) (fun _ h9 => h9) d_J_Throwable_init2_17 ?_
  refine va_put (D := G) (ci := 12) (v := vS) (ty := .object "java/util/List") (C := R_Rf) (T := F_Rf) (N := 7) hx hb hts i_Rf t_Rf t_Rf_ok n_Rf hown hK hP hD hS 0 rfl rfl 5 (by decide) (hts _ m_533) (fun _ h9 => h9) rfl (by decide +kernel) (xx_narO hvS _) (xx_fitO hvS _) (Nat.le_of_ble_eq_true rfl) d_J_Throwable_init2_20 (fun H locs hP hD hS => ?_)
  have hP : va_P G classes [(rf, .inr (12, [.null, .null, .ref rf, vU, .int 0, vS, .int rr]))] H := hP
  have hD : va_D A [(rf, .inr (12, [.null, .null, .ref rf, vU, .int 0, vS, .int rr]))] := hD
  refine lv_iload hx hb d_J_Throwable_init2_23 (lv_at hl 4 rfl) ?_
  refine lv_if_eq (tgt := 36) hx hb d_J_Throwable_init2_25 (by decide) (fun c_1 => ?_) (fun c_1 => absurd c_1 (by decide))
  refine lv_aload_n hx hb d_J_Throwable_init2_36 rfl (lv_at hl 0 rfl) ?_
  refine lv_null hx hb d_J_Throwable_init2_37 ?_
  refine va_put (D := G) (ci := 12) (v := .null) (ty := .array (.object "java/lang/StackTraceElement")) (C := R_Rf) (T := F_Rf) (N := 7) hx hb hts i_Rf t_Rf t_Rf_ok n_Rf hown hK hP hD hS 0 rfl rfl 3 (by decide) (hts _ m_532) (fun _ h9 => h9) rfl (by decide +kernel) rfl rfl (Nat.le_of_ble_eq_true rfl) d_J_Throwable_init2_38 (fun H locs hP hD hS => ?_)
  have hP : va_P G classes [(rf, .inr (12, [.null, .null, .ref rf, .null, .int 0, vS, .int rr]))] H := hP
  have hD : va_D A [(rf, .inr (12, [.null, .null, .ref rf, .null, .int 0, vS, .int rr]))] := hD
  refine lv_aload_n hx hb d_J_Throwable_init2_41 rfl (lv_at hl 0 rfl) ?_
  refine lv_aload_nN hx hb d_J_Throwable_init2_42 rfl (lv_at hl 1 rfl) ?_
  refine va_put (D := G) (ci := 12) (v := .null) (ty := .object "java/lang/String") (C := R_Rf) (T := F_Rf) (N := 7) hx hb hts i_Rf t_Rf t_Rf_ok n_Rf hown hK hP hD hS 0 rfl rfl 1 (by decide) (hts _ m_530) (fun _ h9 => h9) rfl (by decide +kernel) rfl rfl (Nat.le_of_ble_eq_true rfl) d_J_Throwable_init2_43 (fun H locs hP hD hS => ?_)
  have hP : va_P G classes [(rf, .inr (12, [.null, .null, .ref rf, .null, .int 0, vS, .int rr]))] H := hP
  have hD : va_D A [(rf, .inr (12, [.null, .null, .ref rf, .null, .int 0, vS, .int rr]))] := hD
  refine lv_aload_n hx hb d_J_Throwable_init2_46 rfl (lv_at hl 0 rfl) ?_
  refine lv_aload_nN hx hb d_J_Throwable_init2_47 rfl (lv_at hl 2 rfl) ?_
  refine va_put (D := G) (ci := 12) (v := .null) (ty := .object "java/lang/Throwable") (C := R_Rf) (T := F_Rf) (N := 7) hx hb hts i_Rf t_Rf t_Rf_ok n_Rf hown hK hP hD hS 0 rfl rfl 2 (by decide) (hts _ m_531) (fun _ h9 => h9) rfl (by decide +kernel) rfl rfl (Nat.le_of_ble_eq_true rfl) d_J_Throwable_init2_48 (fun H locs hP hD hS => ?_)
  have hP : va_P G classes [(rf, .inr (12, [.null, .null, .null, .null, .int 0, vS, .int rr]))] H := hP
  have hD : va_D A [(rf, .inr (12, [.null, .null, .null, .null, .int 0, vS, .int rr]))] := hD
  refine lv_iload_n hx hb d_J_Throwable_init2_51 rfl (lv_at hl 3 rfl) ?_
  refine lv_if_ne (tgt := 60) hx hb d_J_Throwable_init2_52 (by decide) (fun c_2 => absurd c_2 (by decide)) (fun c_2 => ?_)
  refine lv_aload_n hx hb d_J_Throwable_init2_55 rfl (lv_at hl 0 rfl) ?_
  refine lv_null hx hb d_J_Throwable_init2_56 ?_
  refine va_put (D := G) (ci := 12) (v := .null) (ty := .object "java/util/List") (C := R_Rf) (T := F_Rf) (N := 7) hx hb hts i_Rf t_Rf t_Rf_ok n_Rf hown hK hP hD hS 0 rfl rfl 5 (by decide) (hts _ m_533) (fun _ h9 => h9) rfl (by decide +kernel) rfl rfl (Nat.le_of_ble_eq_true rfl) d_J_Throwable_init2_57 (fun H locs hP hD hS => ?_)
  have hP : va_P G classes [(rf, .inr (12, [.null, .null, .null, .null, .int 0, .null, .int rr]))] H := hP
  have hD : va_D A [(rf, .inr (12, [.null, .null, .null, .null, .int 0, .null, .int rr]))] := hD
  exact ex_W (fun _ h => ex_mq h) (W.vret hx hb hr (fun t ht hW => ⟨⟨_, ⟨rfl, rfl⟩, by rw [ht]; exact hP, hD⟩, hS.F ht⟩) hS.2.2 d_J_Throwable_init2_60)
set_option maxHeartbeats 8000000 in
set_option maxRecDepth 100000 in
theorem c_J_Exception_init1 (l : Launch) (htr : l.stackTraces = false) (G : va_G) (cB cI cJ cZ : ClassId) (rf : Nat) (rr : Int32) (sz : Nat) : MetX l y_J_Exception_init1 (wx y_J_Exception_init1 b_J_Exception_init1 5 none) { frames := 2, cells := 0, slots := 0, locals := 36 } (XP G classes (xtys cB cI cJ cZ) xE [.ref rf, .null, .null, .int 0, .int 0] [(rf, .inr (12, [.null, .null, .null, .null, .int 0, .null, .int rr]))] sz) (XQ G classes (va_A [(rf, .inr (12, [.null, .null, .null, .null, .int 0, .null, .int rr]))] sz) (fun o w1 => o = .returned none ∧ w1 = [(rf, .inr (12, [.null, .null, .null, .null, .int 0, .null, .int rr]))])) 0 0 (va_A [(rf, .inr (12, [.null, .null, .null, .null, .int 0, .null, .int rr]))] sz) := by
  refine ex_ofW (cc := b_J_Exception_init1) (maxL := 5) (ret := none) (by decide) rfl ?_
  intro p e s m args below meth c s₁ B hml hno hv
  obtain ⟨rfl, hsz, hP, hK, hD0, hE⟩ := hv
  have hx := B.exec
  have hb := B.bytes
  have hr := B.returns
  have hts : ∀ w ∈ lw_good, w.before _ s = true := fun w h => atoms_spec (ws := wx y_J_Exception_init1 b_J_Exception_init1 5 none) B.pre w (List.mem_cons_of_mem _ h)
  have hown : s.vm.findClass "java/lang/Exception" = some m.cls := findClass_of_methodNamed B.named
  have hlocks := B.notSynchronized
  have htr9 : e.platform.stackTraces = false := by rw [B.admits.platform]; exact htr
  have hin : meth.name = "<init>" := (name_of_methodNamed B.named B.method).1
  subst hsz
  have hNS := xx_nostat hP
  have hD := hD0.self (sz := s.heap.size)
  generalize hAe : va_A [(rf, .inr (12, [.null, .null, .null, .null, .int 0, .null, .int rr]))] s.heap.size = A at hD hE hNS ⊢
  have hA : ∀ q : Nat, s.heap.size ≤ q → A q := fun q h => by rw [← hAe]; exact Or.inr h
  have hS : va_S A s.heap s.heap [] := va_S.rf
  have hl := lv_entry ([.ref rf, .null, .null, .int 0, .int 0]) (n := 5) (Nat.le_of_ble_eq_true rfl)
  rw [lg_entry_eq]
  generalize (lg_sl ([.ref rf, .null, .null, .int 0, .int 0]) ++ List.replicate (5 - (lg_sl ([.ref rf, .null, .null, .int 0, .int 0])).length) Slot.unset).toArray = ls at hl ⊢
  have hl : lv_has ls 5 [(0, .ref rf), (1, .null), (2, .null), (3, .int 0), (4, .int 0)] := hl
  refine lv_aload_n hx hb d_J_Exception_init1_0 rfl (lv_at hl 0 rfl) ?_
  refine lv_aload_nN hx hb d_J_Exception_init1_1 rfl (lv_at hl 1 rfl) ?_
  refine lv_aload_nN hx hb d_J_Exception_init1_2 rfl (lv_at hl 2 rfl) ?_
  refine lv_iload_n hx hb d_J_Exception_init1_3 rfl (lv_at hl 3 rfl) ?_
  refine lv_iload hx hb d_J_Exception_init1_4 (lv_at hl 4 rfl) ?_
  refine xx_callI (wc := [(rf, .inr (12, [.null, .null, .null, .null, .int 0, .null, .int rr]))]) (wr := []) (As := [.null, .null, .int 0, .int 0]) (rest := []) ⟨hx, hb, hml, hown, hts⟩ xE_st hK hE hA (c_J_Throwable_init2 l htr G cB cI cJ cZ rf rr _) (xw_I 4 hts m_1148 m_1149 m_12 m_1150 rfl (by decide +kernel) ⟨(Nat.le_of_ble_eq_true rfl), (Nat.le_of_ble_eq_true rfl)⟩) hP hD hS [0] [] rfl rfl (by decide) (by decide) (by decide) rfl hl.1 rfl (Nat.le_of_ble_eq_true rfl) d_J_Exception_init1_6 ⟨(Nat.le_of_ble_eq_true rfl), (Nat.le_of_ble_eq_true rfl)⟩ (fun v9 w9 H locs hp hP hD hS => ?_) (fun x9 w9 H9 l9 hp _ _ _ => absurd hp (by rintro ⟨ho, -⟩; cases ho))
  obtain ⟨ho, rfl⟩ := hp
  cases ho
  have hP : va_P G classes [(rf, .inr (12, [.null, .null, .null, .null, .int 0, .null, .int rr]))] H := hP
  have hD : va_D A [(rf, .inr (12, [.null, .null, .null, .null, .int 0, .null, .int rr]))] := hD
  exact ex_W (fun _ h => ex_mq h) (W.vret hx hb hr (fun t ht hW => ⟨⟨_, ⟨rfl, rfl⟩, by rw [ht]; exact hP, hD⟩, hS.F ht⟩) hS.2.2 d_J_Exception_init1_9)
set_option maxHeartbeats 8000000 in
set_option maxRecDepth 100000 in
theorem c_J_RuntimeException_init1 (l : Launch) (htr : l.stackTraces = false) (G : va_G) (cB cI cJ cZ : ClassId) (rf : Nat) (rr : Int32) (sz : Nat) : MetX l y_J_RuntimeException_init1 (wx y_J_RuntimeException_init1 b_J_RuntimeException_init1 5 none) { frames := 3, cells := 0, slots := 0, locals := 60 } (XP G classes (xtys cB cI cJ cZ) xE [.ref rf, .null, .null, .int 0, .int 0] [(rf, .inr (12, [.null, .null, .null, .null, .int 0, .null, .int rr]))] sz) (XQ G classes (va_A [(rf, .inr (12, [.null, .null, .null, .null, .int 0, .null, .int rr]))] sz) (fun o w1 => o = .returned none ∧ w1 = [(rf, .inr (12, [.null, .null, .null, .null, .int 0, .null, .int rr]))])) 0 0 (va_A [(rf, .inr (12, [.null, .null, .null, .null, .int 0, .null, .int rr]))] sz) := by
  refine ex_ofW (cc := b_J_RuntimeException_init1) (maxL := 5) (ret := none) (by decide) rfl ?_
  intro p e s m args below meth c s₁ B hml hno hv
  obtain ⟨rfl, hsz, hP, hK, hD0, hE⟩ := hv
  have hx := B.exec
  have hb := B.bytes
  have hr := B.returns
  have hts : ∀ w ∈ lw_good, w.before _ s = true := fun w h => atoms_spec (ws := wx y_J_RuntimeException_init1 b_J_RuntimeException_init1 5 none) B.pre w (List.mem_cons_of_mem _ h)
  have hown : s.vm.findClass "java/lang/RuntimeException" = some m.cls := findClass_of_methodNamed B.named
  have hlocks := B.notSynchronized
  have htr9 : e.platform.stackTraces = false := by rw [B.admits.platform]; exact htr
  have hin : meth.name = "<init>" := (name_of_methodNamed B.named B.method).1
  subst hsz
  have hNS := xx_nostat hP
  have hD := hD0.self (sz := s.heap.size)
  generalize hAe : va_A [(rf, .inr (12, [.null, .null, .null, .null, .int 0, .null, .int rr]))] s.heap.size = A at hD hE hNS ⊢
  have hA : ∀ q : Nat, s.heap.size ≤ q → A q := fun q h => by rw [← hAe]; exact Or.inr h
  have hS : va_S A s.heap s.heap [] := va_S.rf
  have hl := lv_entry ([.ref rf, .null, .null, .int 0, .int 0]) (n := 5) (Nat.le_of_ble_eq_true rfl)
  rw [lg_entry_eq]
  generalize (lg_sl ([.ref rf, .null, .null, .int 0, .int 0]) ++ List.replicate (5 - (lg_sl ([.ref rf, .null, .null, .int 0, .int 0])).length) Slot.unset).toArray = ls at hl ⊢
  have hl : lv_has ls 5 [(0, .ref rf), (1, .null), (2, .null), (3, .int 0), (4, .int 0)] := hl
  refine lv_aload_n hx hb d_J_RuntimeException_init1_0 rfl (lv_at hl 0 rfl) ?_
  refine lv_aload_nN hx hb d_J_RuntimeException_init1_1 rfl (lv_at hl 1 rfl) ?_
  refine lv_aload_nN hx hb d_J_RuntimeException_init1_2 rfl (lv_at hl 2 rfl) ?_
  refine lv_iload_n hx hb d_J_RuntimeException_init1_3 rfl (lv_at hl 3 rfl) ?_
  refine lv_iload hx hb d_J_RuntimeException_init1_4 (lv_at hl 4 rfl) ?_
  refine xx_callI (wc := [(rf, .inr (12, [.null, .null, .null, .null, .int 0, .null, .int rr]))]) (wr := []) (As := [.null, .null, .int 0, .int 0]) (rest := []) ⟨hx, hb, hml, hown, hts⟩ xE_st hK hE hA (c_J_Exception_init1 l htr G cB cI cJ cZ rf rr _) (xw_I 4 hts m_1145 m_1146 m_13 m_1147 rfl (by decide +kernel) ⟨(Nat.le_of_ble_eq_true rfl), (Nat.le_of_ble_eq_true rfl)⟩) hP hD hS [0] [] rfl rfl (by decide) (by decide) (by decide) rfl hl.1 rfl (Nat.le_of_ble_eq_true rfl) d_J_RuntimeException_init1_6 ⟨(Nat.le_of_ble_eq_true rfl), (Nat.le_of_ble_eq_true rfl)⟩ (fun v9 w9 H locs hp hP hD hS => ?_) (fun x9 w9 H9 l9 hp _ _ _ => absurd hp (by rintro ⟨ho, -⟩; cases ho))
  obtain ⟨ho, rfl⟩ := hp
  cases ho
  have hP : va_P G classes [(rf, .inr (12, [.null, .null, .null, .null, .int 0, .null, .int rr]))] H := hP
  have hD : va_D A [(rf, .inr (12, [.null, .null, .null, .null, .int 0, .null, .int rr]))] := hD
  exact ex_W (fun _ h => ex_mq h) (W.vret hx hb hr (fun t ht hW => ⟨⟨_, ⟨rfl, rfl⟩, by rw [ht]; exact hP, hD⟩, hS.F ht⟩) hS.2.2 d_J_RuntimeException_init1_9)
set_option maxHeartbeats 8000000 in
set_option maxRecDepth 100000 in
theorem c_Rf_init (l : Launch) (htr : l.stackTraces = false) (G : va_G) (cB cI cJ cZ : ClassId) (rf : Nat) (rr : Int32) (sz : Nat) : MetX l y_Rf_init (wx y_Rf_init b_Rf_init 1 none) { frames := 4, cells := 0, slots := 0, locals := 84 } (XP G classes (xtys cB cI cJ cZ) xE [.ref rf] [(rf, .inr (12, [.null, .null, .null, .null, .int 0, .null, .int rr]))] sz) (XQ G classes (va_A [(rf, .inr (12, [.null, .null, .null, .null, .int 0, .null, .int rr]))] sz) (fun o w1 => o = .returned none ∧ w1 = [(rf, .inr (12, [.null, .null, .null, .null, .int 0, .null, .int rr]))])) 0 0 (va_A [(rf, .inr (12, [.null, .null, .null, .null, .int 0, .null, .int rr]))] sz) := by
  refine ex_ofW (cc := b_Rf_init) (maxL := 1) (ret := none) (by decide) rfl ?_
  intro p e s m args below meth c s₁ B hml hno hv
  obtain ⟨rfl, hsz, hP, hK, hD0, hE⟩ := hv
  have hx := B.exec
  have hb := B.bytes
  have hr := B.returns
  have hts : ∀ w ∈ lw_good, w.before _ s = true := fun w h => atoms_spec (ws := wx y_Rf_init b_Rf_init 1 none) B.pre w (List.mem_cons_of_mem _ h)
  have hown : s.vm.findClass R_Rf = some m.cls := findClass_of_methodNamed B.named
  have hlocks := B.notSynchronized
  have htr9 : e.platform.stackTraces = false := by rw [B.admits.platform]; exact htr
  have hin : meth.name = "<init>" := (name_of_methodNamed B.named B.method).1
  subst hsz
  have hNS := xx_nostat hP
  have hD := hD0.self (sz := s.heap.size)
  generalize hAe : va_A [(rf, .inr (12, [.null, .null, .null, .null, .int 0, .null, .int rr]))] s.heap.size = A at hD hE hNS ⊢
  have hA : ∀ q : Nat, s.heap.size ≤ q → A q := fun q h => by rw [← hAe]; exact Or.inr h
  have hS : va_S A s.heap s.heap [] := va_S.rf
  have hl := lv_entry ([.ref rf]) (n := 1) (Nat.le_of_ble_eq_true rfl)
  rw [lg_entry_eq]
  generalize (lg_sl ([.ref rf]) ++ List.replicate (1 - (lg_sl ([.ref rf])).length) Slot.unset).toArray = ls at hl ⊢
  have hl : lv_has ls 1 [(0, .ref rf)] := hl
  refine lv_aload_n hx hb d_Rf_init_0 rfl (lv_at hl 0 rfl) ?_
  refine lv_null hx hb d_Rf_init_1 ?_
  refine lv_null hx hb d_Rf_init_2 ?_
  refine lv_iconst (v := 0) hx hb d_Rf_init_3 (by decide) ?_
  refine lv_iconst (v := 0) hx hb d_Rf_init_4 (by decide) ?_
  refine xx_callI (wc := [(rf, .inr (12, [.null, .null, .null, .null, .int 0, .null, .int rr]))]) (wr := []) (As := [.null, .null, .int 0, .int 0]) (rest := []) ⟨hx, hb, hml, hown, hts⟩ xE_st hK hE hA (c_J_RuntimeException_init1 l htr G cB cI cJ cZ rf rr _) (xw_I 4 hts m_1142 m_1143 m_14 m_1144 rfl (by decide +kernel) ⟨(Nat.le_of_ble_eq_true rfl), (Nat.le_of_ble_eq_true rfl)⟩) hP hD hS [0] [] rfl rfl (by decide) (by decide) (by decide) rfl hl.1 rfl (Nat.le_of_ble_eq_true rfl) d_Rf_init_5 ⟨(Nat.le_of_ble_eq_true rfl), (Nat.le_of_ble_eq_true rfl)⟩ (fun v9 w9 H locs hp hP hD hS => ?_) (fun x9 w9 H9 l9 hp _ _ _ => absurd hp (by rintro ⟨ho, -⟩; cases ho))
  obtain ⟨ho, rfl⟩ := hp
  cases ho
  have hP : va_P G classes [(rf, .inr (12, [.null, .null, .null, .null, .int 0, .null, .int rr]))] H := hP
  have hD : va_D A [(rf, .inr (12, [.null, .null, .null, .null, .int 0, .null, .int rr]))] := hD
  exact ex_W (fun _ h => ex_mq h) (W.vret hx hb hr (fun t ht hW => ⟨⟨_, ⟨rfl, rfl⟩, by rw [ht]; exact hP, hD⟩, hS.F ht⟩) hS.2.2 d_Rf_init_8)
set_option maxHeartbeats 8000000 in
set_option maxRecDepth 100000 in
theorem c_Mm_init (l : Launch) (htr : l.stackTraces = false) (G : va_G) (cB cI cJ cZ : ClassId) (h0 : Nat) (sz : Nat) : MetX l y_Mm_init (wx y_Mm_init b_Mm_init 1 none) { frames := 1, cells := 69, slots := 8410, locals := 12 } (XP G classes (xtys cB cI cJ cZ) xE [.ref h0] [(h0, .inr (11, [.null, .int 0, .int 0, .null, .null, .null, .int 0, .null, .int 0, .null, .null, .null, .null, .int 0, .long 0, .long 0, .int 0, .int 0, .null, .null, .null, .null, .int 0, .null, .null, .null, .null, .null, .null]))] sz) (XQ G classes (va_A [(h0, .inr (11, [.null, .int 0, .int 0, .null, .null, .null, .int 0, .null, .int 0, .null, .null, .null, .null, .int 0, .long 0, .long 0, .int 0, .int 0, .null, .null, .null, .null, .int 0, .null, .null, .null, .null, .null, .null]))] sz) (fun o w1 => ∃ q_1 q_2 q_4 q_5 q_6 q_7 q_8 q_10 q_11 q_12 q_13 q_14 q_15 q_16 q_17 q_18 q_19 q_3 q_9 : Nat, o = .returned none ∧ w1 = [(h0, .inr (11, [.ref q_1, .int 0, .int 0, .ref q_2, .ref q_3, .ref q_4, .int 0, .ref q_5, .int 0, .ref q_6, .ref q_7, .ref q_8, .ref q_9, .int 0, .long 0, .long 0, .int 0, .int 0, .ref q_10, .ref q_11, .ref q_12, .ref q_13, .int 0, .ref q_14, .ref q_15, .ref q_16, .ref q_17, .ref q_18, .ref q_19])), (q_1, .inl (cB, 2000, .inl (fun _ => 0))), (q_2, .inl (cI, 20, .inl (fun _ => 0))), (q_4, .inl (cI, 20, .inl (fun _ => 0))), (q_5, .inl (cJ, 30, .inr (.inl (fun _ => 0)))), (q_6, .inl (cI, 30, .inl (fun _ => 0))), (q_7, .inl (cI, 30, .inl (fun _ => 0))), (q_8, .inl (cI, 30, .inl (fun _ => 0))), (q_10, .inl (cI, 20, .inl (fun _ => 0))), (q_11, .inl (cI, 20, .inl (fun _ => 0))), (q_12, .inl (cZ, 20, .inl (fun _ => 0))), (q_13, .inl (cJ, 20, .inr (.inl (fun _ => 0)))), (q_14, .inl (cI, 40, .inl (fun _ => 0))), (q_15, .inl (cJ, 40, .inr (.inl (fun _ => 0)))), (q_16, .inl (cI, 40, .inl (fun _ => 0))), (q_17, .inl (cI, 40, .inl (fun _ => 0))), (q_18, .inl (cI, 2000, .inl (fun _ => 0))), (q_19, .inl (cI, 2000, .inl (fun _ => 0)))])) 69 8410 (va_A [(h0, .inr (11, [.null, .int 0, .int 0, .null, .null, .null, .int 0, .null, .int 0, .null, .null, .null, .null, .int 0, .long 0, .long 0, .int 0, .int 0, .null, .null, .null, .null, .int 0, .null, .null, .null, .null, .null, .null]))] sz) := by
  refine ex_ofW (cc := b_Mm_init) (maxL := 1) (ret := none) (by decide) rfl ?_
  intro p e s m args below meth c s₁ B hml hno hv
  obtain ⟨rfl, hsz, hP, hK, hD0, hE⟩ := hv
  have hx := B.exec
  have hb := B.bytes
  have hr := B.returns
  have hts : ∀ w ∈ lw_good, w.before _ s = true := fun w h => atoms_spec (ws := wx y_Mm_init b_Mm_init 1 none) B.pre w (List.mem_cons_of_mem _ h)
  have hown : s.vm.findClass R_Mm = some m.cls := findClass_of_methodNamed B.named
  have hlocks := B.notSynchronized
  have htr9 : e.platform.stackTraces = false := by rw [B.admits.platform]; exact htr
  have hin : meth.name = "<init>" := (name_of_methodNamed B.named B.method).1
  subst hsz
  have hNS := xx_nostat hP
  have hD := hD0.self (sz := s.heap.size)
  generalize hAe : va_A [(h0, .inr (11, [.null, .int 0, .int 0, .null, .null, .null, .int 0, .null, .int 0, .null, .null, .null, .null, .int 0, .long 0, .long 0, .int 0, .int 0, .null, .null, .null, .null, .int 0, .null, .null, .null, .null, .null, .null]))] s.heap.size = A at hD hE hNS ⊢
  have hA : ∀ q : Nat, s.heap.size ≤ q → A q := fun q h => by rw [← hAe]; exact Or.inr h
  have hS : va_S A s.heap s.heap [] := va_S.rf
  have hl := lv_entry ([.ref h0]) (n := 1) (Nat.le_of_ble_eq_true rfl)
  rw [lg_entry_eq]
  generalize (lg_sl ([.ref h0]) ++ List.replicate (1 - (lg_sl ([.ref h0])).length) Slot.unset).toArray = ls at hl ⊢
  have hl : lv_has ls 1 [(0, .ref h0)] := hl
  refine lv_aload_n hx hb d_Mm_init_0 rfl (lv_at hl 0 rfl) ?_
  refine W.objInit hx hb hown (hts _ m_1161) (hts _ m_34) (hts _ m_35) rfl (by rw [hml]; exact hl.1) rfl d_Mm_init_1 (Nat.le_of_ble_eq_true rfl) (Nat.le_of_ble_eq_true rfl) ?_
  refine W.eq (g2 := F0 m 4 ls []) rfl ?_
  refine lv_aload_n hx hb d_Mm_init_4 rfl (lv_at hl 0 rfl) ?_
  refine lv_sipush (v := 2000) hx hb d_Mm_init_5 (by decide) ?_
  refine xx_newa (a0 := (2000, .inl (fun _ => 0))) (ty := .byte) (cA := cB) hx hb rfl hK (hts _ m_61) 0 rfl hP hD hS hA (fun _ => rfl) (by decide) (by decide) (by decide) (Nat.le_of_ble_eq_true rfl) (Nat.le_of_ble_eq_true rfl) d_Mm_init_8 (fun q_1 H hP hD hS => ?_)
  refine W.widen (k := 1) (n := 2000) (Nat.le_of_ble_eq_true rfl) (Nat.le_of_ble_eq_true rfl) ?_
  have hP : va_P G classes [(h0, .inr (11, [.null, .int 0, .int 0, .null, .null, .null, .int 0, .null, .int 0, .null, .null, .null, .null, .int 0, .long 0, .long 0, .int 0, .int 0, .null, .null, .null, .null, .int 0, .null, .null, .null, .null, .null, .null])), (q_1, .inl (cB, 2000, .inl (fun _ => 0)))] H := hP
  have hD : va_D A [(h0, .inr (11, [.null, .int 0, .int 0, .null, .null, .null, .int 0, .null, .int 0, .null, .null, .null, .null, .int 0, .long 0, .long 0, .int 0, .int 0, .null, .null, .null, .null, .int 0, .null, .null, .null, .null, .null, .null])), (q_1, .inl (cB, 2000, .inl (fun _ => 0)))] := hD
  refine va_putF (D := G) (ci := 11) (v := .ref q_1) (ty := .array .byte) (C := R_Mm) (T := F_Mm) (N := 29) hx hb hts i_Mm t_Mm t_Mm_ok n_Mm hown hK hP hD hS 0 rfl rfl 0 (by decide) (hts _ m_1164) (fun _ h9 => h9) rfl hin rfl (by decide +kernel) rfl rfl (Nat.le_of_ble_eq_true rfl) d_Mm_init_10 (fun H locs hP hD hS => ?_)
  have hP : va_P G classes [(h0, .inr (11, [.ref q_1, .int 0, .int 0, .null, .null, .null, .int 0, .null, .int 0, .null, .null, .null, .null, .int 0, .long 0, .long 0, .int 0, .int 0, .null, .null, .null, .null, .int 0, .null, .null, .null, .null, .null, .null])), (q_1, .inl (cB, 2000, .inl (fun _ => 0)))] H := hP
  have hD : va_D A [(h0, .inr (11, [.ref q_1, .int 0, .int 0, .null, .null, .null, .int 0, .null, .int 0, .null, .null, .null, .null, .int 0, .long 0, .long 0, .int 0, .int 0, .null, .null, .null, .null, .int 0, .null, .null, .null, .null, .null, .null])), (q_1, .inl (cB, 2000, .inl (fun _ => 0)))] := hD
  refine lv_aload_n hx hb d_Mm_init_13 rfl (lv_at hl 0 rfl) ?_
  refine lv_bipush (v := 20) hx hb d_Mm_init_14 (by decide) ?_
  refine xx_newa (a0 := (20, .inl (fun _ => 0))) (ty := .int) (cA := cI) hx hb rfl hK (hts _ m_82) 1 rfl hP hD hS hA (fun _ => rfl) (by decide) (by decide) (by decide) (Nat.le_of_ble_eq_true rfl) (Nat.le_of_ble_eq_true rfl) d_Mm_init_16 (fun q_2 H hP hD hS => ?_)
  refine W.widen (k := 2) (n := 2020) (Nat.le_of_ble_eq_true rfl) (Nat.le_of_ble_eq_true rfl) ?_
  have hP : va_P G classes [(h0, .inr (11, [.ref q_1, .int 0, .int 0, .null, .null, .null, .int 0, .null, .int 0, .null, .null, .null, .null, .int 0, .long 0, .long 0, .int 0, .int 0, .null, .null, .null, .null, .int 0, .null, .null, .null, .null, .null, .null])), (q_1, .inl (cB, 2000, .inl (fun _ => 0))), (q_2, .inl (cI, 20, .inl (fun _ => 0)))] H := hP
  have hD : va_D A [(h0, .inr (11, [.ref q_1, .int 0, .int 0, .null, .null, .null, .int 0, .null, .int 0, .null, .null, .null, .null, .int 0, .long 0, .long 0, .int 0, .int 0, .null, .null, .null, .null, .int 0, .null, .null, .null, .null, .null, .null])), (q_1, .inl (cB, 2000, .inl (fun _ => 0))), (q_2, .inl (cI, 20, .inl (fun _ => 0)))] := hD
  refine va_putF (D := G) (ci := 11) (v := .ref q_2) (ty := .array .int) (C := R_Mm) (T := F_Mm) (N := 29) hx hb hts i_Mm t_Mm t_Mm_ok n_Mm hown hK hP hD hS 0 rfl rfl 3 (by decide) (hts _ m_1168) (fun _ h9 => h9) rfl hin rfl (by decide +kernel) rfl rfl (Nat.le_of_ble_eq_true rfl) d_Mm_init_18 (fun H locs hP hD hS => ?_)
  have hP : va_P G classes [(h0, .inr (11, [.ref q_1, .int 0, .int 0, .ref q_2, .null, .null, .int 0, .null, .int 0, .null, .null, .null, .null, .int 0, .long 0, .long 0, .int 0, .int 0, .null, .null, .null, .null, .int 0, .null, .null, .null, .null, .null, .null])), (q_1, .inl (cB, 2000, .inl (fun _ => 0))), (q_2, .inl (cI, 20, .inl (fun _ => 0)))] H := hP
  have hD : va_D A [(h0, .inr (11, [.ref q_1, .int 0, .int 0, .ref q_2, .null, .null, .int 0, .null, .int 0, .null, .null, .null, .null, .int 0, .long 0, .long 0, .int 0, .int 0, .null, .null, .null, .null, .int 0, .null, .null, .null, .null, .null, .null])), (q_1, .inl (cB, 2000, .inl (fun _ => 0))), (q_2, .inl (cI, 20, .inl (fun _ => 0)))] := hD
  refine lv_aload_n hx hb d_Mm_init_21 rfl (lv_at hl 0 rfl) ?_
  refine lv_bipush (v := 20) hx hb d_Mm_init_22 (by decide) ?_
  refine lv_bipush (v := 8) hx hb d_Mm_init_24 (by decide) ?_
  refine xx_grid0 (n := 20) (k := 8) (N := 20) (K := 8) hx hb hown (hts _ m_1162) hE.2.2.1 (hts _ m_82) hP hD hS hA d_Mm_init_26 (by decide) (by decide) (by decide) (by decide) (by decide) (by decide) (Nat.le_of_ble_eq_true rfl) (Nat.le_of_ble_eq_true rfl) (fun q_3 H locs hP hD hS => ?_)
  refine W.widen (k := 23) (n := 2200) (Nat.le_of_ble_eq_true rfl) (Nat.le_of_ble_eq_true rfl) ?_
  refine va_putF (D := G) (ci := 11) (v := .ref q_3) (ty := .array (.array .int)) (C := R_Mm) (T := F_Mm) (N := 29) hx hb hts i_Mm t_Mm t_Mm_ok n_Mm hown hK hP hD hS 0 rfl rfl 4 (by decide) (hts _ m_1170) (fun _ h9 => h9) rfl hin rfl (by decide +kernel) rfl rfl (Nat.le_of_ble_eq_true rfl) d_Mm_init_30 (fun H locs hP hD hS => ?_)
  have hP : va_P G classes [(h0, .inr (11, [.ref q_1, .int 0, .int 0, .ref q_2, .ref q_3, .null, .int 0, .null, .int 0, .null, .null, .null, .null, .int 0, .long 0, .long 0, .int 0, .int 0, .null, .null, .null, .null, .int 0, .null, .null, .null, .null, .null, .null])), (q_1, .inl (cB, 2000, .inl (fun _ => 0))), (q_2, .inl (cI, 20, .inl (fun _ => 0)))] H := hP
  have hD : va_D A [(h0, .inr (11, [.ref q_1, .int 0, .int 0, .ref q_2, .ref q_3, .null, .int 0, .null, .int 0, .null, .null, .null, .null, .int 0, .long 0, .long 0, .int 0, .int 0, .null, .null, .null, .null, .int 0, .null, .null, .null, .null, .null, .null])), (q_1, .inl (cB, 2000, .inl (fun _ => 0))), (q_2, .inl (cI, 20, .inl (fun _ => 0)))] := hD
  refine lv_aload_n hx hb d_Mm_init_33 rfl (lv_at hl 0 rfl) ?_
  refine lv_bipush (v := 20) hx hb d_Mm_init_34 (by decide) ?_
  refine xx_newa (a0 := (20, .inl (fun _ => 0))) (ty := .int) (cA := cI) hx hb rfl hK (hts _ m_82) 1 rfl hP hD hS hA (fun _ => rfl) (by decide) (by decide) (by decide) (Nat.le_of_ble_eq_true rfl) (Nat.le_of_ble_eq_true rfl) d_Mm_init_36 (fun q_4 H hP hD hS => ?_)
  refine W.widen (k := 24) (n := 2220) (Nat.le_of_ble_eq_true rfl) (Nat.le_of_ble_eq_true rfl) ?_
  have hP : va_P G classes [(h0, .inr (11, [.ref q_1, .int 0, .int 0, .ref q_2, .ref q_3, .null, .int 0, .null, .int 0, .null, .null, .null, .null, .int 0, .long 0, .long 0, .int 0, .int 0, .null, .null, .null, .null, .int 0, .null, .null, .null, .null, .null, .null])), (q_1, .inl (cB, 2000, .inl (fun _ => 0))), (q_2, .inl (cI, 20, .inl (fun _ => 0))), (q_4, .inl (cI, 20, .inl (fun _ => 0)))] H := hP
  have hD : va_D A [(h0, .inr (11, [.ref q_1, .int 0, .int 0, .ref q_2, .ref q_3, .null, .int 0, .null, .int 0, .null, .null, .null, .null, .int 0, .long 0, .long 0, .int 0, .int 0, .null, .null, .null, .null, .int 0, .null, .null, .null, .null, .null, .null])), (q_1, .inl (cB, 2000, .inl (fun _ => 0))), (q_2, .inl (cI, 20, .inl (fun _ => 0))), (q_4, .inl (cI, 20, .inl (fun _ => 0)))] := hD
  refine va_putF (D := G) (ci := 11) (v := .ref q_4) (ty := .array .int) (C := R_Mm) (T := F_Mm) (N := 29) hx hb hts i_Mm t_Mm t_Mm_ok n_Mm hown hK hP hD hS 0 rfl rfl 5 (by decide) (hts _ m_1172) (fun _ h9 => h9) rfl hin rfl (by decide +kernel) rfl rfl (Nat.le_of_ble_eq_true rfl) d_Mm_init_38 (fun H locs hP hD hS => ?_)
  have hP : va_P G classes [(h0, .inr (11, [.ref q_1, .int 0, .int 0, .ref q_2, .ref q_3, .ref q_4, .int 0, .null, .int 0, .null, .null, .null, .null, .int 0, .long 0, .long 0, .int 0, .int 0, .null, .null, .null, .null, .int 0, .null, .null, .null, .null, .null, .null])), (q_1, .inl (cB, 2000, .inl (fun _ => 0))), (q_2, .inl (cI, 20, .inl (fun _ => 0))), (q_4, .inl (cI, 20, .inl (fun _ => 0)))] H := hP
  have hD : va_D A [(h0, .inr (11, [.ref q_1, .int 0, .int 0, .ref q_2, .ref q_3, .ref q_4, .int 0, .null, .int 0, .null, .null, .null, .null, .int 0, .long 0, .long 0, .int 0, .int 0, .null, .null, .null, .null, .int 0, .null, .null, .null, .null, .null, .null])), (q_1, .inl (cB, 2000, .inl (fun _ => 0))), (q_2, .inl (cI, 20, .inl (fun _ => 0))), (q_4, .inl (cI, 20, .inl (fun _ => 0)))] := hD
  refine lv_aload_n hx hb d_Mm_init_41 rfl (lv_at hl 0 rfl) ?_
  refine lv_bipush (v := 30) hx hb d_Mm_init_42 (by decide) ?_
  refine xx_newa (a0 := (30, .inr (.inl (fun _ => 0)))) (ty := .long) (cA := cJ) hx hb rfl hK (hts _ m_62) 2 rfl hP hD hS hA (fun _ => rfl) (by decide) (by decide) (by decide) (Nat.le_of_ble_eq_true rfl) (Nat.le_of_ble_eq_true rfl) d_Mm_init_44 (fun q_5 H hP hD hS => ?_)
  refine W.widen (k := 25) (n := 2250) (Nat.le_of_ble_eq_true rfl) (Nat.le_of_ble_eq_true rfl) ?_
  have hP : va_P G classes [(h0, .inr (11, [.ref q_1, .int 0, .int 0, .ref q_2, .ref q_3, .ref q_4, .int 0, .null, .int 0, .null, .null, .null, .null, .int 0, .long 0, .long 0, .int 0, .int 0, .null, .null, .null, .null, .int 0, .null, .null, .null, .null, .null, .null])), (q_1, .inl (cB, 2000, .inl (fun _ => 0))), (q_2, .inl (cI, 20, .inl (fun _ => 0))), (q_4, .inl (cI, 20, .inl (fun _ => 0))), (q_5, .inl (cJ, 30, .inr (.inl (fun _ => 0))))] H := hP
  have hD : va_D A [(h0, .inr (11, [.ref q_1, .int 0, .int 0, .ref q_2, .ref q_3, .ref q_4, .int 0, .null, .int 0, .null, .null, .null, .null, .int 0, .long 0, .long 0, .int 0, .int 0, .null, .null, .null, .null, .int 0, .null, .null, .null, .null, .null, .null])), (q_1, .inl (cB, 2000, .inl (fun _ => 0))), (q_2, .inl (cI, 20, .inl (fun _ => 0))), (q_4, .inl (cI, 20, .inl (fun _ => 0))), (q_5, .inl (cJ, 30, .inr (.inl (fun _ => 0))))] := hD
  refine va_putF (D := G) (ci := 11) (v := .ref q_5) (ty := .array .long) (C := R_Mm) (T := F_Mm) (N := 29) hx hb hts i_Mm t_Mm t_Mm_ok n_Mm hown hK hP hD hS 0 rfl rfl 7 (by decide) (hts _ m_1175) (fun _ h9 => h9) rfl hin rfl (by decide +kernel) rfl rfl (Nat.le_of_ble_eq_true rfl) d_Mm_init_46 (fun H locs hP hD hS => ?_)
  have hP : va_P G classes [(h0, .inr (11, [.ref q_1, .int 0, .int 0, .ref q_2, .ref q_3, .ref q_4, .int 0, .ref q_5, .int 0, .null, .null, .null, .null, .int 0, .long 0, .long 0, .int 0, .int 0, .null, .null, .null, .null, .int 0, .null, .null, .null, .null, .null, .null])), (q_1, .inl (cB, 2000, .inl (fun _ => 0))), (q_2, .inl (cI, 20, .inl (fun _ => 0))), (q_4, .inl (cI, 20, .inl (fun _ => 0))), (q_5, .inl (cJ, 30, .inr (.inl (fun _ => 0))))] H := hP
  have hD : va_D A [(h0, .inr (11, [.ref q_1, .int 0, .int 0, .ref q_2, .ref q_3, .ref q_4, .int 0, .ref q_5, .int 0, .null, .null, .null, .null, .int 0, .long 0, .long 0, .int 0, .int 0, .null, .null, .null, .null, .int 0, .null, .null, .null, .null, .null, .null])), (q_1, .inl (cB, 2000, .inl (fun _ => 0))), (q_2, .inl (cI, 20, .inl (fun _ => 0))), (q_4, .inl (cI, 20, .inl (fun _ => 0))), (q_5, .inl (cJ, 30, .inr (.inl (fun _ => 0))))] := hD
  refine lv_aload_n hx hb d_Mm_init_49 rfl (lv_at hl 0 rfl) ?_
  refine lv_bipush (v := 30) hx hb d_Mm_init_50 (by decide) ?_
  refine xx_newa (a0 := (30, .inl (fun _ => 0))) (ty := .int) (cA := cI) hx hb rfl hK (hts _ m_82) 1 rfl hP hD hS hA (fun _ => rfl) (by decide) (by decide) (by decide) (Nat.le_of_ble_eq_true rfl) (Nat.le_of_ble_eq_true rfl) d_Mm_init_52 (fun q_6 H hP hD hS => ?_)
  refine W.widen (k := 26) (n := 2280) (Nat.le_of_ble_eq_true rfl) (Nat.le_of_ble_eq_true rfl) ?_
  have hP : va_P G classes [(h0, .inr (11, [.ref q_1, .int 0, .int 0, .ref q_2, .ref q_3, .ref q_4, .int 0, .ref q_5, .int 0, .null, .null, .null, .null, .int 0, .long 0, .long 0, .int 0, .int 0, .null, .null, .null, .null, .int 0, .null, .null, .null, .null, .null, .null])), (q_1, .inl (cB, 2000, .inl (fun _ => 0))), (q_2, .inl (cI, 20, .inl (fun _ => 0))), (q_4, .inl (cI, 20, .inl (fun _ => 0))), (q_5, .inl (cJ, 30, .inr (.inl (fun _ => 0)))), (q_6, .inl (cI, 30, .inl (fun _ => 0)))] H := hP
  have hD : va_D A [(h0, .inr (11, [.ref q_1, .int 0, .int 0, .ref q_2, .ref q_3, .ref q_4, .int 0, .ref q_5, .int 0, .null, .null, .null, .null, .int 0, .long 0, .long 0, .int 0, .int 0, .null, .null, .null, .null, .int 0, .null, .null, .null, .null, .null, .null])), (q_1, .inl (cB, 2000, .inl (fun _ => 0))), (q_2, .inl (cI, 20, .inl (fun _ => 0))), (q_4, .inl (cI, 20, .inl (fun _ => 0))), (q_5, .inl (cJ, 30, .inr (.inl (fun _ => 0)))), (q_6, .inl (cI, 30, .inl (fun _ => 0)))] := hD
  refine va_putF (D := G) (ci := 11) (v := .ref q_6) (ty := .array .int) (C := R_Mm) (T := F_Mm) (N := 29) hx hb hts i_Mm t_Mm t_Mm_ok n_Mm hown hK hP hD hS 0 rfl rfl 9 (by decide) (hts _ m_1178) (fun _ h9 => h9) rfl hin rfl (by decide +kernel) rfl rfl (Nat.le_of_ble_eq_true rfl) d_Mm_init_54 (fun H locs hP hD hS => ?_)
  have hP : va_P G classes [(h0, .inr (11, [.ref q_1, .int 0, .int 0, .ref q_2, .ref q_3, .ref q_4, .int 0, .ref q_5, .int 0, .ref q_6, .null, .null, .null, .int 0, .long 0, .long 0, .int 0, .int 0, .null, .null, .null, .null, .int 0, .null, .null, .null, .null, .null, .null])), (q_1, .inl (cB, 2000, .inl (fun _ => 0))), (q_2, .inl (cI, 20, .inl (fun _ => 0))), (q_4, .inl (cI, 20, .inl (fun _ => 0))), (q_5, .inl (cJ, 30, .inr (.inl (fun _ => 0)))), (q_6, .inl (cI, 30, .inl (fun _ => 0)))] H := hP
  have hD : va_D A [(h0, .inr (11, [.ref q_1, .int 0, .int 0, .ref q_2, .ref q_3, .ref q_4, .int 0, .ref q_5, .int 0, .ref q_6, .null, .null, .null, .int 0, .long 0, .long 0, .int 0, .int 0, .null, .null, .null, .null, .int 0, .null, .null, .null, .null, .null, .null])), (q_1, .inl (cB, 2000, .inl (fun _ => 0))), (q_2, .inl (cI, 20, .inl (fun _ => 0))), (q_4, .inl (cI, 20, .inl (fun _ => 0))), (q_5, .inl (cJ, 30, .inr (.inl (fun _ => 0)))), (q_6, .inl (cI, 30, .inl (fun _ => 0)))] := hD
  refine lv_aload_n hx hb d_Mm_init_57 rfl (lv_at hl 0 rfl) ?_
  refine lv_bipush (v := 30) hx hb d_Mm_init_58 (by decide) ?_
  refine xx_newa (a0 := (30, .inl (fun _ => 0))) (ty := .int) (cA := cI) hx hb rfl hK (hts _ m_82) 1 rfl hP hD hS hA (fun _ => rfl) (by decide) (by decide) (by decide) (Nat.le_of_ble_eq_true rfl) (Nat.le_of_ble_eq_true rfl) d_Mm_init_60 (fun q_7 H hP hD hS => ?_)
  refine W.widen (k := 27) (n := 2310) (Nat.le_of_ble_eq_true rfl) (Nat.le_of_ble_eq_true rfl) ?_
  have hP : va_P G classes [(h0, .inr (11, [.ref q_1, .int 0, .int 0, .ref q_2, .ref q_3, .ref q_4, .int 0, .ref q_5, .int 0, .ref q_6, .null, .null, .null, .int 0, .long 0, .long 0, .int 0, .int 0, .null, .null, .null, .null, .int 0, .null, .null, .null, .null, .null, .null])), (q_1, .inl (cB, 2000, .inl (fun _ => 0))), (q_2, .inl (cI, 20, .inl (fun _ => 0))), (q_4, .inl (cI, 20, .inl (fun _ => 0))), (q_5, .inl (cJ, 30, .inr (.inl (fun _ => 0)))), (q_6, .inl (cI, 30, .inl (fun _ => 0))), (q_7, .inl (cI, 30, .inl (fun _ => 0)))] H := hP
  have hD : va_D A [(h0, .inr (11, [.ref q_1, .int 0, .int 0, .ref q_2, .ref q_3, .ref q_4, .int 0, .ref q_5, .int 0, .ref q_6, .null, .null, .null, .int 0, .long 0, .long 0, .int 0, .int 0, .null, .null, .null, .null, .int 0, .null, .null, .null, .null, .null, .null])), (q_1, .inl (cB, 2000, .inl (fun _ => 0))), (q_2, .inl (cI, 20, .inl (fun _ => 0))), (q_4, .inl (cI, 20, .inl (fun _ => 0))), (q_5, .inl (cJ, 30, .inr (.inl (fun _ => 0)))), (q_6, .inl (cI, 30, .inl (fun _ => 0))), (q_7, .inl (cI, 30, .inl (fun _ => 0)))] := hD
  refine va_putF (D := G) (ci := 11) (v := .ref q_7) (ty := .array .int) (C := R_Mm) (T := F_Mm) (N := 29) hx hb hts i_Mm t_Mm t_Mm_ok n_Mm hown hK hP hD hS 0 rfl rfl 10 (by decide) (hts _ m_1180) (fun _ h9 => h9) rfl hin rfl (by decide +kernel) rfl rfl (Nat.le_of_ble_eq_true rfl) d_Mm_init_62 (fun H locs hP hD hS => ?_)
  have hP : va_P G classes [(h0, .inr (11, [.ref q_1, .int 0, .int 0, .ref q_2, .ref q_3, .ref q_4, .int 0, .ref q_5, .int 0, .ref q_6, .ref q_7, .null, .null, .int 0, .long 0, .long 0, .int 0, .int 0, .null, .null, .null, .null, .int 0, .null, .null, .null, .null, .null, .null])), (q_1, .inl (cB, 2000, .inl (fun _ => 0))), (q_2, .inl (cI, 20, .inl (fun _ => 0))), (q_4, .inl (cI, 20, .inl (fun _ => 0))), (q_5, .inl (cJ, 30, .inr (.inl (fun _ => 0)))), (q_6, .inl (cI, 30, .inl (fun _ => 0))), (q_7, .inl (cI, 30, .inl (fun _ => 0)))] H := hP
  have hD : va_D A [(h0, .inr (11, [.ref q_1, .int 0, .int 0, .ref q_2, .ref q_3, .ref q_4, .int 0, .ref q_5, .int 0, .ref q_6, .ref q_7, .null, .null, .int 0, .long 0, .long 0, .int 0, .int 0, .null, .null, .null, .null, .int 0, .null, .null, .null, .null, .null, .null])), (q_1, .inl (cB, 2000, .inl (fun _ => 0))), (q_2, .inl (cI, 20, .inl (fun _ => 0))), (q_4, .inl (cI, 20, .inl (fun _ => 0))), (q_5, .inl (cJ, 30, .inr (.inl (fun _ => 0)))), (q_6, .inl (cI, 30, .inl (fun _ => 0))), (q_7, .inl (cI, 30, .inl (fun _ => 0)))] := hD
  refine lv_aload_n hx hb d_Mm_init_65 rfl (lv_at hl 0 rfl) ?_
  refine lv_bipush (v := 30) hx hb d_Mm_init_66 (by decide) ?_
  refine xx_newa (a0 := (30, .inl (fun _ => 0))) (ty := .int) (cA := cI) hx hb rfl hK (hts _ m_82) 1 rfl hP hD hS hA (fun _ => rfl) (by decide) (by decide) (by decide) (Nat.le_of_ble_eq_true rfl) (Nat.le_of_ble_eq_true rfl) d_Mm_init_68 (fun q_8 H hP hD hS => ?_)
  refine W.widen (k := 28) (n := 2340) (Nat.le_of_ble_eq_true rfl) (Nat.le_of_ble_eq_true rfl) ?_
  have hP : va_P G classes [(h0, .inr (11, [.ref q_1, .int 0, .int 0, .ref q_2, .ref q_3, .ref q_4, .int 0, .ref q_5, .int 0, .ref q_6, .ref q_7, .null, .null, .int 0, .long 0, .long 0, .int 0, .int 0, .null, .null, .null, .null, .int 0, .null, .null, .null, .null, .null, .null])), (q_1, .inl (cB, 2000, .inl (fun _ => 0))), (q_2, .inl (cI, 20, .inl (fun _ => 0))), (q_4, .inl (cI, 20, .inl (fun _ => 0))), (q_5, .inl (cJ, 30, .inr (.inl (fun _ => 0)))), (q_6, .inl (cI, 30, .inl (fun _ => 0))), (q_7, .inl (cI, 30, .inl (fun _ => 0))), (q_8, .inl (cI, 30, .inl (fun _ => 0)))] H := hP
  have hD : va_D A [(h0, .inr (11, [.ref q_1, .int 0, .int 0, .ref q_2, .ref q_3, .ref q_4, .int 0, .ref q_5, .int 0, .ref q_6, .ref q_7, .null, .null, .int 0, .long 0, .long 0, .int 0, .int 0, .null, .null, .null, .null, .int 0, .null, .null, .null, .null, .null, .null])), (q_1, .inl (cB, 2000, .inl (fun _ => 0))), (q_2, .inl (cI, 20, .inl (fun _ => 0))), (q_4, .inl (cI, 20, .inl (fun _ => 0))), (q_5, .inl (cJ, 30, .inr (.inl (fun _ => 0)))), (q_6, .inl (cI, 30, .inl (fun _ => 0))), (q_7, .inl (cI, 30, .inl (fun _ => 0))), (q_8, .inl (cI, 30, .inl (fun _ => 0)))] := hD
  refine va_putF (D := G) (ci := 11) (v := .ref q_8) (ty := .array .int) (C := R_Mm) (T := F_Mm) (N := 29) hx hb hts i_Mm t_Mm t_Mm_ok n_Mm hown hK hP hD hS 0 rfl rfl 11 (by decide) (hts _ m_1182) (fun _ h9 => h9) rfl hin rfl (by decide +kernel) rfl rfl (Nat.le_of_ble_eq_true rfl) d_Mm_init_70 (fun H locs hP hD hS => ?_)
  have hP : va_P G classes [(h0, .inr (11, [.ref q_1, .int 0, .int 0, .ref q_2, .ref q_3, .ref q_4, .int 0, .ref q_5, .int 0, .ref q_6, .ref q_7, .ref q_8, .null, .int 0, .long 0, .long 0, .int 0, .int 0, .null, .null, .null, .null, .int 0, .null, .null, .null, .null, .null, .null])), (q_1, .inl (cB, 2000, .inl (fun _ => 0))), (q_2, .inl (cI, 20, .inl (fun _ => 0))), (q_4, .inl (cI, 20, .inl (fun _ => 0))), (q_5, .inl (cJ, 30, .inr (.inl (fun _ => 0)))), (q_6, .inl (cI, 30, .inl (fun _ => 0))), (q_7, .inl (cI, 30, .inl (fun _ => 0))), (q_8, .inl (cI, 30, .inl (fun _ => 0)))] H := hP
  have hD : va_D A [(h0, .inr (11, [.ref q_1, .int 0, .int 0, .ref q_2, .ref q_3, .ref q_4, .int 0, .ref q_5, .int 0, .ref q_6, .ref q_7, .ref q_8, .null, .int 0, .long 0, .long 0, .int 0, .int 0, .null, .null, .null, .null, .int 0, .null, .null, .null, .null, .null, .null])), (q_1, .inl (cB, 2000, .inl (fun _ => 0))), (q_2, .inl (cI, 20, .inl (fun _ => 0))), (q_4, .inl (cI, 20, .inl (fun _ => 0))), (q_5, .inl (cJ, 30, .inr (.inl (fun _ => 0)))), (q_6, .inl (cI, 30, .inl (fun _ => 0))), (q_7, .inl (cI, 30, .inl (fun _ => 0))), (q_8, .inl (cI, 30, .inl (fun _ => 0)))] := hD
  refine lv_aload_n hx hb d_Mm_init_73 rfl (lv_at hl 0 rfl) ?_
  refine lv_bipush (v := 30) hx hb d_Mm_init_74 (by decide) ?_
  refine lv_bipush (v := 60) hx hb d_Mm_init_76 (by decide) ?_
  refine xx_grid0 (n := 30) (k := 60) (N := 30) (K := 60) hx hb hown (hts _ m_1162) hE.2.2.1 (hts _ m_82) hP hD hS hA d_Mm_init_78 (by decide) (by decide) (by decide) (by decide) (by decide) (by decide) (Nat.le_of_ble_eq_true rfl) (Nat.le_of_ble_eq_true rfl) (fun q_9 H locs hP hD hS => ?_)
  refine W.widen (k := 59) (n := 4170) (Nat.le_of_ble_eq_true rfl) (Nat.le_of_ble_eq_true rfl) ?_
  refine va_putF (D := G) (ci := 11) (v := .ref q_9) (ty := .array (.array .int)) (C := R_Mm) (T := F_Mm) (N := 29) hx hb hts i_Mm t_Mm t_Mm_ok n_Mm hown hK hP hD hS 0 rfl rfl 12 (by decide) (hts _ m_1184) (fun _ h9 => h9) rfl hin rfl (by decide +kernel) rfl rfl (Nat.le_of_ble_eq_true rfl) d_Mm_init_82 (fun H locs hP hD hS => ?_)
  have hP : va_P G classes [(h0, .inr (11, [.ref q_1, .int 0, .int 0, .ref q_2, .ref q_3, .ref q_4, .int 0, .ref q_5, .int 0, .ref q_6, .ref q_7, .ref q_8, .ref q_9, .int 0, .long 0, .long 0, .int 0, .int 0, .null, .null, .null, .null, .int 0, .null, .null, .null, .null, .null, .null])), (q_1, .inl (cB, 2000, .inl (fun _ => 0))), (q_2, .inl (cI, 20, .inl (fun _ => 0))), (q_4, .inl (cI, 20, .inl (fun _ => 0))), (q_5, .inl (cJ, 30, .inr (.inl (fun _ => 0)))), (q_6, .inl (cI, 30, .inl (fun _ => 0))), (q_7, .inl (cI, 30, .inl (fun _ => 0))), (q_8, .inl (cI, 30, .inl (fun _ => 0)))] H := hP
  have hD : va_D A [(h0, .inr (11, [.ref q_1, .int 0, .int 0, .ref q_2, .ref q_3, .ref q_4, .int 0, .ref q_5, .int 0, .ref q_6, .ref q_7, .ref q_8, .ref q_9, .int 0, .long 0, .long 0, .int 0, .int 0, .null, .null, .null, .null, .int 0, .null, .null, .null, .null, .null, .null])), (q_1, .inl (cB, 2000, .inl (fun _ => 0))), (q_2, .inl (cI, 20, .inl (fun _ => 0))), (q_4, .inl (cI, 20, .inl (fun _ => 0))), (q_5, .inl (cJ, 30, .inr (.inl (fun _ => 0)))), (q_6, .inl (cI, 30, .inl (fun _ => 0))), (q_7, .inl (cI, 30, .inl (fun _ => 0))), (q_8, .inl (cI, 30, .inl (fun _ => 0)))] := hD
  refine lv_aload_n hx hb d_Mm_init_85 rfl (lv_at hl 0 rfl) ?_
  refine lv_bipush (v := 20) hx hb d_Mm_init_86 (by decide) ?_
  refine xx_newa (a0 := (20, .inl (fun _ => 0))) (ty := .int) (cA := cI) hx hb rfl hK (hts _ m_82) 1 rfl hP hD hS hA (fun _ => rfl) (by decide) (by decide) (by decide) (Nat.le_of_ble_eq_true rfl) (Nat.le_of_ble_eq_true rfl) d_Mm_init_88 (fun q_10 H hP hD hS => ?_)
  refine W.widen (k := 60) (n := 4190) (Nat.le_of_ble_eq_true rfl) (Nat.le_of_ble_eq_true rfl) ?_
  have hP : va_P G classes [(h0, .inr (11, [.ref q_1, .int 0, .int 0, .ref q_2, .ref q_3, .ref q_4, .int 0, .ref q_5, .int 0, .ref q_6, .ref q_7, .ref q_8, .ref q_9, .int 0, .long 0, .long 0, .int 0, .int 0, .null, .null, .null, .null, .int 0, .null, .null, .null, .null, .null, .null])), (q_1, .inl (cB, 2000, .inl (fun _ => 0))), (q_2, .inl (cI, 20, .inl (fun _ => 0))), (q_4, .inl (cI, 20, .inl (fun _ => 0))), (q_5, .inl (cJ, 30, .inr (.inl (fun _ => 0)))), (q_6, .inl (cI, 30, .inl (fun _ => 0))), (q_7, .inl (cI, 30, .inl (fun _ => 0))), (q_8, .inl (cI, 30, .inl (fun _ => 0))), (q_10, .inl (cI, 20, .inl (fun _ => 0)))] H := hP
  have hD : va_D A [(h0, .inr (11, [.ref q_1, .int 0, .int 0, .ref q_2, .ref q_3, .ref q_4, .int 0, .ref q_5, .int 0, .ref q_6, .ref q_7, .ref q_8, .ref q_9, .int 0, .long 0, .long 0, .int 0, .int 0, .null, .null, .null, .null, .int 0, .null, .null, .null, .null, .null, .null])), (q_1, .inl (cB, 2000, .inl (fun _ => 0))), (q_2, .inl (cI, 20, .inl (fun _ => 0))), (q_4, .inl (cI, 20, .inl (fun _ => 0))), (q_5, .inl (cJ, 30, .inr (.inl (fun _ => 0)))), (q_6, .inl (cI, 30, .inl (fun _ => 0))), (q_7, .inl (cI, 30, .inl (fun _ => 0))), (q_8, .inl (cI, 30, .inl (fun _ => 0))), (q_10, .inl (cI, 20, .inl (fun _ => 0)))] := hD
  refine va_putF (D := G) (ci := 11) (v := .ref q_10) (ty := .array .int) (C := R_Mm) (T := F_Mm) (N := 29) hx hb hts i_Mm t_Mm t_Mm_ok n_Mm hown hK hP hD hS 0 rfl rfl 18 (by decide) (hts _ m_1191) (fun _ h9 => h9) rfl hin rfl (by decide +kernel) rfl rfl (Nat.le_of_ble_eq_true rfl) d_Mm_init_90 (fun H locs hP hD hS => ?_)
  have hP : va_P G classes [(h0, .inr (11, [.ref q_1, .int 0, .int 0, .ref q_2, .ref q_3, .ref q_4, .int 0, .ref q_5, .int 0, .ref q_6, .ref q_7, .ref q_8, .ref q_9, .int 0, .long 0, .long 0, .int 0, .int 0, .ref q_10, .null, .null, .null, .int 0, .null, .null, .null, .null, .null, .null])), (q_1, .inl (cB, 2000, .inl (fun _ => 0))), (q_2, .inl (cI, 20, .inl (fun _ => 0))), (q_4, .inl (cI, 20, .inl (fun _ => 0))), (q_5, .inl (cJ, 30, .inr (.inl (fun _ => 0)))), (q_6, .inl (cI, 30, .inl (fun _ => 0))), (q_7, .inl (cI, 30, .inl (fun _ => 0))), (q_8, .inl (cI, 30, .inl (fun _ => 0))), (q_10, .inl (cI, 20, .inl (fun _ => 0)))] H := hP
  have hD : va_D A [(h0, .inr (11, [.ref q_1, .int 0, .int 0, .ref q_2, .ref q_3, .ref q_4, .int 0, .ref q_5, .int 0, .ref q_6, .ref q_7, .ref q_8, .ref q_9, .int 0, .long 0, .long 0, .int 0, .int 0, .ref q_10, .null, .null, .null, .int 0, .null, .null, .null, .null, .null, .null])), (q_1, .inl (cB, 2000, .inl (fun _ => 0))), (q_2, .inl (cI, 20, .inl (fun _ => 0))), (q_4, .inl (cI, 20, .inl (fun _ => 0))), (q_5, .inl (cJ, 30, .inr (.inl (fun _ => 0)))), (q_6, .inl (cI, 30, .inl (fun _ => 0))), (q_7, .inl (cI, 30, .inl (fun _ => 0))), (q_8, .inl (cI, 30, .inl (fun _ => 0))), (q_10, .inl (cI, 20, .inl (fun _ => 0)))] := hD
  refine lv_aload_n hx hb d_Mm_init_93 rfl (lv_at hl 0 rfl) ?_
  refine lv_bipush (v := 20) hx hb d_Mm_init_94 (by decide) ?_
  refine xx_newa (a0 := (20, .inl (fun _ => 0))) (ty := .int) (cA := cI) hx hb rfl hK (hts _ m_82) 1 rfl hP hD hS hA (fun _ => rfl) (by decide) (by decide) (by decide) (Nat.le_of_ble_eq_true rfl) (Nat.le_of_ble_eq_true rfl) d_Mm_init_96 (fun q_11 H hP hD hS => ?_)
  refine W.widen (k := 61) (n := 4210) (Nat.le_of_ble_eq_true rfl) (Nat.le_of_ble_eq_true rfl) ?_
  have hP : va_P G classes [(h0, .inr (11, [.ref q_1, .int 0, .int 0, .ref q_2, .ref q_3, .ref q_4, .int 0, .ref q_5, .int 0, .ref q_6, .ref q_7, .ref q_8, .ref q_9, .int 0, .long 0, .long 0, .int 0, .int 0, .ref q_10, .null, .null, .null, .int 0, .null, .null, .null, .null, .null, .null])), (q_1, .inl (cB, 2000, .inl (fun _ => 0))), (q_2, .inl (cI, 20, .inl (fun _ => 0))), (q_4, .inl (cI, 20, .inl (fun _ => 0))), (q_5, .inl (cJ, 30, .inr (.inl (fun _ => 0)))), (q_6, .inl (cI, 30, .inl (fun _ => 0))), (q_7, .inl (cI, 30, .inl (fun _ => 0))), (q_8, .inl (cI, 30, .inl (fun _ => 0))), (q_10, .inl (cI, 20, .inl (fun _ => 0))), (q_11, .inl (cI, 20, .inl (fun _ => 0)))] H := hP
  have hD : va_D A [(h0, .inr (11, [.ref q_1, .int 0, .int 0, .ref q_2, .ref q_3, .ref q_4, .int 0, .ref q_5, .int 0, .ref q_6, .ref q_7, .ref q_8, .ref q_9, .int 0, .long 0, .long 0, .int 0, .int 0, .ref q_10, .null, .null, .null, .int 0, .null, .null, .null, .null, .null, .null])), (q_1, .inl (cB, 2000, .inl (fun _ => 0))), (q_2, .inl (cI, 20, .inl (fun _ => 0))), (q_4, .inl (cI, 20, .inl (fun _ => 0))), (q_5, .inl (cJ, 30, .inr (.inl (fun _ => 0)))), (q_6, .inl (cI, 30, .inl (fun _ => 0))), (q_7, .inl (cI, 30, .inl (fun _ => 0))), (q_8, .inl (cI, 30, .inl (fun _ => 0))), (q_10, .inl (cI, 20, .inl (fun _ => 0))), (q_11, .inl (cI, 20, .inl (fun _ => 0)))] := hD
  refine va_putF (D := G) (ci := 11) (v := .ref q_11) (ty := .array .int) (C := R_Mm) (T := F_Mm) (N := 29) hx hb hts i_Mm t_Mm t_Mm_ok n_Mm hown hK hP hD hS 0 rfl rfl 19 (by decide) (hts _ m_1193) (fun _ h9 => h9) rfl hin rfl (by decide +kernel) rfl rfl (Nat.le_of_ble_eq_true rfl) d_Mm_init_98 (fun H locs hP hD hS => ?_)
  have hP : va_P G classes [(h0, .inr (11, [.ref q_1, .int 0, .int 0, .ref q_2, .ref q_3, .ref q_4, .int 0, .ref q_5, .int 0, .ref q_6, .ref q_7, .ref q_8, .ref q_9, .int 0, .long 0, .long 0, .int 0, .int 0, .ref q_10, .ref q_11, .null, .null, .int 0, .null, .null, .null, .null, .null, .null])), (q_1, .inl (cB, 2000, .inl (fun _ => 0))), (q_2, .inl (cI, 20, .inl (fun _ => 0))), (q_4, .inl (cI, 20, .inl (fun _ => 0))), (q_5, .inl (cJ, 30, .inr (.inl (fun _ => 0)))), (q_6, .inl (cI, 30, .inl (fun _ => 0))), (q_7, .inl (cI, 30, .inl (fun _ => 0))), (q_8, .inl (cI, 30, .inl (fun _ => 0))), (q_10, .inl (cI, 20, .inl (fun _ => 0))), (q_11, .inl (cI, 20, .inl (fun _ => 0)))] H := hP
  have hD : va_D A [(h0, .inr (11, [.ref q_1, .int 0, .int 0, .ref q_2, .ref q_3, .ref q_4, .int 0, .ref q_5, .int 0, .ref q_6, .ref q_7, .ref q_8, .ref q_9, .int 0, .long 0, .long 0, .int 0, .int 0, .ref q_10, .ref q_11, .null, .null, .int 0, .null, .null, .null, .null, .null, .null])), (q_1, .inl (cB, 2000, .inl (fun _ => 0))), (q_2, .inl (cI, 20, .inl (fun _ => 0))), (q_4, .inl (cI, 20, .inl (fun _ => 0))), (q_5, .inl (cJ, 30, .inr (.inl (fun _ => 0)))), (q_6, .inl (cI, 30, .inl (fun _ => 0))), (q_7, .inl (cI, 30, .inl (fun _ => 0))), (q_8, .inl (cI, 30, .inl (fun _ => 0))), (q_10, .inl (cI, 20, .inl (fun _ => 0))), (q_11, .inl (cI, 20, .inl (fun _ => 0)))] := hD
  refine lv_aload_n hx hb d_Mm_init_101 rfl (lv_at hl 0 rfl) ?_
  refine lv_bipush (v := 20) hx hb d_Mm_init_102 (by decide) ?_
  refine xx_newa (a0 := (20, .inl (fun _ => 0))) (ty := .boolean) (cA := cZ) hx hb rfl hK (hts _ m_145) 3 rfl hP hD hS hA (fun _ => rfl) (by decide) (by decide) (by decide) (Nat.le_of_ble_eq_true rfl) (Nat.le_of_ble_eq_true rfl) d_Mm_init_104 (fun q_12 H hP hD hS => ?_)
  refine W.widen (k := 62) (n := 4230) (Nat.le_of_ble_eq_true rfl) (Nat.le_of_ble_eq_true rfl) ?_
  have hP : va_P G classes [(h0, .inr (11, [.ref q_1, .int 0, .int 0, .ref q_2, .ref q_3, .ref q_4, .int 0, .ref q_5, .int 0, .ref q_6, .ref q_7, .ref q_8, .ref q_9, .int 0, .long 0, .long 0, .int 0, .int 0, .ref q_10, .ref q_11, .null, .null, .int 0, .null, .null, .null, .null, .null, .null])), (q_1, .inl (cB, 2000, .inl (fun _ => 0))), (q_2, .inl (cI, 20, .inl (fun _ => 0))), (q_4, .inl (cI, 20, .inl (fun _ => 0))), (q_5, .inl (cJ, 30, .inr (.inl (fun _ => 0)))), (q_6, .inl (cI, 30, .inl (fun _ => 0))), (q_7, .inl (cI, 30, .inl (fun _ => 0))), (q_8, .inl (cI, 30, .inl (fun _ => 0))), (q_10, .inl (cI, 20, .inl (fun _ => 0))), (q_11, .inl (cI, 20, .inl (fun _ => 0))), (q_12, .inl (cZ, 20, .inl (fun _ => 0)))] H := hP
  have hD : va_D A [(h0, .inr (11, [.ref q_1, .int 0, .int 0, .ref q_2, .ref q_3, .ref q_4, .int 0, .ref q_5, .int 0, .ref q_6, .ref q_7, .ref q_8, .ref q_9, .int 0, .long 0, .long 0, .int 0, .int 0, .ref q_10, .ref q_11, .null, .null, .int 0, .null, .null, .null, .null, .null, .null])), (q_1, .inl (cB, 2000, .inl (fun _ => 0))), (q_2, .inl (cI, 20, .inl (fun _ => 0))), (q_4, .inl (cI, 20, .inl (fun _ => 0))), (q_5, .inl (cJ, 30, .inr (.inl (fun _ => 0)))), (q_6, .inl (cI, 30, .inl (fun _ => 0))), (q_7, .inl (cI, 30, .inl (fun _ => 0))), (q_8, .inl (cI, 30, .inl (fun _ => 0))), (q_10, .inl (cI, 20, .inl (fun _ => 0))), (q_11, .inl (cI, 20, .inl (fun _ => 0))), (q_12, .inl (cZ, 20, .inl (fun _ => 0)))] := hD
  refine va_putF (D := G) (ci := 11) (v := .ref q_12) (ty := .array .boolean) (C := R_Mm) (T := F_Mm) (N := 29) hx hb hts i_Mm t_Mm t_Mm_ok n_Mm hown hK hP hD hS 0 rfl rfl 20 (by decide) (hts _ m_1195) (fun _ h9 => h9) rfl hin rfl (by decide +kernel) rfl rfl (Nat.le_of_ble_eq_true rfl) d_Mm_init_106 (fun H locs hP hD hS => ?_)
  have hP : va_P G classes [(h0, .inr (11, [.ref q_1, .int 0, .int 0, .ref q_2, .ref q_3, .ref q_4, .int 0, .ref q_5, .int 0, .ref q_6, .ref q_7, .ref q_8, .ref q_9, .int 0, .long 0, .long 0, .int 0, .int 0, .ref q_10, .ref q_11, .ref q_12, .null, .int 0, .null, .null, .null, .null, .null, .null])), (q_1, .inl (cB, 2000, .inl (fun _ => 0))), (q_2, .inl (cI, 20, .inl (fun _ => 0))), (q_4, .inl (cI, 20, .inl (fun _ => 0))), (q_5, .inl (cJ, 30, .inr (.inl (fun _ => 0)))), (q_6, .inl (cI, 30, .inl (fun _ => 0))), (q_7, .inl (cI, 30, .inl (fun _ => 0))), (q_8, .inl (cI, 30, .inl (fun _ => 0))), (q_10, .inl (cI, 20, .inl (fun _ => 0))), (q_11, .inl (cI, 20, .inl (fun _ => 0))), (q_12, .inl (cZ, 20, .inl (fun _ => 0)))] H := hP
  have hD : va_D A [(h0, .inr (11, [.ref q_1, .int 0, .int 0, .ref q_2, .ref q_3, .ref q_4, .int 0, .ref q_5, .int 0, .ref q_6, .ref q_7, .ref q_8, .ref q_9, .int 0, .long 0, .long 0, .int 0, .int 0, .ref q_10, .ref q_11, .ref q_12, .null, .int 0, .null, .null, .null, .null, .null, .null])), (q_1, .inl (cB, 2000, .inl (fun _ => 0))), (q_2, .inl (cI, 20, .inl (fun _ => 0))), (q_4, .inl (cI, 20, .inl (fun _ => 0))), (q_5, .inl (cJ, 30, .inr (.inl (fun _ => 0)))), (q_6, .inl (cI, 30, .inl (fun _ => 0))), (q_7, .inl (cI, 30, .inl (fun _ => 0))), (q_8, .inl (cI, 30, .inl (fun _ => 0))), (q_10, .inl (cI, 20, .inl (fun _ => 0))), (q_11, .inl (cI, 20, .inl (fun _ => 0))), (q_12, .inl (cZ, 20, .inl (fun _ => 0)))] := hD
  refine lv_aload_n hx hb d_Mm_init_109 rfl (lv_at hl 0 rfl) ?_
  refine lv_bipush (v := 20) hx hb d_Mm_init_110 (by decide) ?_
  refine xx_newa (a0 := (20, .inr (.inl (fun _ => 0)))) (ty := .long) (cA := cJ) hx hb rfl hK (hts _ m_62) 2 rfl hP hD hS hA (fun _ => rfl) (by decide) (by decide) (by decide) (Nat.le_of_ble_eq_true rfl) (Nat.le_of_ble_eq_true rfl) d_Mm_init_112 (fun q_13 H hP hD hS => ?_)
  refine W.widen (k := 63) (n := 4250) (Nat.le_of_ble_eq_true rfl) (Nat.le_of_ble_eq_true rfl) ?_
  have hP : va_P G classes [(h0, .inr (11, [.ref q_1, .int 0, .int 0, .ref q_2, .ref q_3, .ref q_4, .int 0, .ref q_5, .int 0, .ref q_6, .ref q_7, .ref q_8, .ref q_9, .int 0, .long 0, .long 0, .int 0, .int 0, .ref q_10, .ref q_11, .ref q_12, .null, .int 0, .null, .null, .null, .null, .null, .null])), (q_1, .inl (cB, 2000, .inl (fun _ => 0))), (q_2, .inl (cI, 20, .inl (fun _ => 0))), (q_4, .inl (cI, 20, .inl (fun _ => 0))), (q_5, .inl (cJ, 30, .inr (.inl (fun _ => 0)))), (q_6, .inl (cI, 30, .inl (fun _ => 0))), (q_7, .inl (cI, 30, .inl (fun _ => 0))), (q_8, .inl (cI, 30, .inl (fun _ => 0))), (q_10, .inl (cI, 20, .inl (fun _ => 0))), (q_11, .inl (cI, 20, .inl (fun _ => 0))), (q_12, .inl (cZ, 20, .inl (fun _ => 0))), (q_13, .inl (cJ, 20, .inr (.inl (fun _ => 0))))] H := hP
  have hD : va_D A [(h0, .inr (11, [.ref q_1, .int 0, .int 0, .ref q_2, .ref q_3, .ref q_4, .int 0, .ref q_5, .int 0, .ref q_6, .ref q_7, .ref q_8, .ref q_9, .int 0, .long 0, .long 0, .int 0, .int 0, .ref q_10, .ref q_11, .ref q_12, .null, .int 0, .null, .null, .null, .null, .null, .null])), (q_1, .inl (cB, 2000, .inl (fun _ => 0))), (q_2, .inl (cI, 20, .inl (fun _ => 0))), (q_4, .inl (cI, 20, .inl (fun _ => 0))), (q_5, .inl (cJ, 30, .inr (.inl (fun _ => 0)))), (q_6, .inl (cI, 30, .inl (fun _ => 0))), (q_7, .inl (cI, 30, .inl (fun _ => 0))), (q_8, .inl (cI, 30, .inl (fun _ => 0))), (q_10, .inl (cI, 20, .inl (fun _ => 0))), (q_11, .inl (cI, 20, .inl (fun _ => 0))), (q_12, .inl (cZ, 20, .inl (fun _ => 0))), (q_13, .inl (cJ, 20, .inr (.inl (fun _ => 0))))] := hD
  refine va_putF (D := G) (ci := 11) (v := .ref q_13) (ty := .array .long) (C := R_Mm) (T := F_Mm) (N := 29) hx hb hts i_Mm t_Mm t_Mm_ok n_Mm hown hK hP hD hS 0 rfl rfl 21 (by decide) (hts _ m_1197) (fun _ h9 => h9) rfl hin rfl (by decide +kernel) rfl rfl (Nat.le_of_ble_eq_true rfl) d_Mm_init_114 (fun H locs hP hD hS => ?_)
  have hP : va_P G classes [(h0, .inr (11, [.ref q_1, .int 0, .int 0, .ref q_2, .ref q_3, .ref q_4, .int 0, .ref q_5, .int 0, .ref q_6, .ref q_7, .ref q_8, .ref q_9, .int 0, .long 0, .long 0, .int 0, .int 0, .ref q_10, .ref q_11, .ref q_12, .ref q_13, .int 0, .null, .null, .null, .null, .null, .null])), (q_1, .inl (cB, 2000, .inl (fun _ => 0))), (q_2, .inl (cI, 20, .inl (fun _ => 0))), (q_4, .inl (cI, 20, .inl (fun _ => 0))), (q_5, .inl (cJ, 30, .inr (.inl (fun _ => 0)))), (q_6, .inl (cI, 30, .inl (fun _ => 0))), (q_7, .inl (cI, 30, .inl (fun _ => 0))), (q_8, .inl (cI, 30, .inl (fun _ => 0))), (q_10, .inl (cI, 20, .inl (fun _ => 0))), (q_11, .inl (cI, 20, .inl (fun _ => 0))), (q_12, .inl (cZ, 20, .inl (fun _ => 0))), (q_13, .inl (cJ, 20, .inr (.inl (fun _ => 0))))] H := hP
  have hD : va_D A [(h0, .inr (11, [.ref q_1, .int 0, .int 0, .ref q_2, .ref q_3, .ref q_4, .int 0, .ref q_5, .int 0, .ref q_6, .ref q_7, .ref q_8, .ref q_9, .int 0, .long 0, .long 0, .int 0, .int 0, .ref q_10, .ref q_11, .ref q_12, .ref q_13, .int 0, .null, .null, .null, .null, .null, .null])), (q_1, .inl (cB, 2000, .inl (fun _ => 0))), (q_2, .inl (cI, 20, .inl (fun _ => 0))), (q_4, .inl (cI, 20, .inl (fun _ => 0))), (q_5, .inl (cJ, 30, .inr (.inl (fun _ => 0)))), (q_6, .inl (cI, 30, .inl (fun _ => 0))), (q_7, .inl (cI, 30, .inl (fun _ => 0))), (q_8, .inl (cI, 30, .inl (fun _ => 0))), (q_10, .inl (cI, 20, .inl (fun _ => 0))), (q_11, .inl (cI, 20, .inl (fun _ => 0))), (q_12, .inl (cZ, 20, .inl (fun _ => 0))), (q_13, .inl (cJ, 20, .inr (.inl (fun _ => 0))))] := hD
  refine lv_aload_n hx hb d_Mm_init_117 rfl (lv_at hl 0 rfl) ?_
  refine lv_bipush (v := 40) hx hb d_Mm_init_118 (by decide) ?_
  refine xx_newa (a0 := (40, .inl (fun _ => 0))) (ty := .int) (cA := cI) hx hb rfl hK (hts _ m_82) 1 rfl hP hD hS hA (fun _ => rfl) (by decide) (by decide) (by decide) (Nat.le_of_ble_eq_true rfl) (Nat.le_of_ble_eq_true rfl) d_Mm_init_120 (fun q_14 H hP hD hS => ?_)
  refine W.widen (k := 64) (n := 4290) (Nat.le_of_ble_eq_true rfl) (Nat.le_of_ble_eq_true rfl) ?_
  have hP : va_P G classes [(h0, .inr (11, [.ref q_1, .int 0, .int 0, .ref q_2, .ref q_3, .ref q_4, .int 0, .ref q_5, .int 0, .ref q_6, .ref q_7, .ref q_8, .ref q_9, .int 0, .long 0, .long 0, .int 0, .int 0, .ref q_10, .ref q_11, .ref q_12, .ref q_13, .int 0, .null, .null, .null, .null, .null, .null])), (q_1, .inl (cB, 2000, .inl (fun _ => 0))), (q_2, .inl (cI, 20, .inl (fun _ => 0))), (q_4, .inl (cI, 20, .inl (fun _ => 0))), (q_5, .inl (cJ, 30, .inr (.inl (fun _ => 0)))), (q_6, .inl (cI, 30, .inl (fun _ => 0))), (q_7, .inl (cI, 30, .inl (fun _ => 0))), (q_8, .inl (cI, 30, .inl (fun _ => 0))), (q_10, .inl (cI, 20, .inl (fun _ => 0))), (q_11, .inl (cI, 20, .inl (fun _ => 0))), (q_12, .inl (cZ, 20, .inl (fun _ => 0))), (q_13, .inl (cJ, 20, .inr (.inl (fun _ => 0)))), (q_14, .inl (cI, 40, .inl (fun _ => 0)))] H := hP
  have hD : va_D A [(h0, .inr (11, [.ref q_1, .int 0, .int 0, .ref q_2, .ref q_3, .ref q_4, .int 0, .ref q_5, .int 0, .ref q_6, .ref q_7, .ref q_8, .ref q_9, .int 0, .long 0, .long 0, .int 0, .int 0, .ref q_10, .ref q_11, .ref q_12, .ref q_13, .int 0, .null, .null, .null, .null, .null, .null])), (q_1, .inl (cB, 2000, .inl (fun _ => 0))), (q_2, .inl (cI, 20, .inl (fun _ => 0))), (q_4, .inl (cI, 20, .inl (fun _ => 0))), (q_5, .inl (cJ, 30, .inr (.inl (fun _ => 0)))), (q_6, .inl (cI, 30, .inl (fun _ => 0))), (q_7, .inl (cI, 30, .inl (fun _ => 0))), (q_8, .inl (cI, 30, .inl (fun _ => 0))), (q_10, .inl (cI, 20, .inl (fun _ => 0))), (q_11, .inl (cI, 20, .inl (fun _ => 0))), (q_12, .inl (cZ, 20, .inl (fun _ => 0))), (q_13, .inl (cJ, 20, .inr (.inl (fun _ => 0)))), (q_14, .inl (cI, 40, .inl (fun _ => 0)))] := hD
  refine va_putF (D := G) (ci := 11) (v := .ref q_14) (ty := .array .int) (C := R_Mm) (T := F_Mm) (N := 29) hx hb hts i_Mm t_Mm t_Mm_ok n_Mm hown hK hP hD hS 0 rfl rfl 23 (by decide) (hts _ m_1200) (fun _ h9 => h9) rfl hin rfl (by decide +kernel) rfl rfl (Nat.le_of_ble_eq_true rfl) d_Mm_init_122 (fun H locs hP hD hS => ?_)
  have hP : va_P G classes [(h0, .inr (11, [.ref q_1, .int 0, .int 0, .ref q_2, .ref q_3, .ref q_4, .int 0, .ref q_5, .int 0, .ref q_6, .ref q_7, .ref q_8, .ref q_9, .int 0, .long 0, .long 0, .int 0, .int 0, .ref q_10, .ref q_11, .ref q_12, .ref q_13, .int 0, .ref q_14, .null, .null, .null, .null, .null])), (q_1, .inl (cB, 2000, .inl (fun _ => 0))), (q_2, .inl (cI, 20, .inl (fun _ => 0))), (q_4, .inl (cI, 20, .inl (fun _ => 0))), (q_5, .inl (cJ, 30, .inr (.inl (fun _ => 0)))), (q_6, .inl (cI, 30, .inl (fun _ => 0))), (q_7, .inl (cI, 30, .inl (fun _ => 0))), (q_8, .inl (cI, 30, .inl (fun _ => 0))), (q_10, .inl (cI, 20, .inl (fun _ => 0))), (q_11, .inl (cI, 20, .inl (fun _ => 0))), (q_12, .inl (cZ, 20, .inl (fun _ => 0))), (q_13, .inl (cJ, 20, .inr (.inl (fun _ => 0)))), (q_14, .inl (cI, 40, .inl (fun _ => 0)))] H := hP
  have hD : va_D A [(h0, .inr (11, [.ref q_1, .int 0, .int 0, .ref q_2, .ref q_3, .ref q_4, .int 0, .ref q_5, .int 0, .ref q_6, .ref q_7, .ref q_8, .ref q_9, .int 0, .long 0, .long 0, .int 0, .int 0, .ref q_10, .ref q_11, .ref q_12, .ref q_13, .int 0, .ref q_14, .null, .null, .null, .null, .null])), (q_1, .inl (cB, 2000, .inl (fun _ => 0))), (q_2, .inl (cI, 20, .inl (fun _ => 0))), (q_4, .inl (cI, 20, .inl (fun _ => 0))), (q_5, .inl (cJ, 30, .inr (.inl (fun _ => 0)))), (q_6, .inl (cI, 30, .inl (fun _ => 0))), (q_7, .inl (cI, 30, .inl (fun _ => 0))), (q_8, .inl (cI, 30, .inl (fun _ => 0))), (q_10, .inl (cI, 20, .inl (fun _ => 0))), (q_11, .inl (cI, 20, .inl (fun _ => 0))), (q_12, .inl (cZ, 20, .inl (fun _ => 0))), (q_13, .inl (cJ, 20, .inr (.inl (fun _ => 0)))), (q_14, .inl (cI, 40, .inl (fun _ => 0)))] := hD
  refine lv_aload_n hx hb d_Mm_init_125 rfl (lv_at hl 0 rfl) ?_
  refine lv_bipush (v := 40) hx hb d_Mm_init_126 (by decide) ?_
  refine xx_newa (a0 := (40, .inr (.inl (fun _ => 0)))) (ty := .long) (cA := cJ) hx hb rfl hK (hts _ m_62) 2 rfl hP hD hS hA (fun _ => rfl) (by decide) (by decide) (by decide) (Nat.le_of_ble_eq_true rfl) (Nat.le_of_ble_eq_true rfl) d_Mm_init_128 (fun q_15 H hP hD hS => ?_)
  refine W.widen (k := 65) (n := 4330) (Nat.le_of_ble_eq_true rfl) (Nat.le_of_ble_eq_true rfl) ?_
  have hP : va_P G classes [(h0, .inr (11, [.ref q_1, .int 0, .int 0, .ref q_2, .ref q_3, .ref q_4, .int 0, .ref q_5, .int 0, .ref q_6, .ref q_7, .ref q_8, .ref q_9, .int 0, .long 0, .long 0, .int 0, .int 0, .ref q_10, .ref q_11, .ref q_12, .ref q_13, .int 0, .ref q_14, .null, .null, .null, .null, .null])), (q_1, .inl (cB, 2000, .inl (fun _ => 0))), (q_2, .inl (cI, 20, .inl (fun _ => 0))), (q_4, .inl (cI, 20, .inl (fun _ => 0))), (q_5, .inl (cJ, 30, .inr (.inl (fun _ => 0)))), (q_6, .inl (cI, 30, .inl (fun _ => 0))), (q_7, .inl (cI, 30, .inl (fun _ => 0))), (q_8, .inl (cI, 30, .inl (fun _ => 0))), (q_10, .inl (cI, 20, .inl (fun _ => 0))), (q_11, .inl (cI, 20, .inl (fun _ => 0))), (q_12, .inl (cZ, 20, .inl (fun _ => 0))), (q_13, .inl (cJ, 20, .inr (.inl (fun _ => 0)))), (q_14, .inl (cI, 40, .inl (fun _ => 0))), (q_15, .inl (cJ, 40, .inr (.inl (fun _ => 0))))] H := hP
  have hD : va_D A [(h0, .inr (11, [.ref q_1, .int 0, .int 0, .ref q_2, .ref q_3, .ref q_4, .int 0, .ref q_5, .int 0, .ref q_6, .ref q_7, .ref q_8, .ref q_9, .int 0, .long 0, .long 0, .int 0, .int 0, .ref q_10, .ref q_11, .ref q_12, .ref q_13, .int 0, .ref q_14, .null, .null, .null, .null, .null])), (q_1, .inl (cB, 2000, .inl (fun _ => 0))), (q_2, .inl (cI, 20, .inl (fun _ => 0))), (q_4, .inl (cI, 20, .inl (fun _ => 0))), (q_5, .inl (cJ, 30, .inr (.inl (fun _ => 0)))), (q_6, .inl (cI, 30, .inl (fun _ => 0))), (q_7, .inl (cI, 30, .inl (fun _ => 0))), (q_8, .inl (cI, 30, .inl (fun _ => 0))), (q_10, .inl (cI, 20, .inl (fun _ => 0))), (q_11, .inl (cI, 20, .inl (fun _ => 0))), (q_12, .inl (cZ, 20, .inl (fun _ => 0))), (q_13, .inl (cJ, 20, .inr (.inl (fun _ => 0)))), (q_14, .inl (cI, 40, .inl (fun _ => 0))), (q_15, .inl (cJ, 40, .inr (.inl (fun _ => 0))))] := hD
  refine va_putF (D := G) (ci := 11) (v := .ref q_15) (ty := .array .long) (C := R_Mm) (T := F_Mm) (N := 29) hx hb hts i_Mm t_Mm t_Mm_ok n_Mm hown hK hP hD hS 0 rfl rfl 24 (by decide) (hts _ m_1202) (fun _ h9 => h9) rfl hin rfl (by decide +kernel) rfl rfl (Nat.le_of_ble_eq_true rfl) d_Mm_init_130 (fun H locs hP hD hS => ?_)
  have hP : va_P G classes [(h0, .inr (11, [.ref q_1, .int 0, .int 0, .ref q_2, .ref q_3, .ref q_4, .int 0, .ref q_5, .int 0, .ref q_6, .ref q_7, .ref q_8, .ref q_9, .int 0, .long 0, .long 0, .int 0, .int 0, .ref q_10, .ref q_11, .ref q_12, .ref q_13, .int 0, .ref q_14, .ref q_15, .null, .null, .null, .null])), (q_1, .inl (cB, 2000, .inl (fun _ => 0))), (q_2, .inl (cI, 20, .inl (fun _ => 0))), (q_4, .inl (cI, 20, .inl (fun _ => 0))), (q_5, .inl (cJ, 30, .inr (.inl (fun _ => 0)))), (q_6, .inl (cI, 30, .inl (fun _ => 0))), (q_7, .inl (cI, 30, .inl (fun _ => 0))), (q_8, .inl (cI, 30, .inl (fun _ => 0))), (q_10, .inl (cI, 20, .inl (fun _ => 0))), (q_11, .inl (cI, 20, .inl (fun _ => 0))), (q_12, .inl (cZ, 20, .inl (fun _ => 0))), (q_13, .inl (cJ, 20, .inr (.inl (fun _ => 0)))), (q_14, .inl (cI, 40, .inl (fun _ => 0))), (q_15, .inl (cJ, 40, .inr (.inl (fun _ => 0))))] H := hP
  have hD : va_D A [(h0, .inr (11, [.ref q_1, .int 0, .int 0, .ref q_2, .ref q_3, .ref q_4, .int 0, .ref q_5, .int 0, .ref q_6, .ref q_7, .ref q_8, .ref q_9, .int 0, .long 0, .long 0, .int 0, .int 0, .ref q_10, .ref q_11, .ref q_12, .ref q_13, .int 0, .ref q_14, .ref q_15, .null, .null, .null, .null])), (q_1, .inl (cB, 2000, .inl (fun _ => 0))), (q_2, .inl (cI, 20, .inl (fun _ => 0))), (q_4, .inl (cI, 20, .inl (fun _ => 0))), (q_5, .inl (cJ, 30, .inr (.inl (fun _ => 0)))), (q_6, .inl (cI, 30, .inl (fun _ => 0))), (q_7, .inl (cI, 30, .inl (fun _ => 0))), (q_8, .inl (cI, 30, .inl (fun _ => 0))), (q_10, .inl (cI, 20, .inl (fun _ => 0))), (q_11, .inl (cI, 20, .inl (fun _ => 0))), (q_12, .inl (cZ, 20, .inl (fun _ => 0))), (q_13, .inl (cJ, 20, .inr (.inl (fun _ => 0)))), (q_14, .inl (cI, 40, .inl (fun _ => 0))), (q_15, .inl (cJ, 40, .inr (.inl (fun _ => 0))))] := hD
  refine lv_aload_n hx hb d_Mm_init_133 rfl (lv_at hl 0 rfl) ?_
  refine lv_bipush (v := 40) hx hb d_Mm_init_134 (by decide) ?_
  refine xx_newa (a0 := (40, .inl (fun _ => 0))) (ty := .int) (cA := cI) hx hb rfl hK (hts _ m_82) 1 rfl hP hD hS hA (fun _ => rfl) (by decide) (by decide) (by decide) (Nat.le_of_ble_eq_true rfl) (Nat.le_of_ble_eq_true rfl) d_Mm_init_136 (fun q_16 H hP hD hS => ?_)
  refine W.widen (k := 66) (n := 4370) (Nat.le_of_ble_eq_true rfl) (Nat.le_of_ble_eq_true rfl) ?_
  have hP : va_P G classes [(h0, .inr (11, [.ref q_1, .int 0, .int 0, .ref q_2, .ref q_3, .ref q_4, .int 0, .ref q_5, .int 0, .ref q_6, .ref q_7, .ref q_8, .ref q_9, .int 0, .long 0, .long 0, .int 0, .int 0, .ref q_10, .ref q_11, .ref q_12, .ref q_13, .int 0, .ref q_14, .ref q_15, .null, .null, .null, .null])), (q_1, .inl (cB, 2000, .inl (fun _ => 0))), (q_2, .inl (cI, 20, .inl (fun _ => 0))), (q_4, .inl (cI, 20, .inl (fun _ => 0))), (q_5, .inl (cJ, 30, .inr (.inl (fun _ => 0)))), (q_6, .inl (cI, 30, .inl (fun _ => 0))), (q_7, .inl (cI, 30, .inl (fun _ => 0))), (q_8, .inl (cI, 30, .inl (fun _ => 0))), (q_10, .inl (cI, 20, .inl (fun _ => 0))), (q_11, .inl (cI, 20, .inl (fun _ => 0))), (q_12, .inl (cZ, 20, .inl (fun _ => 0))), (q_13, .inl (cJ, 20, .inr (.inl (fun _ => 0)))), (q_14, .inl (cI, 40, .inl (fun _ => 0))), (q_15, .inl (cJ, 40, .inr (.inl (fun _ => 0)))), (q_16, .inl (cI, 40, .inl (fun _ => 0)))] H := hP
  have hD : va_D A [(h0, .inr (11, [.ref q_1, .int 0, .int 0, .ref q_2, .ref q_3, .ref q_4, .int 0, .ref q_5, .int 0, .ref q_6, .ref q_7, .ref q_8, .ref q_9, .int 0, .long 0, .long 0, .int 0, .int 0, .ref q_10, .ref q_11, .ref q_12, .ref q_13, .int 0, .ref q_14, .ref q_15, .null, .null, .null, .null])), (q_1, .inl (cB, 2000, .inl (fun _ => 0))), (q_2, .inl (cI, 20, .inl (fun _ => 0))), (q_4, .inl (cI, 20, .inl (fun _ => 0))), (q_5, .inl (cJ, 30, .inr (.inl (fun _ => 0)))), (q_6, .inl (cI, 30, .inl (fun _ => 0))), (q_7, .inl (cI, 30, .inl (fun _ => 0))), (q_8, .inl (cI, 30, .inl (fun _ => 0))), (q_10, .inl (cI, 20, .inl (fun _ => 0))), (q_11, .inl (cI, 20, .inl (fun _ => 0))), (q_12, .inl (cZ, 20, .inl (fun _ => 0))), (q_13, .inl (cJ, 20, .inr (.inl (fun _ => 0)))), (q_14, .inl (cI, 40, .inl (fun _ => 0))), (q_15, .inl (cJ, 40, .inr (.inl (fun _ => 0)))), (q_16, .inl (cI, 40, .inl (fun _ => 0)))] := hD
  refine va_putF (D := G) (ci := 11) (v := .ref q_16) (ty := .array .int) (C := R_Mm) (T := F_Mm) (N := 29) hx hb hts i_Mm t_Mm t_Mm_ok n_Mm hown hK hP hD hS 0 rfl rfl 25 (by decide) (hts _ m_1204) (fun _ h9 => h9) rfl hin rfl (by decide +kernel) rfl rfl (Nat.le_of_ble_eq_true rfl) d_Mm_init_138 (fun H locs hP hD hS => ?_)
  have hP : va_P G classes [(h0, .inr (11, [.ref q_1, .int 0, .int 0, .ref q_2, .ref q_3, .ref q_4, .int 0, .ref q_5, .int 0, .ref q_6, .ref q_7, .ref q_8, .ref q_9, .int 0, .long 0, .long 0, .int 0, .int 0, .ref q_10, .ref q_11, .ref q_12, .ref q_13, .int 0, .ref q_14, .ref q_15, .ref q_16, .null, .null, .null])), (q_1, .inl (cB, 2000, .inl (fun _ => 0))), (q_2, .inl (cI, 20, .inl (fun _ => 0))), (q_4, .inl (cI, 20, .inl (fun _ => 0))), (q_5, .inl (cJ, 30, .inr (.inl (fun _ => 0)))), (q_6, .inl (cI, 30, .inl (fun _ => 0))), (q_7, .inl (cI, 30, .inl (fun _ => 0))), (q_8, .inl (cI, 30, .inl (fun _ => 0))), (q_10, .inl (cI, 20, .inl (fun _ => 0))), (q_11, .inl (cI, 20, .inl (fun _ => 0))), (q_12, .inl (cZ, 20, .inl (fun _ => 0))), (q_13, .inl (cJ, 20, .inr (.inl (fun _ => 0)))), (q_14, .inl (cI, 40, .inl (fun _ => 0))), (q_15, .inl (cJ, 40, .inr (.inl (fun _ => 0)))), (q_16, .inl (cI, 40, .inl (fun _ => 0)))] H := hP
  have hD : va_D A [(h0, .inr (11, [.ref q_1, .int 0, .int 0, .ref q_2, .ref q_3, .ref q_4, .int 0, .ref q_5, .int 0, .ref q_6, .ref q_7, .ref q_8, .ref q_9, .int 0, .long 0, .long 0, .int 0, .int 0, .ref q_10, .ref q_11, .ref q_12, .ref q_13, .int 0, .ref q_14, .ref q_15, .ref q_16, .null, .null, .null])), (q_1, .inl (cB, 2000, .inl (fun _ => 0))), (q_2, .inl (cI, 20, .inl (fun _ => 0))), (q_4, .inl (cI, 20, .inl (fun _ => 0))), (q_5, .inl (cJ, 30, .inr (.inl (fun _ => 0)))), (q_6, .inl (cI, 30, .inl (fun _ => 0))), (q_7, .inl (cI, 30, .inl (fun _ => 0))), (q_8, .inl (cI, 30, .inl (fun _ => 0))), (q_10, .inl (cI, 20, .inl (fun _ => 0))), (q_11, .inl (cI, 20, .inl (fun _ => 0))), (q_12, .inl (cZ, 20, .inl (fun _ => 0))), (q_13, .inl (cJ, 20, .inr (.inl (fun _ => 0)))), (q_14, .inl (cI, 40, .inl (fun _ => 0))), (q_15, .inl (cJ, 40, .inr (.inl (fun _ => 0)))), (q_16, .inl (cI, 40, .inl (fun _ => 0)))] := hD
  refine lv_aload_n hx hb d_Mm_init_141 rfl (lv_at hl 0 rfl) ?_
  refine lv_bipush (v := 40) hx hb d_Mm_init_142 (by decide) ?_
  refine xx_newa (a0 := (40, .inl (fun _ => 0))) (ty := .int) (cA := cI) hx hb rfl hK (hts _ m_82) 1 rfl hP hD hS hA (fun _ => rfl) (by decide) (by decide) (by decide) (Nat.le_of_ble_eq_true rfl) (Nat.le_of_ble_eq_true rfl) d_Mm_init_144 (fun q_17 H hP hD hS => ?_)
  refine W.widen (k := 67) (n := 4410) (Nat.le_of_ble_eq_true rfl) (Nat.le_of_ble_eq_true rfl) ?_
  have hP : va_P G classes [(h0, .inr (11, [.ref q_1, .int 0, .int 0, .ref q_2, .ref q_3, .ref q_4, .int 0, .ref q_5, .int 0, .ref q_6, .ref q_7, .ref q_8, .ref q_9, .int 0, .long 0, .long 0, .int 0, .int 0, .ref q_10, .ref q_11, .ref q_12, .ref q_13, .int 0, .ref q_14, .ref q_15, .ref q_16, .null, .null, .null])), (q_1, .inl (cB, 2000, .inl (fun _ => 0))), (q_2, .inl (cI, 20, .inl (fun _ => 0))), (q_4, .inl (cI, 20, .inl (fun _ => 0))), (q_5, .inl (cJ, 30, .inr (.inl (fun _ => 0)))), (q_6, .inl (cI, 30, .inl (fun _ => 0))), (q_7, .inl (cI, 30, .inl (fun _ => 0))), (q_8, .inl (cI, 30, .inl (fun _ => 0))), (q_10, .inl (cI, 20, .inl (fun _ => 0))), (q_11, .inl (cI, 20, .inl (fun _ => 0))), (q_12, .inl (cZ, 20, .inl (fun _ => 0))), (q_13, .inl (cJ, 20, .inr (.inl (fun _ => 0)))), (q_14, .inl (cI, 40, .inl (fun _ => 0))), (q_15, .inl (cJ, 40, .inr (.inl (fun _ => 0)))), (q_16, .inl (cI, 40, .inl (fun _ => 0))), (q_17, .inl (cI, 40, .inl (fun _ => 0)))] H := hP
  have hD : va_D A [(h0, .inr (11, [.ref q_1, .int 0, .int 0, .ref q_2, .ref q_3, .ref q_4, .int 0, .ref q_5, .int 0, .ref q_6, .ref q_7, .ref q_8, .ref q_9, .int 0, .long 0, .long 0, .int 0, .int 0, .ref q_10, .ref q_11, .ref q_12, .ref q_13, .int 0, .ref q_14, .ref q_15, .ref q_16, .null, .null, .null])), (q_1, .inl (cB, 2000, .inl (fun _ => 0))), (q_2, .inl (cI, 20, .inl (fun _ => 0))), (q_4, .inl (cI, 20, .inl (fun _ => 0))), (q_5, .inl (cJ, 30, .inr (.inl (fun _ => 0)))), (q_6, .inl (cI, 30, .inl (fun _ => 0))), (q_7, .inl (cI, 30, .inl (fun _ => 0))), (q_8, .inl (cI, 30, .inl (fun _ => 0))), (q_10, .inl (cI, 20, .inl (fun _ => 0))), (q_11, .inl (cI, 20, .inl (fun _ => 0))), (q_12, .inl (cZ, 20, .inl (fun _ => 0))), (q_13, .inl (cJ, 20, .inr (.inl (fun _ => 0)))), (q_14, .inl (cI, 40, .inl (fun _ => 0))), (q_15, .inl (cJ, 40, .inr (.inl (fun _ => 0)))), (q_16, .inl (cI, 40, .inl (fun _ => 0))), (q_17, .inl (cI, 40, .inl (fun _ => 0)))] := hD
  refine va_putF (D := G) (ci := 11) (v := .ref q_17) (ty := .array .int) (C := R_Mm) (T := F_Mm) (N := 29) hx hb hts i_Mm t_Mm t_Mm_ok n_Mm hown hK hP hD hS 0 rfl rfl 26 (by decide) (hts _ m_1206) (fun _ h9 => h9) rfl hin rfl (by decide +kernel) rfl rfl (Nat.le_of_ble_eq_true rfl) d_Mm_init_146 (fun H locs hP hD hS => ?_)
  have hP : va_P G classes [(h0, .inr (11, [.ref q_1, .int 0, .int 0, .ref q_2, .ref q_3, .ref q_4, .int 0, .ref q_5, .int 0, .ref q_6, .ref q_7, .ref q_8, .ref q_9, .int 0, .long 0, .long 0, .int 0, .int 0, .ref q_10, .ref q_11, .ref q_12, .ref q_13, .int 0, .ref q_14, .ref q_15, .ref q_16, .ref q_17, .null, .null])), (q_1, .inl (cB, 2000, .inl (fun _ => 0))), (q_2, .inl (cI, 20, .inl (fun _ => 0))), (q_4, .inl (cI, 20, .inl (fun _ => 0))), (q_5, .inl (cJ, 30, .inr (.inl (fun _ => 0)))), (q_6, .inl (cI, 30, .inl (fun _ => 0))), (q_7, .inl (cI, 30, .inl (fun _ => 0))), (q_8, .inl (cI, 30, .inl (fun _ => 0))), (q_10, .inl (cI, 20, .inl (fun _ => 0))), (q_11, .inl (cI, 20, .inl (fun _ => 0))), (q_12, .inl (cZ, 20, .inl (fun _ => 0))), (q_13, .inl (cJ, 20, .inr (.inl (fun _ => 0)))), (q_14, .inl (cI, 40, .inl (fun _ => 0))), (q_15, .inl (cJ, 40, .inr (.inl (fun _ => 0)))), (q_16, .inl (cI, 40, .inl (fun _ => 0))), (q_17, .inl (cI, 40, .inl (fun _ => 0)))] H := hP
  have hD : va_D A [(h0, .inr (11, [.ref q_1, .int 0, .int 0, .ref q_2, .ref q_3, .ref q_4, .int 0, .ref q_5, .int 0, .ref q_6, .ref q_7, .ref q_8, .ref q_9, .int 0, .long 0, .long 0, .int 0, .int 0, .ref q_10, .ref q_11, .ref q_12, .ref q_13, .int 0, .ref q_14, .ref q_15, .ref q_16, .ref q_17, .null, .null])), (q_1, .inl (cB, 2000, .inl (fun _ => 0))), (q_2, .inl (cI, 20, .inl (fun _ => 0))), (q_4, .inl (cI, 20, .inl (fun _ => 0))), (q_5, .inl (cJ, 30, .inr (.inl (fun _ => 0)))), (q_6, .inl (cI, 30, .inl (fun _ => 0))), (q_7, .inl (cI, 30, .inl (fun _ => 0))), (q_8, .inl (cI, 30, .inl (fun _ => 0))), (q_10, .inl (cI, 20, .inl (fun _ => 0))), (q_11, .inl (cI, 20, .inl (fun _ => 0))), (q_12, .inl (cZ, 20, .inl (fun _ => 0))), (q_13, .inl (cJ, 20, .inr (.inl (fun _ => 0)))), (q_14, .inl (cI, 40, .inl (fun _ => 0))), (q_15, .inl (cJ, 40, .inr (.inl (fun _ => 0)))), (q_16, .inl (cI, 40, .inl (fun _ => 0))), (q_17, .inl (cI, 40, .inl (fun _ => 0)))] := hD
  refine lv_aload_n hx hb d_Mm_init_149 rfl (lv_at hl 0 rfl) ?_
  refine lv_sipush (v := 2000) hx hb d_Mm_init_150 (by decide) ?_
  refine xx_newa (a0 := (2000, .inl (fun _ => 0))) (ty := .int) (cA := cI) hx hb rfl hK (hts _ m_82) 1 rfl hP hD hS hA (fun _ => rfl) (by decide) (by decide) (by decide) (Nat.le_of_ble_eq_true rfl) (Nat.le_of_ble_eq_true rfl) d_Mm_init_153 (fun q_18 H hP hD hS => ?_)
  refine W.widen (k := 68) (n := 6410) (Nat.le_of_ble_eq_true rfl) (Nat.le_of_ble_eq_true rfl) ?_
  have hP : va_P G classes [(h0, .inr (11, [.ref q_1, .int 0, .int 0, .ref q_2, .ref q_3, .ref q_4, .int 0, .ref q_5, .int 0, .ref q_6, .ref q_7, .ref q_8, .ref q_9, .int 0, .long 0, .long 0, .int 0, .int 0, .ref q_10, .ref q_11, .ref q_12, .ref q_13, .int 0, .ref q_14, .ref q_15, .ref q_16, .ref q_17, .null, .null])), (q_1, .inl (cB, 2000, .inl (fun _ => 0))), (q_2, .inl (cI, 20, .inl (fun _ => 0))), (q_4, .inl (cI, 20, .inl (fun _ => 0))), (q_5, .inl (cJ, 30, .inr (.inl (fun _ => 0)))), (q_6, .inl (cI, 30, .inl (fun _ => 0))), (q_7, .inl (cI, 30, .inl (fun _ => 0))), (q_8, .inl (cI, 30, .inl (fun _ => 0))), (q_10, .inl (cI, 20, .inl (fun _ => 0))), (q_11, .inl (cI, 20, .inl (fun _ => 0))), (q_12, .inl (cZ, 20, .inl (fun _ => 0))), (q_13, .inl (cJ, 20, .inr (.inl (fun _ => 0)))), (q_14, .inl (cI, 40, .inl (fun _ => 0))), (q_15, .inl (cJ, 40, .inr (.inl (fun _ => 0)))), (q_16, .inl (cI, 40, .inl (fun _ => 0))), (q_17, .inl (cI, 40, .inl (fun _ => 0))), (q_18, .inl (cI, 2000, .inl (fun _ => 0)))] H := hP
  have hD : va_D A [(h0, .inr (11, [.ref q_1, .int 0, .int 0, .ref q_2, .ref q_3, .ref q_4, .int 0, .ref q_5, .int 0, .ref q_6, .ref q_7, .ref q_8, .ref q_9, .int 0, .long 0, .long 0, .int 0, .int 0, .ref q_10, .ref q_11, .ref q_12, .ref q_13, .int 0, .ref q_14, .ref q_15, .ref q_16, .ref q_17, .null, .null])), (q_1, .inl (cB, 2000, .inl (fun _ => 0))), (q_2, .inl (cI, 20, .inl (fun _ => 0))), (q_4, .inl (cI, 20, .inl (fun _ => 0))), (q_5, .inl (cJ, 30, .inr (.inl (fun _ => 0)))), (q_6, .inl (cI, 30, .inl (fun _ => 0))), (q_7, .inl (cI, 30, .inl (fun _ => 0))), (q_8, .inl (cI, 30, .inl (fun _ => 0))), (q_10, .inl (cI, 20, .inl (fun _ => 0))), (q_11, .inl (cI, 20, .inl (fun _ => 0))), (q_12, .inl (cZ, 20, .inl (fun _ => 0))), (q_13, .inl (cJ, 20, .inr (.inl (fun _ => 0)))), (q_14, .inl (cI, 40, .inl (fun _ => 0))), (q_15, .inl (cJ, 40, .inr (.inl (fun _ => 0)))), (q_16, .inl (cI, 40, .inl (fun _ => 0))), (q_17, .inl (cI, 40, .inl (fun _ => 0))), (q_18, .inl (cI, 2000, .inl (fun _ => 0)))] := hD
  refine va_putF (D := G) (ci := 11) (v := .ref q_18) (ty := .array .int) (C := R_Mm) (T := F_Mm) (N := 29) hx hb hts i_Mm t_Mm t_Mm_ok n_Mm hown hK hP hD hS 0 rfl rfl 27 (by decide) (hts _ m_1208) (fun _ h9 => h9) rfl hin rfl (by decide +kernel) rfl rfl (Nat.le_of_ble_eq_true rfl) d_Mm_init_155 (fun H locs hP hD hS => ?_)
  have hP : va_P G classes [(h0, .inr (11, [.ref q_1, .int 0, .int 0, .ref q_2, .ref q_3, .ref q_4, .int 0, .ref q_5, .int 0, .ref q_6, .ref q_7, .ref q_8, .ref q_9, .int 0, .long 0, .long 0, .int 0, .int 0, .ref q_10, .ref q_11, .ref q_12, .ref q_13, .int 0, .ref q_14, .ref q_15, .ref q_16, .ref q_17, .ref q_18, .null])), (q_1, .inl (cB, 2000, .inl (fun _ => 0))), (q_2, .inl (cI, 20, .inl (fun _ => 0))), (q_4, .inl (cI, 20, .inl (fun _ => 0))), (q_5, .inl (cJ, 30, .inr (.inl (fun _ => 0)))), (q_6, .inl (cI, 30, .inl (fun _ => 0))), (q_7, .inl (cI, 30, .inl (fun _ => 0))), (q_8, .inl (cI, 30, .inl (fun _ => 0))), (q_10, .inl (cI, 20, .inl (fun _ => 0))), (q_11, .inl (cI, 20, .inl (fun _ => 0))), (q_12, .inl (cZ, 20, .inl (fun _ => 0))), (q_13, .inl (cJ, 20, .inr (.inl (fun _ => 0)))), (q_14, .inl (cI, 40, .inl (fun _ => 0))), (q_15, .inl (cJ, 40, .inr (.inl (fun _ => 0)))), (q_16, .inl (cI, 40, .inl (fun _ => 0))), (q_17, .inl (cI, 40, .inl (fun _ => 0))), (q_18, .inl (cI, 2000, .inl (fun _ => 0)))] H := hP
  have hD : va_D A [(h0, .inr (11, [.ref q_1, .int 0, .int 0, .ref q_2, .ref q_3, .ref q_4, .int 0, .ref q_5, .int 0, .ref q_6, .ref q_7, .ref q_8, .ref q_9, .int 0, .long 0, .long 0, .int 0, .int 0, .ref q_10, .ref q_11, .ref q_12, .ref q_13, .int 0, .ref q_14, .ref q_15, .ref q_16, .ref q_17, .ref q_18, .null])), (q_1, .inl (cB, 2000, .inl (fun _ => 0))), (q_2, .inl (cI, 20, .inl (fun _ => 0))), (q_4, .inl (cI, 20, .inl (fun _ => 0))), (q_5, .inl (cJ, 30, .inr (.inl (fun _ => 0)))), (q_6, .inl (cI, 30, .inl (fun _ => 0))), (q_7, .inl (cI, 30, .inl (fun _ => 0))), (q_8, .inl (cI, 30, .inl (fun _ => 0))), (q_10, .inl (cI, 20, .inl (fun _ => 0))), (q_11, .inl (cI, 20, .inl (fun _ => 0))), (q_12, .inl (cZ, 20, .inl (fun _ => 0))), (q_13, .inl (cJ, 20, .inr (.inl (fun _ => 0)))), (q_14, .inl (cI, 40, .inl (fun _ => 0))), (q_15, .inl (cJ, 40, .inr (.inl (fun _ => 0)))), (q_16, .inl (cI, 40, .inl (fun _ => 0))), (q_17, .inl (cI, 40, .inl (fun _ => 0))), (q_18, .inl (cI, 2000, .inl (fun _ => 0)))] := hD
  refine lv_aload_n hx hb d_Mm_init_158 rfl (lv_at hl 0 rfl) ?_
  refine lv_sipush (v := 2000) hx hb d_Mm_init_159 (by decide) ?_
  refine xx_newa (a0 := (2000, .inl (fun _ => 0))) (ty := .int) (cA := cI) hx hb rfl hK (hts _ m_82) 1 rfl hP hD hS hA (fun _ => rfl) (by decide) (by decide) (by decide) (Nat.le_of_ble_eq_true rfl) (Nat.le_of_ble_eq_true rfl) d_Mm_init_162 (fun q_19 H hP hD hS => ?_)
  refine W.widen (k := 69) (n := 8410) (Nat.le_of_ble_eq_true rfl) (Nat.le_of_ble_eq_true rfl) ?_
  have hP : va_P G classes [(h0, .inr (11, [.ref q_1, .int 0, .int 0, .ref q_2, .ref q_3, .ref q_4, .int 0, .ref q_5, .int 0, .ref q_6, .ref q_7, .ref q_8, .ref q_9, .int 0, .long 0, .long 0, .int 0, .int 0, .ref q_10, .ref q_11, .ref q_12, .ref q_13, .int 0, .ref q_14, .ref q_15, .ref q_16, .ref q_17, .ref q_18, .null])), (q_1, .inl (cB, 2000, .inl (fun _ => 0))), (q_2, .inl (cI, 20, .inl (fun _ => 0))), (q_4, .inl (cI, 20, .inl (fun _ => 0))), (q_5, .inl (cJ, 30, .inr (.inl (fun _ => 0)))), (q_6, .inl (cI, 30, .inl (fun _ => 0))), (q_7, .inl (cI, 30, .inl (fun _ => 0))), (q_8, .inl (cI, 30, .inl (fun _ => 0))), (q_10, .inl (cI, 20, .inl (fun _ => 0))), (q_11, .inl (cI, 20, .inl (fun _ => 0))), (q_12, .inl (cZ, 20, .inl (fun _ => 0))), (q_13, .inl (cJ, 20, .inr (.inl (fun _ => 0)))), (q_14, .inl (cI, 40, .inl (fun _ => 0))), (q_15, .inl (cJ, 40, .inr (.inl (fun _ => 0)))), (q_16, .inl (cI, 40, .inl (fun _ => 0))), (q_17, .inl (cI, 40, .inl (fun _ => 0))), (q_18, .inl (cI, 2000, .inl (fun _ => 0))), (q_19, .inl (cI, 2000, .inl (fun _ => 0)))] H := hP
  have hD : va_D A [(h0, .inr (11, [.ref q_1, .int 0, .int 0, .ref q_2, .ref q_3, .ref q_4, .int 0, .ref q_5, .int 0, .ref q_6, .ref q_7, .ref q_8, .ref q_9, .int 0, .long 0, .long 0, .int 0, .int 0, .ref q_10, .ref q_11, .ref q_12, .ref q_13, .int 0, .ref q_14, .ref q_15, .ref q_16, .ref q_17, .ref q_18, .null])), (q_1, .inl (cB, 2000, .inl (fun _ => 0))), (q_2, .inl (cI, 20, .inl (fun _ => 0))), (q_4, .inl (cI, 20, .inl (fun _ => 0))), (q_5, .inl (cJ, 30, .inr (.inl (fun _ => 0)))), (q_6, .inl (cI, 30, .inl (fun _ => 0))), (q_7, .inl (cI, 30, .inl (fun _ => 0))), (q_8, .inl (cI, 30, .inl (fun _ => 0))), (q_10, .inl (cI, 20, .inl (fun _ => 0))), (q_11, .inl (cI, 20, .inl (fun _ => 0))), (q_12, .inl (cZ, 20, .inl (fun _ => 0))), (q_13, .inl (cJ, 20, .inr (.inl (fun _ => 0)))), (q_14, .inl (cI, 40, .inl (fun _ => 0))), (q_15, .inl (cJ, 40, .inr (.inl (fun _ => 0)))), (q_16, .inl (cI, 40, .inl (fun _ => 0))), (q_17, .inl (cI, 40, .inl (fun _ => 0))), (q_18, .inl (cI, 2000, .inl (fun _ => 0))), (q_19, .inl (cI, 2000, .inl (fun _ => 0)))] := hD
  refine va_putF (D := G) (ci := 11) (v := .ref q_19) (ty := .array .int) (C := R_Mm) (T := F_Mm) (N := 29) hx hb hts i_Mm t_Mm t_Mm_ok n_Mm hown hK hP hD hS 0 rfl rfl 28 (by decide) (hts _ m_1210) (fun _ h9 => h9) rfl hin rfl (by decide +kernel) rfl rfl (Nat.le_of_ble_eq_true rfl) d_Mm_init_164 (fun H locs hP hD hS => ?_)
  have hP : va_P G classes [(h0, .inr (11, [.ref q_1, .int 0, .int 0, .ref q_2, .ref q_3, .ref q_4, .int 0, .ref q_5, .int 0, .ref q_6, .ref q_7, .ref q_8, .ref q_9, .int 0, .long 0, .long 0, .int 0, .int 0, .ref q_10, .ref q_11, .ref q_12, .ref q_13, .int 0, .ref q_14, .ref q_15, .ref q_16, .ref q_17, .ref q_18, .ref q_19])), (q_1, .inl (cB, 2000, .inl (fun _ => 0))), (q_2, .inl (cI, 20, .inl (fun _ => 0))), (q_4, .inl (cI, 20, .inl (fun _ => 0))), (q_5, .inl (cJ, 30, .inr (.inl (fun _ => 0)))), (q_6, .inl (cI, 30, .inl (fun _ => 0))), (q_7, .inl (cI, 30, .inl (fun _ => 0))), (q_8, .inl (cI, 30, .inl (fun _ => 0))), (q_10, .inl (cI, 20, .inl (fun _ => 0))), (q_11, .inl (cI, 20, .inl (fun _ => 0))), (q_12, .inl (cZ, 20, .inl (fun _ => 0))), (q_13, .inl (cJ, 20, .inr (.inl (fun _ => 0)))), (q_14, .inl (cI, 40, .inl (fun _ => 0))), (q_15, .inl (cJ, 40, .inr (.inl (fun _ => 0)))), (q_16, .inl (cI, 40, .inl (fun _ => 0))), (q_17, .inl (cI, 40, .inl (fun _ => 0))), (q_18, .inl (cI, 2000, .inl (fun _ => 0))), (q_19, .inl (cI, 2000, .inl (fun _ => 0)))] H := hP
  have hD : va_D A [(h0, .inr (11, [.ref q_1, .int 0, .int 0, .ref q_2, .ref q_3, .ref q_4, .int 0, .ref q_5, .int 0, .ref q_6, .ref q_7, .ref q_8, .ref q_9, .int 0, .long 0, .long 0, .int 0, .int 0, .ref q_10, .ref q_11, .ref q_12, .ref q_13, .int 0, .ref q_14, .ref q_15, .ref q_16, .ref q_17, .ref q_18, .ref q_19])), (q_1, .inl (cB, 2000, .inl (fun _ => 0))), (q_2, .inl (cI, 20, .inl (fun _ => 0))), (q_4, .inl (cI, 20, .inl (fun _ => 0))), (q_5, .inl (cJ, 30, .inr (.inl (fun _ => 0)))), (q_6, .inl (cI, 30, .inl (fun _ => 0))), (q_7, .inl (cI, 30, .inl (fun _ => 0))), (q_8, .inl (cI, 30, .inl (fun _ => 0))), (q_10, .inl (cI, 20, .inl (fun _ => 0))), (q_11, .inl (cI, 20, .inl (fun _ => 0))), (q_12, .inl (cZ, 20, .inl (fun _ => 0))), (q_13, .inl (cJ, 20, .inr (.inl (fun _ => 0)))), (q_14, .inl (cI, 40, .inl (fun _ => 0))), (q_15, .inl (cJ, 40, .inr (.inl (fun _ => 0)))), (q_16, .inl (cI, 40, .inl (fun _ => 0))), (q_17, .inl (cI, 40, .inl (fun _ => 0))), (q_18, .inl (cI, 2000, .inl (fun _ => 0))), (q_19, .inl (cI, 2000, .inl (fun _ => 0)))] := hD
  exact ex_W (fun _ h => ex_mq h) (W.vret hx hb hr (fun t ht hW => ⟨⟨_, ⟨q_1, q_2, q_4, q_5, q_6, q_7, q_8, q_10, q_11, q_12, q_13, q_14, q_15, q_16, q_17, q_18, q_19, q_3, q_9, rfl, rfl⟩, by rw [ht]; exact hP, hD⟩, hS.F ht⟩) hS.2.2 d_Mm_init_167)
