abbrev b_Rd_init : ByteArray := prog_9_method_1_code
def y_Rd_init : MethodName := ⟨R_Rd, "<init>", "()V"⟩
abbrev b_Va_init : ByteArray := prog_11_method_1_code
def y_Va_init : MethodName := ⟨R_Va, "<init>", "()V"⟩
abbrev b_Ma_init : ByteArray := prog_7_method_1_code
def y_Ma_init : MethodName := ⟨R_Ma, "<init>", "()V"⟩
abbrev b_Wa_init : ByteArray := prog_12_method_1_code
def y_Wa_init : MethodName := ⟨R_Wa, "<init>", "()V"⟩
theorem d_Rd_init_0 : decode b_Rd_init 0 = .ok (.aload_n 0, 1) := by decide +kernel
theorem d_Rd_init_1 : decode b_Rd_init 1 = .ok (.invokespecial 3, 3) := by decide +kernel
theorem d_Rd_init_4 : decode b_Rd_init 4 = .ok (.aload_n 0, 1) := by decide +kernel
theorem d_Rd_init_5 : decode b_Rd_init 5 = .ok (.new 9, 3) := by decide +kernel
theorem d_Rd_init_8 : decode b_Rd_init 8 = .ok (.dup, 1) := by decide +kernel
theorem d_Rd_init_9 : decode b_Rd_init 9 = .ok (.invokespecial 11, 3) := by decide +kernel
theorem d_Rd_init_12 : decode b_Rd_init 12 = .ok (.putfield 12, 3) := by decide +kernel
theorem d_Rd_init_15 : decode b_Rd_init 15 = .ok (.aload_n 0, 1) := by decide +kernel
theorem d_Rd_init_16 : decode b_Rd_init 16 = .ok (.new 18, 3) := by decide +kernel
theorem d_Rd_init_19 : decode b_Rd_init 19 = .ok (.dup, 1) := by decide +kernel
theorem d_Rd_init_20 : decode b_Rd_init 20 = .ok (.invokespecial 20, 3) := by decide +kernel
theorem d_Rd_init_23 : decode b_Rd_init 23 = .ok (.putfield 21, 3) := by decide +kernel
theorem d_Rd_init_26 : decode b_Rd_init 26 = .ok (.return_, 1) := by decide +kernel
theorem d_Va_init_0 : decode b_Va_init 0 = .ok (.aload_n 0, 1) := by decide +kernel
theorem d_Va_init_1 : decode b_Va_init 1 = .ok (.invokespecial 3, 3) := by decide +kernel
theorem d_Va_init_4 : decode b_Va_init 4 = .ok (.aload_n 0, 1) := by decide +kernel
theorem d_Va_init_5 : decode b_Va_init 5 = .ok (.new 9, 3) := by decide +kernel
theorem d_Va_init_8 : decode b_Va_init 8 = .ok (.dup, 1) := by decide +kernel
theorem d_Va_init_9 : decode b_Va_init 9 = .ok (.invokespecial 11, 3) := by decide +kernel
theorem d_Va_init_12 : decode b_Va_init 12 = .ok (.putfield 12, 3) := by decide +kernel
theorem d_Va_init_15 : decode b_Va_init 15 = .ok (.return_, 1) := by decide +kernel
theorem d_Ma_init_0 : decode b_Ma_init 0 = .ok (.aload_n 0, 1) := by decide +kernel
theorem d_Ma_init_1 : decode b_Ma_init 1 = .ok (.invokespecial 3, 3) := by decide +kernel
theorem d_Ma_init_4 : decode b_Ma_init 4 = .ok (.aload_n 0, 1) := by decide +kernel
theorem d_Ma_init_5 : decode b_Ma_init 5 = .ok (.ldc 9, 2) := by decide +kernel
theorem d_Ma_init_7 : decode b_Ma_init 7 = .ok (.newarray .byte, 2) := by decide +kernel
theorem d_Ma_init_9 : decode b_Ma_init 9 = .ok (.putfield 10, 3) := by decide +kernel
theorem d_Ma_init_12 : decode b_Ma_init 12 = .ok (.aload_n 0, 1) := by decide +kernel
theorem d_Ma_init_13 : decode b_Ma_init 13 = .ok (.bipush 20, 2) := by decide +kernel
theorem d_Ma_init_15 : decode b_Ma_init 15 = .ok (.newarray .long, 2) := by decide +kernel
theorem d_Ma_init_17 : decode b_Ma_init 17 = .ok (.putfield 18, 3) := by decide +kernel
theorem d_Ma_init_20 : decode b_Ma_init 20 = .ok (.aload_n 0, 1) := by decide +kernel
theorem d_Ma_init_21 : decode b_Ma_init 21 = .ok (.sipush 12096, 3) := by decide +kernel
theorem d_Ma_init_24 : decode b_Ma_init 24 = .ok (.newarray .long, 2) := by decide +kernel
theorem d_Ma_init_26 : decode b_Ma_init 26 = .ok (.putfield 22, 3) := by decide +kernel
theorem d_Ma_init_29 : decode b_Ma_init 29 = .ok (.aload_n 0, 1) := by decide +kernel
theorem d_Ma_init_30 : decode b_Ma_init 30 = .ok (.bipush 100, 2) := by decide +kernel
theorem d_Ma_init_32 : decode b_Ma_init 32 = .ok (.newarray .int, 2) := by decide +kernel
theorem d_Ma_init_34 : decode b_Ma_init 34 = .ok (.putfield 25, 3) := by decide +kernel
theorem d_Ma_init_37 : decode b_Ma_init 37 = .ok (.aload_n 0, 1) := by decide +kernel
theorem d_Ma_init_38 : decode b_Ma_init 38 = .ok (.bipush 100, 2) := by decide +kernel
theorem d_Ma_init_40 : decode b_Ma_init 40 = .ok (.newarray .int, 2) := by decide +kernel
theorem d_Ma_init_42 : decode b_Ma_init 42 = .ok (.putfield 29, 3) := by decide +kernel
theorem d_Ma_init_45 : decode b_Ma_init 45 = .ok (.aload_n 0, 1) := by decide +kernel
theorem d_Ma_init_46 : decode b_Ma_init 46 = .ok (.bipush 100, 2) := by decide +kernel
theorem d_Ma_init_48 : decode b_Ma_init 48 = .ok (.newarray .int, 2) := by decide +kernel
theorem d_Ma_init_50 : decode b_Ma_init 50 = .ok (.putfield 32, 3) := by decide +kernel
theorem d_Ma_init_53 : decode b_Ma_init 53 = .ok (.return_, 1) := by decide +kernel
theorem d_Wa_init_0 : decode b_Wa_init 0 = .ok (.aload_n 0, 1) := by decide +kernel
theorem d_Wa_init_1 : decode b_Wa_init 1 = .ok (.invokespecial 3, 3) := by decide +kernel
theorem d_Wa_init_4 : decode b_Wa_init 4 = .ok (.aload_n 0, 1) := by decide +kernel
theorem d_Wa_init_5 : decode b_Wa_init 5 = .ok (.bipush 20, 2) := by decide +kernel
theorem d_Wa_init_7 : decode b_Wa_init 7 = .ok (.newarray .int, 2) := by decide +kernel
theorem d_Wa_init_9 : decode b_Wa_init 9 = .ok (.putfield 11, 3) := by decide +kernel
theorem d_Wa_init_12 : decode b_Wa_init 12 = .ok (.aload_n 0, 1) := by decide +kernel
theorem d_Wa_init_13 : decode b_Wa_init 13 = .ok (.sipush 160, 3) := by decide +kernel
theorem d_Wa_init_16 : decode b_Wa_init 16 = .ok (.newarray .int, 2) := by decide +kernel
theorem d_Wa_init_18 : decode b_Wa_init 18 = .ok (.putfield 15, 3) := by decide +kernel
theorem d_Wa_init_21 : decode b_Wa_init 21 = .ok (.aload_n 0, 1) := by decide +kernel
theorem d_Wa_init_22 : decode b_Wa_init 22 = .ok (.bipush 20, 2) := by decide +kernel
theorem d_Wa_init_24 : decode b_Wa_init 24 = .ok (.newarray .int, 2) := by decide +kernel
theorem d_Wa_init_26 : decode b_Wa_init 26 = .ok (.putfield 18, 3) := by decide +kernel
theorem d_Wa_init_29 : decode b_Wa_init 29 = .ok (.aload_n 0, 1) := by decide +kernel
theorem d_Wa_init_30 : decode b_Wa_init 30 = .ok (.bipush 30, 2) := by decide +kernel
theorem d_Wa_init_32 : decode b_Wa_init 32 = .ok (.newarray .int, 2) := by decide +kernel
theorem d_Wa_init_34 : decode b_Wa_init 34 = .ok (.putfield 21, 3) := by decide +kernel
theorem d_Wa_init_37 : decode b_Wa_init 37 = .ok (.aload_n 0, 1) := by decide +kernel
theorem d_Wa_init_38 : decode b_Wa_init 38 = .ok (.bipush 30, 2) := by decide +kernel
theorem d_Wa_init_40 : decode b_Wa_init 40 = .ok (.newarray .int, 2) := by decide +kernel
theorem d_Wa_init_42 : decode b_Wa_init 42 = .ok (.putfield 24, 3) := by decide +kernel
theorem d_Wa_init_45 : decode b_Wa_init 45 = .ok (.aload_n 0, 1) := by decide +kernel
theorem d_Wa_init_46 : decode b_Wa_init 46 = .ok (.bipush 30, 2) := by decide +kernel
theorem d_Wa_init_48 : decode b_Wa_init 48 = .ok (.newarray .int, 2) := by decide +kernel
theorem d_Wa_init_50 : decode b_Wa_init 50 = .ok (.putfield 27, 3) := by decide +kernel
theorem d_Wa_init_53 : decode b_Wa_init 53 = .ok (.aload_n 0, 1) := by decide +kernel
theorem d_Wa_init_54 : decode b_Wa_init 54 = .ok (.sipush 1800, 3) := by decide +kernel
theorem d_Wa_init_57 : decode b_Wa_init 57 = .ok (.newarray .int, 2) := by decide +kernel
theorem d_Wa_init_59 : decode b_Wa_init 59 = .ok (.putfield 30, 3) := by decide +kernel
theorem d_Wa_init_62 : decode b_Wa_init 62 = .ok (.aload_n 0, 1) := by decide +kernel
theorem d_Wa_init_63 : decode b_Wa_init 63 = .ok (.bipush 20, 2) := by decide +kernel
theorem d_Wa_init_65 : decode b_Wa_init 65 = .ok (.newarray .int, 2) := by decide +kernel
theorem d_Wa_init_67 : decode b_Wa_init 67 = .ok (.putfield 33, 3) := by decide +kernel
theorem d_Wa_init_70 : decode b_Wa_init 70 = .ok (.aload_n 0, 1) := by decide +kernel
theorem d_Wa_init_71 : decode b_Wa_init 71 = .ok (.bipush 20, 2) := by decide +kernel
theorem d_Wa_init_73 : decode b_Wa_init 73 = .ok (.newarray .boolean, 2) := by decide +kernel
theorem d_Wa_init_75 : decode b_Wa_init 75 = .ok (.putfield 36, 3) := by decide +kernel
theorem d_Wa_init_78 : decode b_Wa_init 78 = .ok (.aload_n 0, 1) := by decide +kernel
theorem d_Wa_init_79 : decode b_Wa_init 79 = .ok (.bipush 20, 2) := by decide +kernel
theorem d_Wa_init_81 : decode b_Wa_init 81 = .ok (.newarray .int, 2) := by decide +kernel
theorem d_Wa_init_83 : decode b_Wa_init 83 = .ok (.putfield 40, 3) := by decide +kernel
theorem d_Wa_init_86 : decode b_Wa_init 86 = .ok (.aload_n 0, 1) := by decide +kernel
theorem d_Wa_init_87 : decode b_Wa_init 87 = .ok (.bipush 20, 2) := by decide +kernel
theorem d_Wa_init_89 : decode b_Wa_init 89 = .ok (.newarray .long, 2) := by decide +kernel
theorem d_Wa_init_91 : decode b_Wa_init 91 = .ok (.putfield 43, 3) := by decide +kernel
theorem d_Wa_init_94 : decode b_Wa_init 94 = .ok (.aload_n 0, 1) := by decide +kernel
theorem d_Wa_init_95 : decode b_Wa_init 95 = .ok (.new 47, 3) := by decide +kernel
theorem d_Wa_init_98 : decode b_Wa_init 98 = .ok (.dup, 1) := by decide +kernel
theorem d_Wa_init_99 : decode b_Wa_init 99 = .ok (.invokespecial 49, 3) := by decide +kernel
theorem d_Wa_init_102 : decode b_Wa_init 102 = .ok (.putfield 50, 3) := by decide +kernel
theorem d_Wa_init_105 : decode b_Wa_init 105 = .ok (.aload_n 0, 1) := by decide +kernel
theorem d_Wa_init_106 : decode b_Wa_init 106 = .ok (.new 54, 3) := by decide +kernel
theorem d_Wa_init_109 : decode b_Wa_init 109 = .ok (.dup, 1) := by decide +kernel
theorem d_Wa_init_110 : decode b_Wa_init 110 = .ok (.invokespecial 56, 3) := by decide +kernel
theorem d_Wa_init_113 : decode b_Wa_init 113 = .ok (.putfield 57, 3) := by decide +kernel
theorem d_Wa_init_116 : decode b_Wa_init 116 = .ok (.return_, 1) := by decide +kernel
theorem m_41 : Cond.methodLink R_Rd 3 objectInit ∈ lw_good := lw_in (List.mem_append_right _ (List.mem_of_getElem? (i := 41) (by decide +kernel))) (by decide +kernel)
theorem m_42 : Cond.classLink R_Rd 9 R_So ∈ lw_good := lw_in (List.mem_append_right _ (List.mem_of_getElem? (i := 42) (by decide +kernel))) (by decide +kernel)
theorem m_43 : Cond.instantiable R_So 4 ∈ lw_good := lw_in (List.mem_append_right _ (List.mem_of_getElem? (i := 43) (by decide +kernel))) (by decide +kernel)
theorem m_3 : Cond.initialized R_So ∈ lw_good := lw_in (List.mem_append_right _ (List.mem_of_getElem? (i := 3) (by decide +kernel))) (by decide +kernel)
theorem m_46 : Cond.code y_So_init b_So_init 1 none ∈ lw_good := lw_in (List.mem_append_right _ (List.mem_of_getElem? (i := 46) (by decide +kernel))) (by decide +kernel)
theorem m_45 : Cond.instanceMethod y_So_init ∈ lw_good := lw_in (List.mem_append_right _ (List.mem_of_getElem? (i := 45) (by decide +kernel))) (by decide +kernel)
theorem m_83 : Cond.fieldLink R_Rd 12 "WaferRunner$Reader" "source" "LWaferRunner$Source;" ∈ lw_good := lw_in (List.mem_append_right _ (List.mem_of_getElem? (i := 83) (by decide +kernel))) (by decide +kernel)
theorem m_63 : Cond.classLink R_Rd 18 R_BR ∈ lw_good := lw_in (List.mem_append_right _ (List.mem_of_getElem? (i := 63) (by decide +kernel))) (by decide +kernel)
theorem m_64 : Cond.instantiable R_BR 4 ∈ lw_good := lw_in (List.mem_append_right _ (List.mem_of_getElem? (i := 64) (by decide +kernel))) (by decide +kernel)
theorem m_4 : Cond.initialized R_BR ∈ lw_good := lw_in (List.mem_append_right _ (List.mem_of_getElem? (i := 4) (by decide +kernel))) (by decide +kernel)
theorem m_67 : Cond.code y_BR_init b_BR_init 1 none ∈ lw_good := lw_in (List.mem_append_right _ (List.mem_of_getElem? (i := 67) (by decide +kernel))) (by decide +kernel)
theorem m_65 : Cond.methodLink R_Rd 20 y_BR_init ∈ lw_good := lw_in (List.mem_append_right _ (List.mem_of_getElem? (i := 65) (by decide +kernel))) (by decide +kernel)
theorem m_66 : Cond.instanceMethod y_BR_init ∈ lw_good := lw_in (List.mem_append_right _ (List.mem_of_getElem? (i := 66) (by decide +kernel))) (by decide +kernel)
theorem m_84 : Cond.fieldLink R_Rd 21 "WaferRunner$Reader" "bodyReader" "LWaferRunner$BodyReader;" ∈ lw_good := lw_in (List.mem_append_right _ (List.mem_of_getElem? (i := 84) (by decide +kernel))) (by decide +kernel)
theorem m_101 : Cond.methodLink R_Va 3 objectInit ∈ lw_good := lw_in (List.mem_append_right _ (List.mem_of_getElem? (i := 101) (by decide +kernel))) (by decide +kernel)
theorem m_102 : Cond.classLink R_Va 9 R_BV ∈ lw_good := lw_in (List.mem_append_right _ (List.mem_of_getElem? (i := 102) (by decide +kernel))) (by decide +kernel)
theorem m_103 : Cond.instantiable R_BV 12 ∈ lw_good := lw_in (List.mem_append_right _ (List.mem_of_getElem? (i := 103) (by decide +kernel))) (by decide +kernel)
theorem m_6 : Cond.initialized R_BV ∈ lw_good := lw_in (List.mem_append_right _ (List.mem_of_getElem? (i := 6) (by decide +kernel))) (by decide +kernel)
theorem m_106 : Cond.code y_BV_init b_BV_init 1 none ∈ lw_good := lw_in (List.mem_append_right _ (List.mem_of_getElem? (i := 106) (by decide +kernel))) (by decide +kernel)
theorem m_104 : Cond.methodLink R_Va 11 y_BV_init ∈ lw_good := lw_in (List.mem_append_right _ (List.mem_of_getElem? (i := 104) (by decide +kernel))) (by decide +kernel)
theorem m_105 : Cond.instanceMethod y_BV_init ∈ lw_good := lw_in (List.mem_append_right _ (List.mem_of_getElem? (i := 105) (by decide +kernel))) (by decide +kernel)
theorem m_146 : Cond.fieldLink R_Va 12 "WaferRunner$Validator" "bodyValidator" "LWaferRunner$BodyValidator;" ∈ lw_good := lw_in (List.mem_append_right _ (List.mem_of_getElem? (i := 146) (by decide +kernel))) (by decide +kernel)
theorem m_155 : Cond.methodLink R_Ma 3 objectInit ∈ lw_good := lw_in (List.mem_append_right _ (List.mem_of_getElem? (i := 155) (by decide +kernel))) (by decide +kernel)
theorem m_156 : Cond.constant R_Ma 9 131072 ∈ lw_good := lw_in (List.mem_append_right _ (List.mem_of_getElem? (i := 156) (by decide +kernel))) (by decide +kernel)
theorem m_157 : Cond.fieldLink R_Ma 10 "WaferRunner$Machine" "bytes" "[B" ∈ lw_good := lw_in (List.mem_append_right _ (List.mem_of_getElem? (i := 157) (by decide +kernel))) (by decide +kernel)
theorem m_162 : Cond.fieldLink R_Ma 18 "WaferRunner$Machine" "globals" "[J" ∈ lw_good := lw_in (List.mem_append_right _ (List.mem_of_getElem? (i := 162) (by decide +kernel))) (by decide +kernel)
theorem m_170 : Cond.fieldLink R_Ma 22 "WaferRunner$Machine" "stack" "[J" ∈ lw_good := lw_in (List.mem_append_right _ (List.mem_of_getElem? (i := 170) (by decide +kernel))) (by decide +kernel)
theorem m_172 : Cond.fieldLink R_Ma 25 "WaferRunner$Machine" "functions" "[I" ∈ lw_good := lw_in (List.mem_append_right _ (List.mem_of_getElem? (i := 172) (by decide +kernel))) (by decide +kernel)
theorem m_173 : Cond.fieldLink R_Ma 29 "WaferRunner$Machine" "bases" "[I" ∈ lw_good := lw_in (List.mem_append_right _ (List.mem_of_getElem? (i := 173) (by decide +kernel))) (by decide +kernel)
theorem m_174 : Cond.fieldLink R_Ma 32 "WaferRunner$Machine" "returns" "[I" ∈ lw_good := lw_in (List.mem_append_right _ (List.mem_of_getElem? (i := 174) (by decide +kernel))) (by decide +kernel)
theorem m_218 : Cond.methodLink R_Wa 3 objectInit ∈ lw_good := lw_in (List.mem_append_right _ (List.mem_of_getElem? (i := 218) (by decide +kernel))) (by decide +kernel)
theorem m_317 : Cond.fieldLink R_Wa 11 "WaferRunner$Wafer" "parameterCounts" "[I" ∈ lw_good := lw_in (List.mem_append_right _ (List.mem_of_getElem? (i := 317) (by decide +kernel))) (by decide +kernel)
theorem m_319 : Cond.fieldLink R_Wa 15 "WaferRunner$Wafer" "parameters" "[I" ∈ lw_good := lw_in (List.mem_append_right _ (List.mem_of_getElem? (i := 319) (by decide +kernel))) (by decide +kernel)
theorem m_321 : Cond.fieldLink R_Wa 18 "WaferRunner$Wafer" "results" "[I" ∈ lw_good := lw_in (List.mem_append_right _ (List.mem_of_getElem? (i := 321) (by decide +kernel))) (by decide +kernel)
theorem m_328 : Cond.fieldLink R_Wa 21 "WaferRunner$Wafer" "functionTypes" "[I" ∈ lw_good := lw_in (List.mem_append_right _ (List.mem_of_getElem? (i := 328) (by decide +kernel))) (by decide +kernel)
theorem m_331 : Cond.fieldLink R_Wa 24 "WaferRunner$Wafer" "starts" "[I" ∈ lw_good := lw_in (List.mem_append_right _ (List.mem_of_getElem? (i := 331) (by decide +kernel))) (by decide +kernel)
theorem m_335 : Cond.fieldLink R_Wa 27 "WaferRunner$Wafer" "localCounts" "[I" ∈ lw_good := lw_in (List.mem_append_right _ (List.mem_of_getElem? (i := 335) (by decide +kernel))) (by decide +kernel)
theorem m_338 : Cond.fieldLink R_Wa 30 "WaferRunner$Wafer" "locals" "[I" ∈ lw_good := lw_in (List.mem_append_right _ (List.mem_of_getElem? (i := 338) (by decide +kernel))) (by decide +kernel)
theorem m_358 : Cond.fieldLink R_Wa 33 "WaferRunner$Wafer" "globalTypes" "[I" ∈ lw_good := lw_in (List.mem_append_right _ (List.mem_of_getElem? (i := 358) (by decide +kernel))) (by decide +kernel)
theorem m_362 : Cond.fieldLink R_Wa 36 "WaferRunner$Wafer" "globalsChange" "[Z" ∈ lw_good := lw_in (List.mem_append_right _ (List.mem_of_getElem? (i := 362) (by decide +kernel))) (by decide +kernel)
theorem m_365 : Cond.fieldLink R_Wa 40 "WaferRunner$Wafer" "initialTypes" "[I" ∈ lw_good := lw_in (List.mem_append_right _ (List.mem_of_getElem? (i := 365) (by decide +kernel))) (by decide +kernel)
theorem m_368 : Cond.fieldLink R_Wa 43 "WaferRunner$Wafer" "initialValues" "[J" ∈ lw_good := lw_in (List.mem_append_right _ (List.mem_of_getElem? (i := 368) (by decide +kernel))) (by decide +kernel)
theorem m_219 : Cond.classLink R_Wa 47 R_Ex ∈ lw_good := lw_in (List.mem_append_right _ (List.mem_of_getElem? (i := 219) (by decide +kernel))) (by decide +kernel)
theorem m_220 : Cond.instantiable R_Ex 5 ∈ lw_good := lw_in (List.mem_append_right _ (List.mem_of_getElem? (i := 220) (by decide +kernel))) (by decide +kernel)
theorem m_9 : Cond.initialized R_Ex ∈ lw_good := lw_in (List.mem_append_right _ (List.mem_of_getElem? (i := 9) (by decide +kernel))) (by decide +kernel)
theorem m_223 : Cond.code y_Ex_init b_Ex_init 1 none ∈ lw_good := lw_in (List.mem_append_right _ (List.mem_of_getElem? (i := 223) (by decide +kernel))) (by decide +kernel)
theorem m_221 : Cond.methodLink R_Wa 49 y_Ex_init ∈ lw_good := lw_in (List.mem_append_right _ (List.mem_of_getElem? (i := 221) (by decide +kernel))) (by decide +kernel)
theorem m_222 : Cond.instanceMethod y_Ex_init ∈ lw_good := lw_in (List.mem_append_right _ (List.mem_of_getElem? (i := 222) (by decide +kernel))) (by decide +kernel)
theorem m_371 : Cond.fieldLink R_Wa 50 "WaferRunner$Wafer" "exports" "LWaferRunner$Exports;" ∈ lw_good := lw_in (List.mem_append_right _ (List.mem_of_getElem? (i := 371) (by decide +kernel))) (by decide +kernel)
theorem m_250 : Cond.classLink R_Wa 54 R_Co ∈ lw_good := lw_in (List.mem_append_right _ (List.mem_of_getElem? (i := 250) (by decide +kernel))) (by decide +kernel)
theorem m_251 : Cond.instantiable R_Co 11 ∈ lw_good := lw_in (List.mem_append_right _ (List.mem_of_getElem? (i := 251) (by decide +kernel))) (by decide +kernel)
theorem m_10 : Cond.initialized R_Co ∈ lw_good := lw_in (List.mem_append_right _ (List.mem_of_getElem? (i := 10) (by decide +kernel))) (by decide +kernel)
theorem m_254 : Cond.code y_Co_init b_Co_init 1 none ∈ lw_good := lw_in (List.mem_append_right _ (List.mem_of_getElem? (i := 254) (by decide +kernel))) (by decide +kernel)
theorem m_252 : Cond.methodLink R_Wa 56 y_Co_init ∈ lw_good := lw_in (List.mem_append_right _ (List.mem_of_getElem? (i := 252) (by decide +kernel))) (by decide +kernel)
theorem m_253 : Cond.instanceMethod y_Co_init ∈ lw_good := lw_in (List.mem_append_right _ (List.mem_of_getElem? (i := 253) (by decide +kernel))) (by decide +kernel)
theorem m_375 : Cond.fieldLink R_Wa 57 "WaferRunner$Wafer" "code" "LWaferRunner$Code;" ∈ lw_good := lw_in (List.mem_append_right _ (List.mem_of_getElem? (i := 375) (by decide +kernel))) (by decide +kernel)
theorem n_44 : Cond.methodLinkNest R_Rd 11 y_So_init "WaferRunner" ∈ lw_nws := lw_nin (List.mem_of_getElem? (i := 44) (by decide +kernel)) (by decide +kernel)
set_option maxHeartbeats 8000000 in
set_option maxRecDepth 100000 in
theorem c_Rd_init (l : Launch) (htr : l.stackTraces = false) (G : va_G) (cB cI cJ cZ : ClassId) (h0 : Nat) (sz : Nat) : MetX l y_Rd_init (wx y_Rd_init b_Rd_init 1 none) { frames := 2, cells := 3, slots := 108, locals := 32 } (XP G classes (xtys cB cI cJ cZ) xE [.ref h0] [(h0, .inr (1, [.null, .null, .null, .int 0]))] sz) (XQ G classes (va_A [(h0, .inr (1, [.null, .null, .null, .int 0]))] sz) (fun o w1 => ∃ q_1 q_2 q_3 : Nat, o = .returned none ∧ w1 = [(h0, .inr (1, [.ref q_1, .ref q_2, .null, .int 0])), (q_1, .inr (3, [.null, .int 0, .int 0, .int 0])), (q_2, .inr (2, [.ref q_3, .int 0, .null, .null])), (q_3, .inl (cI, 100, .inl (fun _ => 0)))])) 3 108 (va_A [(h0, .inr (1, [.null, .null, .null, .int 0]))] sz) := by
  refine ex_ofW (cc := b_Rd_init) (maxL := 1) (ret := none) (by decide) rfl ?_
  intro p e s m args below meth c s₁ B hml hno hv
  obtain ⟨rfl, hsz, hP, hK, hD0, hE⟩ := hv
  have hx := B.exec
  have hb := B.bytes
  have hr := B.returns
  have hts : ∀ w ∈ lw_good, w.before _ s = true := fun w h => atoms_spec (ws := wx y_Rd_init b_Rd_init 1 none) B.pre w (List.mem_cons_of_mem _ h)
  have hown : s.vm.findClass R_Rd = some m.cls := findClass_of_methodNamed B.named
  have hlocks := B.notSynchronized
  have htr9 : e.platform.stackTraces = false := by rw [B.admits.platform]; exact htr
  have hin : meth.name = "<init>" := (name_of_methodNamed B.named B.method).1
  subst hsz
  have hNS := xx_nostat hP
  have hD := hD0.self (sz := s.heap.size)
  generalize hAe : va_A [(h0, .inr (1, [.null, .null, .null, .int 0]))] s.heap.size = A at hD hE hNS ⊢
  have hA : ∀ q : Nat, s.heap.size ≤ q → A q := fun q h => by rw [← hAe]; exact Or.inr h
  have hS : va_S A s.heap s.heap [] := va_S.rf
  have hl := lv_entry ([.ref h0]) (n := 1) (Nat.le_of_ble_eq_true rfl)
  rw [lg_entry_eq]
  generalize (lg_sl ([.ref h0]) ++ List.replicate (1 - (lg_sl ([.ref h0])).length) Slot.unset).toArray = ls at hl ⊢
  have hl : lv_has ls 1 [(0, .ref h0)] := hl
  refine lv_aload_n hx hb d_Rd_init_0 rfl (lv_at hl 0 rfl) ?_
  refine W.objInit hx hb hown (hts _ m_41) (hts _ m_34) (hts _ m_35) rfl (by rw [hml]; exact hl.1) rfl d_Rd_init_1 (Nat.le_of_ble_eq_true rfl) (Nat.le_of_ble_eq_true rfl) ?_
  refine W.eq (g2 := F0 m 4 ls []) rfl ?_
  refine lv_aload_n hx hb d_Rd_init_4 rfl (lv_at hl 0 rfl) ?_
  refine va_new (ci := 3) (fs := [.null, .int 0, .int 0, .int 0]) (C := R_So) (T := F_So) (N := 4) hx hb hts i_So t_So t_So_ok hown (hts _ m_42) (hts _ m_43) (hts _ m_3) hK hP hD hS hA rfl df_So (Nat.le_of_ble_eq_true rfl) (Nat.le_of_ble_eq_true rfl) d_Rd_init_5 (fun q_1 H hP hD hS => ?_)
  refine W.widen (k := 1) (n := 4) (Nat.le_of_ble_eq_true rfl) (Nat.le_of_ble_eq_true rfl) ?_
  have hP : va_P G classes [(h0, .inr (1, [.null, .null, .null, .int 0])), (q_1, .inr (3, [.null, .int 0, .int 0, .int 0]))] H := hP
  have hD : va_D A [(h0, .inr (1, [.null, .null, .null, .int 0])), (q_1, .inr (3, [.null, .int 0, .int 0, .int 0]))] := hD
  refine lv_dup hx hb d_Rd_init_8 rfl ?_
  refine xx_callIN (wc := [(q_1, .inr (3, [.null, .int 0, .int 0, .int 0]))]) (wr := [(h0, .inr (1, [.null, .null, .null, .int 0]))]) (As := []) (rest := [.ref q_1, .ref h0]) ⟨hx, hb, hml, hown, hts⟩ xE_st hK hE hA (c_So_init l htr G cB cI cJ cZ q_1 _) (xw_IN 0 hts (xE_nw hE n_44) m_45 m_3 m_46 rfl (by decide +kernel) ⟨(Nat.le_of_ble_eq_true rfl), (Nat.le_of_ble_eq_true rfl)⟩) hP hD hS [1] [0] rfl rfl (by decide) (by decide) (by decide) rfl hl.1 rfl (Nat.le_of_ble_eq_true rfl) d_Rd_init_9 ⟨(Nat.le_of_ble_eq_true rfl), (Nat.le_of_ble_eq_true rfl)⟩ (fun v9 w9 H locs hp hP hD hS => ?_) (fun x9 w9 H9 l9 hp _ _ _ => absurd hp (by rintro ⟨ho, -⟩; cases ho))
  obtain ⟨ho, rfl⟩ := hp
  cases ho
  have hP : va_P G classes [(h0, .inr (1, [.null, .null, .null, .int 0])), (q_1, .inr (3, [.null, .int 0, .int 0, .int 0]))] H := hP
  have hD : va_D A [(h0, .inr (1, [.null, .null, .null, .int 0])), (q_1, .inr (3, [.null, .int 0, .int 0, .int 0]))] := hD
  refine va_putF (D := G) (ci := 1) (v := .ref q_1) (ty := .object "WaferRunner$Source") (C := R_Rd) (T := F_Rd) (N := 4) hx hb hts i_Rd t_Rd t_Rd_ok n_Rd hown hK hP hD hS 0 rfl rfl 0 (by decide) (hts _ m_83) (fun _ h9 => h9) rfl hin rfl (by decide +kernel) rfl rfl (Nat.le_of_ble_eq_true rfl) d_Rd_init_12 (fun H locs hP hD hS => ?_)
  have hP : va_P G classes [(h0, .inr (1, [.ref q_1, .null, .null, .int 0])), (q_1, .inr (3, [.null, .int 0, .int 0, .int 0]))] H := hP
  have hD : va_D A [(h0, .inr (1, [.ref q_1, .null, .null, .int 0])), (q_1, .inr (3, [.null, .int 0, .int 0, .int 0]))] := hD
  refine lv_aload_n hx hb d_Rd_init_15 rfl (lv_at hl 0 rfl) ?_
  refine va_new (ci := 2) (fs := [.null, .int 0, .null, .null]) (C := R_BR) (T := F_BR) (N := 4) hx hb hts i_BR t_BR t_BR_ok hown (hts _ m_63) (hts _ m_64) (hts _ m_4) hK hP hD hS hA rfl df_BR (Nat.le_of_ble_eq_true rfl) (Nat.le_of_ble_eq_true rfl) d_Rd_init_16 (fun q_2 H hP hD hS => ?_)
  refine W.widen (k := 2) (n := 8) (Nat.le_of_ble_eq_true rfl) (Nat.le_of_ble_eq_true rfl) ?_
  have hP : va_P G classes [(h0, .inr (1, [.ref q_1, .null, .null, .int 0])), (q_1, .inr (3, [.null, .int 0, .int 0, .int 0])), (q_2, .inr (2, [.null, .int 0, .null, .null]))] H := hP
  have hD : va_D A [(h0, .inr (1, [.ref q_1, .null, .null, .int 0])), (q_1, .inr (3, [.null, .int 0, .int 0, .int 0])), (q_2, .inr (2, [.null, .int 0, .null, .null]))] := hD
  refine lv_dup hx hb d_Rd_init_19 rfl ?_
  refine xx_callI (wc := [(q_2, .inr (2, [.null, .int 0, .null, .null]))]) (wr := [(h0, .inr (1, [.ref q_1, .null, .null, .int 0])), (q_1, .inr (3, [.null, .int 0, .int 0, .int 0]))]) (As := []) (rest := [.ref q_2, .ref h0]) ⟨hx, hb, hml, hown, hts⟩ xE_st hK hE hA (c_BR_init l htr G cB cI cJ cZ q_2 _) (xw_I 0 hts m_65 m_66 m_4 m_67 rfl (by decide +kernel) ⟨(Nat.le_of_ble_eq_true rfl), (Nat.le_of_ble_eq_true rfl)⟩) hP hD hS [2] [0, 1] rfl rfl (by decide) (by decide) (by decide) rfl hl.1 rfl (Nat.le_of_ble_eq_true rfl) d_Rd_init_20 ⟨(Nat.le_of_ble_eq_true rfl), (Nat.le_of_ble_eq_true rfl)⟩ (fun v9 w9 H locs hp hP hD hS => ?_) (fun x9 w9 H9 l9 hp _ _ _ => absurd hp (by rintro ⟨_, ho, -⟩; cases ho))
  obtain ⟨q_3, ho, rfl⟩ := hp
  cases ho
  have hP : va_P G classes [(h0, .inr (1, [.ref q_1, .null, .null, .int 0])), (q_1, .inr (3, [.null, .int 0, .int 0, .int 0])), (q_2, .inr (2, [.ref q_3, .int 0, .null, .null])), (q_3, .inl (cI, 100, .inl (fun _ => 0)))] H := hP
  have hD : va_D A [(h0, .inr (1, [.ref q_1, .null, .null, .int 0])), (q_1, .inr (3, [.null, .int 0, .int 0, .int 0])), (q_2, .inr (2, [.ref q_3, .int 0, .null, .null])), (q_3, .inl (cI, 100, .inl (fun _ => 0)))] := hD
  refine W.widen (k := 3) (n := 108) (Nat.le_of_ble_eq_true rfl) (Nat.le_of_ble_eq_true rfl) ?_
  refine va_putF (D := G) (ci := 1) (v := .ref q_2) (ty := .object "WaferRunner$BodyReader") (C := R_Rd) (T := F_Rd) (N := 4) hx hb hts i_Rd t_Rd t_Rd_ok n_Rd hown hK hP hD hS 0 rfl rfl 1 (by decide) (hts _ m_84) (fun _ h9 => h9) rfl hin rfl (by decide +kernel) rfl rfl (Nat.le_of_ble_eq_true rfl) d_Rd_init_23 (fun H locs hP hD hS => ?_)
  have hP : va_P G classes [(h0, .inr (1, [.ref q_1, .ref q_2, .null, .int 0])), (q_1, .inr (3, [.null, .int 0, .int 0, .int 0])), (q_2, .inr (2, [.ref q_3, .int 0, .null, .null])), (q_3, .inl (cI, 100, .inl (fun _ => 0)))] H := hP
  have hD : va_D A [(h0, .inr (1, [.ref q_1, .ref q_2, .null, .int 0])), (q_1, .inr (3, [.null, .int 0, .int 0, .int 0])), (q_2, .inr (2, [.ref q_3, .int 0, .null, .null])), (q_3, .inl (cI, 100, .inl (fun _ => 0)))] := hD
  exact ex_W (fun _ h => ex_mq h) (W.vret hx hb hr (fun t ht hW => ⟨⟨_, ⟨q_1, q_2, q_3, rfl, rfl⟩, by rw [ht]; exact hP, hD⟩, hS.F ht⟩) hS.2.2 d_Rd_init_26)
set_option maxHeartbeats 8000000 in
set_option maxRecDepth 100000 in
theorem c_Va_init (l : Launch) (htr : l.stackTraces = false) (G : va_G) (cB cI cJ cZ : ClassId) (h0 : Nat) (sz : Nat) : MetX l y_Va_init (wx y_Va_init b_Va_init 1 none) { frames := 2, cells := 7, slots := 2517, locals := 32 } (XP G classes (xtys cB cI cJ cZ) xE [.ref h0] [(h0, .inr (4, [.null]))] sz) (XQ G classes (va_A [(h0, .inr (4, [.null]))] sz) (fun o w1 => ∃ q_1 q_2 q_3 q_4 q_5 q_6 q_7 : Nat, o = .returned none ∧ w1 = [(h0, .inr (4, [.ref q_1])), (q_1, .inr (5, [.null, .null, .int 0, .ref q_2, .int 0, .ref q_3, .ref q_4, .ref q_5, .ref q_6, .ref q_7, .int 0, .int 0])), (q_2, .inl (cI, 2000, .inl (fun _ => 0))), (q_3, .inl (cI, 101, .inl (fun _ => 0))), (q_4, .inl (cI, 101, .inl (fun _ => 0))), (q_5, .inl (cI, 101, .inl (fun _ => 0))), (q_6, .inl (cI, 101, .inl (fun _ => 0))), (q_7, .inl (cZ, 101, .inl (fun _ => 0)))])) 7 2517 (va_A [(h0, .inr (4, [.null]))] sz) := by
  refine ex_ofW (cc := b_Va_init) (maxL := 1) (ret := none) (by decide) rfl ?_
  intro p e s m args below meth c s₁ B hml hno hv
  obtain ⟨rfl, hsz, hP, hK, hD0, hE⟩ := hv
  have hx := B.exec
  have hb := B.bytes
  have hr := B.returns
  have hts : ∀ w ∈ lw_good, w.before _ s = true := fun w h => atoms_spec (ws := wx y_Va_init b_Va_init 1 none) B.pre w (List.mem_cons_of_mem _ h)
  have hown : s.vm.findClass R_Va = some m.cls := findClass_of_methodNamed B.named
  have hlocks := B.notSynchronized
  have htr9 : e.platform.stackTraces = false := by rw [B.admits.platform]; exact htr
  have hin : meth.name = "<init>" := (name_of_methodNamed B.named B.method).1
  subst hsz
  have hNS := xx_nostat hP
  have hD := hD0.self (sz := s.heap.size)
  generalize hAe : va_A [(h0, .inr (4, [.null]))] s.heap.size = A at hD hE hNS ⊢
  have hA : ∀ q : Nat, s.heap.size ≤ q → A q := fun q h => by rw [← hAe]; exact Or.inr h
  have hS : va_S A s.heap s.heap [] := va_S.rf
  have hl := lv_entry ([.ref h0]) (n := 1) (Nat.le_of_ble_eq_true rfl)
  rw [lg_entry_eq]
  generalize (lg_sl ([.ref h0]) ++ List.replicate (1 - (lg_sl ([.ref h0])).length) Slot.unset).toArray = ls at hl ⊢
  have hl : lv_has ls 1 [(0, .ref h0)] := hl
  refine lv_aload_n hx hb d_Va_init_0 rfl (lv_at hl 0 rfl) ?_
  refine W.objInit hx hb hown (hts _ m_101) (hts _ m_34) (hts _ m_35) rfl (by rw [hml]; exact hl.1) rfl d_Va_init_1 (Nat.le_of_ble_eq_true rfl) (Nat.le_of_ble_eq_true rfl) ?_
  refine W.eq (g2 := F0 m 4 ls []) rfl ?_
  refine lv_aload_n hx hb d_Va_init_4 rfl (lv_at hl 0 rfl) ?_
  refine va_new (ci := 5) (fs := [.null, .null, .int 0, .null, .int 0, .null, .null, .null, .null, .null, .int 0, .int 0]) (C := R_BV) (T := F_BV) (N := 12) hx hb hts i_BV t_BV t_BV_ok hown (hts _ m_102) (hts _ m_103) (hts _ m_6) hK hP hD hS hA rfl df_BV (Nat.le_of_ble_eq_true rfl) (Nat.le_of_ble_eq_true rfl) d_Va_init_5 (fun q_1 H hP hD hS => ?_)
  refine W.widen (k := 1) (n := 12) (Nat.le_of_ble_eq_true rfl) (Nat.le_of_ble_eq_true rfl) ?_
  have hP : va_P G classes [(h0, .inr (4, [.null])), (q_1, .inr (5, [.null, .null, .int 0, .null, .int 0, .null, .null, .null, .null, .null, .int 0, .int 0]))] H := hP
  have hD : va_D A [(h0, .inr (4, [.null])), (q_1, .inr (5, [.null, .null, .int 0, .null, .int 0, .null, .null, .null, .null, .null, .int 0, .int 0]))] := hD
  refine lv_dup hx hb d_Va_init_8 rfl ?_
  refine xx_callI (wc := [(q_1, .inr (5, [.null, .null, .int 0, .null, .int 0, .null, .null, .null, .null, .null, .int 0, .int 0]))]) (wr := [(h0, .inr (4, [.null]))]) (As := []) (rest := [.ref q_1, .ref h0]) ⟨hx, hb, hml, hown, hts⟩ xE_st hK hE hA (c_BV_init l htr G cB cI cJ cZ q_1 _) (xw_I 0 hts m_104 m_105 m_6 m_106 rfl (by decide +kernel) ⟨(Nat.le_of_ble_eq_true rfl), (Nat.le_of_ble_eq_true rfl)⟩) hP hD hS [1] [0] rfl rfl (by decide) (by decide) (by decide) rfl hl.1 rfl (Nat.le_of_ble_eq_true rfl) d_Va_init_9 ⟨(Nat.le_of_ble_eq_true rfl), (Nat.le_of_ble_eq_true rfl)⟩ (fun v9 w9 H locs hp hP hD hS => ?_) (fun x9 w9 H9 l9 hp _ _ _ => absurd hp (by rintro ⟨_, _, _, _, _, _, ho, -⟩; cases ho))
  obtain ⟨q_2, q_3, q_4, q_5, q_6, q_7, ho, rfl⟩ := hp
  cases ho
  have hP : va_P G classes [(h0, .inr (4, [.null])), (q_1, .inr (5, [.null, .null, .int 0, .ref q_2, .int 0, .ref q_3, .ref q_4, .ref q_5, .ref q_6, .ref q_7, .int 0, .int 0])), (q_2, .inl (cI, 2000, .inl (fun _ => 0))), (q_3, .inl (cI, 101, .inl (fun _ => 0))), (q_4, .inl (cI, 101, .inl (fun _ => 0))), (q_5, .inl (cI, 101, .inl (fun _ => 0))), (q_6, .inl (cI, 101, .inl (fun _ => 0))), (q_7, .inl (cZ, 101, .inl (fun _ => 0)))] H := hP
  have hD : va_D A [(h0, .inr (4, [.null])), (q_1, .inr (5, [.null, .null, .int 0, .ref q_2, .int 0, .ref q_3, .ref q_4, .ref q_5, .ref q_6, .ref q_7, .int 0, .int 0])), (q_2, .inl (cI, 2000, .inl (fun _ => 0))), (q_3, .inl (cI, 101, .inl (fun _ => 0))), (q_4, .inl (cI, 101, .inl (fun _ => 0))), (q_5, .inl (cI, 101, .inl (fun _ => 0))), (q_6, .inl (cI, 101, .inl (fun _ => 0))), (q_7, .inl (cZ, 101, .inl (fun _ => 0)))] := hD
  refine W.widen (k := 7) (n := 2517) (Nat.le_of_ble_eq_true rfl) (Nat.le_of_ble_eq_true rfl) ?_
  refine va_putF (D := G) (ci := 4) (v := .ref q_1) (ty := .object "WaferRunner$BodyValidator") (C := R_Va) (T := F_Va) (N := 1) hx hb hts i_Va t_Va t_Va_ok n_Va hown hK hP hD hS 0 rfl rfl 0 (by decide) (hts _ m_146) (fun _ h9 => h9) rfl hin rfl (by decide +kernel) rfl rfl (Nat.le_of_ble_eq_true rfl) d_Va_init_12 (fun H locs hP hD hS => ?_)
  have hP : va_P G classes [(h0, .inr (4, [.ref q_1])), (q_1, .inr (5, [.null, .null, .int 0, .ref q_2, .int 0, .ref q_3, .ref q_4, .ref q_5, .ref q_6, .ref q_7, .int 0, .int 0])), (q_2, .inl (cI, 2000, .inl (fun _ => 0))), (q_3, .inl (cI, 101, .inl (fun _ => 0))), (q_4, .inl (cI, 101, .inl (fun _ => 0))), (q_5, .inl (cI, 101, .inl (fun _ => 0))), (q_6, .inl (cI, 101, .inl (fun _ => 0))), (q_7, .inl (cZ, 101, .inl (fun _ => 0)))] H := hP
  have hD : va_D A [(h0, .inr (4, [.ref q_1])), (q_1, .inr (5, [.null, .null, .int 0, .ref q_2, .int 0, .ref q_3, .ref q_4, .ref q_5, .ref q_6, .ref q_7, .int 0, .int 0])), (q_2, .inl (cI, 2000, .inl (fun _ => 0))), (q_3, .inl (cI, 101, .inl (fun _ => 0))), (q_4, .inl (cI, 101, .inl (fun _ => 0))), (q_5, .inl (cI, 101, .inl (fun _ => 0))), (q_6, .inl (cI, 101, .inl (fun _ => 0))), (q_7, .inl (cZ, 101, .inl (fun _ => 0)))] := hD
  exact ex_W (fun _ h => ex_mq h) (W.vret hx hb hr (fun t ht hW => ⟨⟨_, ⟨q_1, q_2, q_3, q_4, q_5, q_6, q_7, rfl, rfl⟩, by rw [ht]; exact hP, hD⟩, hS.F ht⟩) hS.2.2 d_Va_init_15)
set_option maxHeartbeats 8000000 in
set_option maxRecDepth 100000 in
theorem c_Ma_init (l : Launch) (htr : l.stackTraces = false) (G : va_G) (cB cI cJ cZ : ClassId) (h0 : Nat) (sz : Nat) : MetX l y_Ma_init (wx y_Ma_init b_Ma_init 1 none) { frames := 1, cells := 6, slots := 143488, locals := 12 } (XP G classes (xtys cB cI cJ cZ) xE [.ref h0] [(h0, .inr (6, [.null, .int 0, .int 0, .null, .int 0, .null, .null, .int 0, .int 0, .null, .int 0, .null, .null, .null, .int 0, .int 0, .int 0]))] sz) (XQ G classes (va_A [(h0, .inr (6, [.null, .int 0, .int 0, .null, .int 0, .null, .null, .int 0, .int 0, .null, .int 0, .null, .null, .null, .int 0, .int 0, .int 0]))] sz) (fun o w1 => ∃ q_1 q_2 q_3 q_4 q_5 q_6 : Nat, o = .returned none ∧ w1 = [(h0, .inr (6, [.ref q_1, .int 0, .int 0, .ref q_2, .int 0, .null, .null, .int 0, .int 0, .ref q_3, .int 0, .ref q_4, .ref q_5, .ref q_6, .int 0, .int 0, .int 0])), (q_1, .inl (cB, 131072, .inl (fun _ => 0))), (q_2, .inl (cJ, 20, .inr (.inl (fun _ => 0)))), (q_3, .inl (cJ, 12096, .inr (.inl (fun _ => 0)))), (q_4, .inl (cI, 100, .inl (fun _ => 0))), (q_5, .inl (cI, 100, .inl (fun _ => 0))), (q_6, .inl (cI, 100, .inl (fun _ => 0)))])) 6 143488 (va_A [(h0, .inr (6, [.null, .int 0, .int 0, .null, .int 0, .null, .null, .int 0, .int 0, .null, .int 0, .null, .null, .null, .int 0, .int 0, .int 0]))] sz) := by
  refine ex_ofW (cc := b_Ma_init) (maxL := 1) (ret := none) (by decide) rfl ?_
  intro p e s m args below meth c s₁ B hml hno hv
  obtain ⟨rfl, hsz, hP, hK, hD0, hE⟩ := hv
  have hx := B.exec
  have hb := B.bytes
  have hr := B.returns
  have hts : ∀ w ∈ lw_good, w.before _ s = true := fun w h => atoms_spec (ws := wx y_Ma_init b_Ma_init 1 none) B.pre w (List.mem_cons_of_mem _ h)
  have hown : s.vm.findClass R_Ma = some m.cls := findClass_of_methodNamed B.named
  have hlocks := B.notSynchronized
  have htr9 : e.platform.stackTraces = false := by rw [B.admits.platform]; exact htr
  have hin : meth.name = "<init>" := (name_of_methodNamed B.named B.method).1
  subst hsz
  have hNS := xx_nostat hP
  have hD := hD0.self (sz := s.heap.size)
  generalize hAe : va_A [(h0, .inr (6, [.null, .int 0, .int 0, .null, .int 0, .null, .null, .int 0, .int 0, .null, .int 0, .null, .null, .null, .int 0, .int 0, .int 0]))] s.heap.size = A at hD hE hNS ⊢
  have hA : ∀ q : Nat, s.heap.size ≤ q → A q := fun q h => by rw [← hAe]; exact Or.inr h
  have hS : va_S A s.heap s.heap [] := va_S.rf
  have hl := lv_entry ([.ref h0]) (n := 1) (Nat.le_of_ble_eq_true rfl)
  rw [lg_entry_eq]
  generalize (lg_sl ([.ref h0]) ++ List.replicate (1 - (lg_sl ([.ref h0])).length) Slot.unset).toArray = ls at hl ⊢
  have hl : lv_has ls 1 [(0, .ref h0)] := hl
  refine lv_aload_n hx hb d_Ma_init_0 rfl (lv_at hl 0 rfl) ?_
  refine W.objInit hx hb hown (hts _ m_155) (hts _ m_34) (hts _ m_35) rfl (by rw [hml]; exact hl.1) rfl d_Ma_init_1 (Nat.le_of_ble_eq_true rfl) (Nat.le_of_ble_eq_true rfl) ?_
  refine W.eq (g2 := F0 m 4 ls []) rfl ?_
  refine lv_aload_n hx hb d_Ma_init_4 rfl (lv_at hl 0 rfl) ?_
  refine lv_ldc (v := 131072) hx hb hown (hts _ m_156) d_Ma_init_5 ?_
  refine xx_newa (a0 := (131072, .inl (fun _ => 0))) (ty := .byte) (cA := cB) hx hb rfl hK (hts _ m_61) 0 rfl hP hD hS hA (fun _ => rfl) (by decide) (by decide) (by decide) (Nat.le_of_ble_eq_true rfl) (Nat.le_of_ble_eq_true rfl) d_Ma_init_7 (fun q_1 H hP hD hS => ?_)
  refine W.widen (k := 1) (n := 131072) (Nat.le_of_ble_eq_true rfl) (Nat.le_of_ble_eq_true rfl) ?_
  have hP : va_P G classes [(h0, .inr (6, [.null, .int 0, .int 0, .null, .int 0, .null, .null, .int 0, .int 0, .null, .int 0, .null, .null, .null, .int 0, .int 0, .int 0])), (q_1, .inl (cB, 131072, .inl (fun _ => 0)))] H := hP
  have hD : va_D A [(h0, .inr (6, [.null, .int 0, .int 0, .null, .int 0, .null, .null, .int 0, .int 0, .null, .int 0, .null, .null, .null, .int 0, .int 0, .int 0])), (q_1, .inl (cB, 131072, .inl (fun _ => 0)))] := hD
  refine va_putF (D := G) (ci := 6) (v := .ref q_1) (ty := .array .byte) (C := R_Ma) (T := F_Ma) (N := 17) hx hb hts i_Ma t_Ma t_Ma_ok n_Ma hown hK hP hD hS 0 rfl rfl 0 (by decide) (hts _ m_157) (fun _ h9 => h9) rfl hin rfl (by decide +kernel) rfl rfl (Nat.le_of_ble_eq_true rfl) d_Ma_init_9 (fun H locs hP hD hS => ?_)
  have hP : va_P G classes [(h0, .inr (6, [.ref q_1, .int 0, .int 0, .null, .int 0, .null, .null, .int 0, .int 0, .null, .int 0, .null, .null, .null, .int 0, .int 0, .int 0])), (q_1, .inl (cB, 131072, .inl (fun _ => 0)))] H := hP
  have hD : va_D A [(h0, .inr (6, [.ref q_1, .int 0, .int 0, .null, .int 0, .null, .null, .int 0, .int 0, .null, .int 0, .null, .null, .null, .int 0, .int 0, .int 0])), (q_1, .inl (cB, 131072, .inl (fun _ => 0)))] := hD
  refine lv_aload_n hx hb d_Ma_init_12 rfl (lv_at hl 0 rfl) ?_
  refine lv_bipush (v := 20) hx hb d_Ma_init_13 (by decide) ?_
  refine xx_newa (a0 := (20, .inr (.inl (fun _ => 0)))) (ty := .long) (cA := cJ) hx hb rfl hK (hts _ m_62) 2 rfl hP hD hS hA (fun _ => rfl) (by decide) (by decide) (by decide) (Nat.le_of_ble_eq_true rfl) (Nat.le_of_ble_eq_true rfl) d_Ma_init_15 (fun q_2 H hP hD hS => ?_)
  refine W.widen (k := 2) (n := 131092) (Nat.le_of_ble_eq_true rfl) (Nat.le_of_ble_eq_true rfl) ?_
  have hP : va_P G classes [(h0, .inr (6, [.ref q_1, .int 0, .int 0, .null, .int 0, .null, .null, .int 0, .int 0, .null, .int 0, .null, .null, .null, .int 0, .int 0, .int 0])), (q_1, .inl (cB, 131072, .inl (fun _ => 0))), (q_2, .inl (cJ, 20, .inr (.inl (fun _ => 0))))] H := hP
  have hD : va_D A [(h0, .inr (6, [.ref q_1, .int 0, .int 0, .null, .int 0, .null, .null, .int 0, .int 0, .null, .int 0, .null, .null, .null, .int 0, .int 0, .int 0])), (q_1, .inl (cB, 131072, .inl (fun _ => 0))), (q_2, .inl (cJ, 20, .inr (.inl (fun _ => 0))))] := hD
  refine va_putF (D := G) (ci := 6) (v := .ref q_2) (ty := .array .long) (C := R_Ma) (T := F_Ma) (N := 17) hx hb hts i_Ma t_Ma t_Ma_ok n_Ma hown hK hP hD hS 0 rfl rfl 3 (by decide) (hts _ m_162) (fun _ h9 => h9) rfl hin rfl (by decide +kernel) rfl rfl (Nat.le_of_ble_eq_true rfl) d_Ma_init_17 (fun H locs hP hD hS => ?_)
  have hP : va_P G classes [(h0, .inr (6, [.ref q_1, .int 0, .int 0, .ref q_2, .int 0, .null, .null, .int 0, .int 0, .null, .int 0, .null, .null, .null, .int 0, .int 0, .int 0])), (q_1, .inl (cB, 131072, .inl (fun _ => 0))), (q_2, .inl (cJ, 20, .inr (.inl (fun _ => 0))))] H := hP
  have hD : va_D A [(h0, .inr (6, [.ref q_1, .int 0, .int 0, .ref q_2, .int 0, .null, .null, .int 0, .int 0, .null, .int 0, .null, .null, .null, .int 0, .int 0, .int 0])), (q_1, .inl (cB, 131072, .inl (fun _ => 0))), (q_2, .inl (cJ, 20, .inr (.inl (fun _ => 0))))] := hD
  refine lv_aload_n hx hb d_Ma_init_20 rfl (lv_at hl 0 rfl) ?_
  refine lv_sipush (v := 12096) hx hb d_Ma_init_21 (by decide) ?_
  refine xx_newa (a0 := (12096, .inr (.inl (fun _ => 0)))) (ty := .long) (cA := cJ) hx hb rfl hK (hts _ m_62) 2 rfl hP hD hS hA (fun _ => rfl) (by decide) (by decide) (by decide) (Nat.le_of_ble_eq_true rfl) (Nat.le_of_ble_eq_true rfl) d_Ma_init_24 (fun q_3 H hP hD hS => ?_)
  refine W.widen (k := 3) (n := 143188) (Nat.le_of_ble_eq_true rfl) (Nat.le_of_ble_eq_true rfl) ?_
  have hP : va_P G classes [(h0, .inr (6, [.ref q_1, .int 0, .int 0, .ref q_2, .int 0, .null, .null, .int 0, .int 0, .null, .int 0, .null, .null, .null, .int 0, .int 0, .int 0])), (q_1, .inl (cB, 131072, .inl (fun _ => 0))), (q_2, .inl (cJ, 20, .inr (.inl (fun _ => 0)))), (q_3, .inl (cJ, 12096, .inr (.inl (fun _ => 0))))] H := hP
  have hD : va_D A [(h0, .inr (6, [.ref q_1, .int 0, .int 0, .ref q_2, .int 0, .null, .null, .int 0, .int 0, .null, .int 0, .null, .null, .null, .int 0, .int 0, .int 0])), (q_1, .inl (cB, 131072, .inl (fun _ => 0))), (q_2, .inl (cJ, 20, .inr (.inl (fun _ => 0)))), (q_3, .inl (cJ, 12096, .inr (.inl (fun _ => 0))))] := hD
  refine va_putF (D := G) (ci := 6) (v := .ref q_3) (ty := .array .long) (C := R_Ma) (T := F_Ma) (N := 17) hx hb hts i_Ma t_Ma t_Ma_ok n_Ma hown hK hP hD hS 0 rfl rfl 9 (by decide) (hts _ m_170) (fun _ h9 => h9) rfl hin rfl (by decide +kernel) rfl rfl (Nat.le_of_ble_eq_true rfl) d_Ma_init_26 (fun H locs hP hD hS => ?_)
  have hP : va_P G classes [(h0, .inr (6, [.ref q_1, .int 0, .int 0, .ref q_2, .int 0, .null, .null, .int 0, .int 0, .ref q_3, .int 0, .null, .null, .null, .int 0, .int 0, .int 0])), (q_1, .inl (cB, 131072, .inl (fun _ => 0))), (q_2, .inl (cJ, 20, .inr (.inl (fun _ => 0)))), (q_3, .inl (cJ, 12096, .inr (.inl (fun _ => 0))))] H := hP
  have hD : va_D A [(h0, .inr (6, [.ref q_1, .int 0, .int 0, .ref q_2, .int 0, .null, .null, .int 0, .int 0, .ref q_3, .int 0, .null, .null, .null, .int 0, .int 0, .int 0])), (q_1, .inl (cB, 131072, .inl (fun _ => 0))), (q_2, .inl (cJ, 20, .inr (.inl (fun _ => 0)))), (q_3, .inl (cJ, 12096, .inr (.inl (fun _ => 0))))] := hD
  refine lv_aload_n hx hb d_Ma_init_29 rfl (lv_at hl 0 rfl) ?_
  refine lv_bipush (v := 100) hx hb d_Ma_init_30 (by decide) ?_
  refine xx_newa (a0 := (100, .inl (fun _ => 0))) (ty := .int) (cA := cI) hx hb rfl hK (hts _ m_82) 1 rfl hP hD hS hA (fun _ => rfl) (by decide) (by decide) (by decide) (Nat.le_of_ble_eq_true rfl) (Nat.le_of_ble_eq_true rfl) d_Ma_init_32 (fun q_4 H hP hD hS => ?_)
  refine W.widen (k := 4) (n := 143288) (Nat.le_of_ble_eq_true rfl) (Nat.le_of_ble_eq_true rfl) ?_
  have hP : va_P G classes [(h0, .inr (6, [.ref q_1, .int 0, .int 0, .ref q_2, .int 0, .null, .null, .int 0, .int 0, .ref q_3, .int 0, .null, .null, .null, .int 0, .int 0, .int 0])), (q_1, .inl (cB, 131072, .inl (fun _ => 0))), (q_2, .inl (cJ, 20, .inr (.inl (fun _ => 0)))), (q_3, .inl (cJ, 12096, .inr (.inl (fun _ => 0)))), (q_4, .inl (cI, 100, .inl (fun _ => 0)))] H := hP
  have hD : va_D A [(h0, .inr (6, [.ref q_1, .int 0, .int 0, .ref q_2, .int 0, .null, .null, .int 0, .int 0, .ref q_3, .int 0, .null, .null, .null, .int 0, .int 0, .int 0])), (q_1, .inl (cB, 131072, .inl (fun _ => 0))), (q_2, .inl (cJ, 20, .inr (.inl (fun _ => 0)))), (q_3, .inl (cJ, 12096, .inr (.inl (fun _ => 0)))), (q_4, .inl (cI, 100, .inl (fun _ => 0)))] := hD
  refine va_putF (D := G) (ci := 6) (v := .ref q_4) (ty := .array .int) (C := R_Ma) (T := F_Ma) (N := 17) hx hb hts i_Ma t_Ma t_Ma_ok n_Ma hown hK hP hD hS 0 rfl rfl 11 (by decide) (hts _ m_172) (fun _ h9 => h9) rfl hin rfl (by decide +kernel) rfl rfl (Nat.le_of_ble_eq_true rfl) d_Ma_init_34 (fun H locs hP hD hS => ?_)
  have hP : va_P G classes [(h0, .inr (6, [.ref q_1, .int 0, .int 0, .ref q_2, .int 0, .null, .null, .int 0, .int 0, .ref q_3, .int 0, .ref q_4, .null, .null, .int 0, .int 0, .int 0])), (q_1, .inl (cB, 131072, .inl (fun _ => 0))), (q_2, .inl (cJ, 20, .inr (.inl (fun _ => 0)))), (q_3, .inl (cJ, 12096, .inr (.inl (fun _ => 0)))), (q_4, .inl (cI, 100, .inl (fun _ => 0)))] H := hP
  have hD : va_D A [(h0, .inr (6, [.ref q_1, .int 0, .int 0, .ref q_2, .int 0, .null, .null, .int 0, .int 0, .ref q_3, .int 0, .ref q_4, .null, .null, .int 0, .int 0, .int 0])), (q_1, .inl (cB, 131072, .inl (fun _ => 0))), (q_2, .inl (cJ, 20, .inr (.inl (fun _ => 0)))), (q_3, .inl (cJ, 12096, .inr (.inl (fun _ => 0)))), (q_4, .inl (cI, 100, .inl (fun _ => 0)))] := hD
  refine lv_aload_n hx hb d_Ma_init_37 rfl (lv_at hl 0 rfl) ?_
  refine lv_bipush (v := 100) hx hb d_Ma_init_38 (by decide) ?_
  refine xx_newa (a0 := (100, .inl (fun _ => 0))) (ty := .int) (cA := cI) hx hb rfl hK (hts _ m_82) 1 rfl hP hD hS hA (fun _ => rfl) (by decide) (by decide) (by decide) (Nat.le_of_ble_eq_true rfl) (Nat.le_of_ble_eq_true rfl) d_Ma_init_40 (fun q_5 H hP hD hS => ?_)
  refine W.widen (k := 5) (n := 143388) (Nat.le_of_ble_eq_true rfl) (Nat.le_of_ble_eq_true rfl) ?_
  have hP : va_P G classes [(h0, .inr (6, [.ref q_1, .int 0, .int 0, .ref q_2, .int 0, .null, .null, .int 0, .int 0, .ref q_3, .int 0, .ref q_4, .null, .null, .int 0, .int 0, .int 0])), (q_1, .inl (cB, 131072, .inl (fun _ => 0))), (q_2, .inl (cJ, 20, .inr (.inl (fun _ => 0)))), (q_3, .inl (cJ, 12096, .inr (.inl (fun _ => 0)))), (q_4, .inl (cI, 100, .inl (fun _ => 0))), (q_5, .inl (cI, 100, .inl (fun _ => 0)))] H := hP
  have hD : va_D A [(h0, .inr (6, [.ref q_1, .int 0, .int 0, .ref q_2, .int 0, .null, .null, .int 0, .int 0, .ref q_3, .int 0, .ref q_4, .null, .null, .int 0, .int 0, .int 0])), (q_1, .inl (cB, 131072, .inl (fun _ => 0))), (q_2, .inl (cJ, 20, .inr (.inl (fun _ => 0)))), (q_3, .inl (cJ, 12096, .inr (.inl (fun _ => 0)))), (q_4, .inl (cI, 100, .inl (fun _ => 0))), (q_5, .inl (cI, 100, .inl (fun _ => 0)))] := hD
  refine va_putF (D := G) (ci := 6) (v := .ref q_5) (ty := .array .int) (C := R_Ma) (T := F_Ma) (N := 17) hx hb hts i_Ma t_Ma t_Ma_ok n_Ma hown hK hP hD hS 0 rfl rfl 12 (by decide) (hts _ m_173) (fun _ h9 => h9) rfl hin rfl (by decide +kernel) rfl rfl (Nat.le_of_ble_eq_true rfl) d_Ma_init_42 (fun H locs hP hD hS => ?_)
  have hP : va_P G classes [(h0, .inr (6, [.ref q_1, .int 0, .int 0, .ref q_2, .int 0, .null, .null, .int 0, .int 0, .ref q_3, .int 0, .ref q_4, .ref q_5, .null, .int 0, .int 0, .int 0])), (q_1, .inl (cB, 131072, .inl (fun _ => 0))), (q_2, .inl (cJ, 20, .inr (.inl (fun _ => 0)))), (q_3, .inl (cJ, 12096, .inr (.inl (fun _ => 0)))), (q_4, .inl (cI, 100, .inl (fun _ => 0))), (q_5, .inl (cI, 100, .inl (fun _ => 0)))] H := hP
  have hD : va_D A [(h0, .inr (6, [.ref q_1, .int 0, .int 0, .ref q_2, .int 0, .null, .null, .int 0, .int 0, .ref q_3, .int 0, .ref q_4, .ref q_5, .null, .int 0, .int 0, .int 0])), (q_1, .inl (cB, 131072, .inl (fun _ => 0))), (q_2, .inl (cJ, 20, .inr (.inl (fun _ => 0)))), (q_3, .inl (cJ, 12096, .inr (.inl (fun _ => 0)))), (q_4, .inl (cI, 100, .inl (fun _ => 0))), (q_5, .inl (cI, 100, .inl (fun _ => 0)))] := hD
  refine lv_aload_n hx hb d_Ma_init_45 rfl (lv_at hl 0 rfl) ?_
  refine lv_bipush (v := 100) hx hb d_Ma_init_46 (by decide) ?_
  refine xx_newa (a0 := (100, .inl (fun _ => 0))) (ty := .int) (cA := cI) hx hb rfl hK (hts _ m_82) 1 rfl hP hD hS hA (fun _ => rfl) (by decide) (by decide) (by decide) (Nat.le_of_ble_eq_true rfl) (Nat.le_of_ble_eq_true rfl) d_Ma_init_48 (fun q_6 H hP hD hS => ?_)
  refine W.widen (k := 6) (n := 143488) (Nat.le_of_ble_eq_true rfl) (Nat.le_of_ble_eq_true rfl) ?_
  have hP : va_P G classes [(h0, .inr (6, [.ref q_1, .int 0, .int 0, .ref q_2, .int 0, .null, .null, .int 0, .int 0, .ref q_3, .int 0, .ref q_4, .ref q_5, .null, .int 0, .int 0, .int 0])), (q_1, .inl (cB, 131072, .inl (fun _ => 0))), (q_2, .inl (cJ, 20, .inr (.inl (fun _ => 0)))), (q_3, .inl (cJ, 12096, .inr (.inl (fun _ => 0)))), (q_4, .inl (cI, 100, .inl (fun _ => 0))), (q_5, .inl (cI, 100, .inl (fun _ => 0))), (q_6, .inl (cI, 100, .inl (fun _ => 0)))] H := hP
  have hD : va_D A [(h0, .inr (6, [.ref q_1, .int 0, .int 0, .ref q_2, .int 0, .null, .null, .int 0, .int 0, .ref q_3, .int 0, .ref q_4, .ref q_5, .null, .int 0, .int 0, .int 0])), (q_1, .inl (cB, 131072, .inl (fun _ => 0))), (q_2, .inl (cJ, 20, .inr (.inl (fun _ => 0)))), (q_3, .inl (cJ, 12096, .inr (.inl (fun _ => 0)))), (q_4, .inl (cI, 100, .inl (fun _ => 0))), (q_5, .inl (cI, 100, .inl (fun _ => 0))), (q_6, .inl (cI, 100, .inl (fun _ => 0)))] := hD
  refine va_putF (D := G) (ci := 6) (v := .ref q_6) (ty := .array .int) (C := R_Ma) (T := F_Ma) (N := 17) hx hb hts i_Ma t_Ma t_Ma_ok n_Ma hown hK hP hD hS 0 rfl rfl 13 (by decide) (hts _ m_174) (fun _ h9 => h9) rfl hin rfl (by decide +kernel) rfl rfl (Nat.le_of_ble_eq_true rfl) d_Ma_init_50 (fun H locs hP hD hS => ?_)
  have hP : va_P G classes [(h0, .inr (6, [.ref q_1, .int 0, .int 0, .ref q_2, .int 0, .null, .null, .int 0, .int 0, .ref q_3, .int 0, .ref q_4, .ref q_5, .ref q_6, .int 0, .int 0, .int 0])), (q_1, .inl (cB, 131072, .inl (fun _ => 0))), (q_2, .inl (cJ, 20, .inr (.inl (fun _ => 0)))), (q_3, .inl (cJ, 12096, .inr (.inl (fun _ => 0)))), (q_4, .inl (cI, 100, .inl (fun _ => 0))), (q_5, .inl (cI, 100, .inl (fun _ => 0))), (q_6, .inl (cI, 100, .inl (fun _ => 0)))] H := hP
  have hD : va_D A [(h0, .inr (6, [.ref q_1, .int 0, .int 0, .ref q_2, .int 0, .null, .null, .int 0, .int 0, .ref q_3, .int 0, .ref q_4, .ref q_5, .ref q_6, .int 0, .int 0, .int 0])), (q_1, .inl (cB, 131072, .inl (fun _ => 0))), (q_2, .inl (cJ, 20, .inr (.inl (fun _ => 0)))), (q_3, .inl (cJ, 12096, .inr (.inl (fun _ => 0)))), (q_4, .inl (cI, 100, .inl (fun _ => 0))), (q_5, .inl (cI, 100, .inl (fun _ => 0))), (q_6, .inl (cI, 100, .inl (fun _ => 0)))] := hD
  exact ex_W (fun _ h => ex_mq h) (W.vret hx hb hr (fun t ht hW => ⟨⟨_, ⟨q_1, q_2, q_3, q_4, q_5, q_6, rfl, rfl⟩, by rw [ht]; exact hP, hD⟩, hS.F ht⟩) hS.2.2 d_Ma_init_53)
set_option maxHeartbeats 8000000 in
set_option maxRecDepth 100000 in
theorem c_Wa_init (l : Launch) (htr : l.stackTraces = false) (G : va_G) (cB cI cJ cZ : ClassId) (h0 : Nat) (sz : Nat) : MetX l y_Wa_init (wx y_Wa_init b_Wa_init 1 none) { frames := 2, cells := 26, slots := 21506, locals := 32 } (XP G classes (xtys cB cI cJ cZ) xE [.ref h0] [(h0, .inr (7, [.int 0, .null, .null, .null, .int 0, .null, .null, .null, .null, .int 0, .long 0, .long 0, .int 0, .null, .null, .null, .null, .null, .null]))] sz) (XQ G classes (va_A [(h0, .inr (7, [.int 0, .null, .null, .null, .int 0, .null, .null, .null, .null, .int 0, .long 0, .long 0, .int 0, .null, .null, .null, .null, .null, .null]))] sz) (fun o w1 => ∃ q_1 q_2 q_3 q_4 q_5 q_6 q_7 q_8 q_9 q_10 q_11 q_12 q_13 q_14 q_15 q_16 q_17 q_18 q_19 q_20 q_21 q_22 q_23 q_24 q_25 q_26 : Nat, o = .returned none ∧ w1 = [(h0, .inr (7, [.int 0, .ref q_1, .ref q_2, .ref q_3, .int 0, .ref q_4, .ref q_5, .ref q_6, .ref q_7, .int 0, .long 0, .long 0, .int 0, .ref q_8, .ref q_9, .ref q_10, .ref q_11, .ref q_12, .ref q_17])), (q_1, .inl (cI, 20, .inl (fun _ => 0))), (q_2, .inl (cI, 160, .inl (fun _ => 0))), (q_3, .inl (cI, 20, .inl (fun _ => 0))), (q_4, .inl (cI, 30, .inl (fun _ => 0))), (q_5, .inl (cI, 30, .inl (fun _ => 0))), (q_6, .inl (cI, 30, .inl (fun _ => 0))), (q_7, .inl (cI, 1800, .inl (fun _ => 0))), (q_8, .inl (cI, 20, .inl (fun _ => 0))), (q_9, .inl (cZ, 20, .inl (fun _ => 0))), (q_10, .inl (cI, 20, .inl (fun _ => 0))), (q_11, .inl (cJ, 20, .inr (.inl (fun _ => 0)))), (q_12, .inr (8, [.int 0, .ref q_13, .ref q_14, .ref q_15, .ref q_16])), (q_13, .inl (cI, 40, .inl (fun _ => 0))), (q_14, .inl (cI, 40, .inl (fun _ => 0))), (q_15, .inl (cI, 40, .inl (fun _ => 0))), (q_16, .inl (cB, 1200, .inl (fun _ => 0))), (q_17, .inr (9, [.int 0, .ref q_18, .ref q_19, .ref q_20, .ref q_21, .ref q_22, .ref q_23, .ref q_24, .int 0, .ref q_25, .ref q_26])), (q_18, .inl (cI, 2000, .inl (fun _ => 0))), (q_19, .inl (cJ, 2000, .inr (.inl (fun _ => 0)))), (q_20, .inl (cI, 2000, .inl (fun _ => 0))), (q_21, .inl (cI, 2000, .inl (fun _ => 0))), (q_22, .inl (cI, 2000, .inl (fun _ => 0))), (q_23, .inl (cI, 2000, .inl (fun _ => 0))), (q_24, .inl (cI, 2000, .inl (fun _ => 0))), (q_25, .inl (cI, 2000, .inl (fun _ => 0))), (q_26, .inl (cI, 2000, .inl (fun _ => 0)))])) 26 21506 (va_A [(h0, .inr (7, [.int 0, .null, .null, .null, .int 0, .null, .null, .null, .null, .int 0, .long 0, .long 0, .int 0, .null, .null, .null, .null, .null, .null]))] sz) := by
  refine ex_ofW (cc := b_Wa_init) (maxL := 1) (ret := none) (by decide) rfl ?_
  intro p e s m args below meth c s₁ B hml hno hv
  obtain ⟨rfl, hsz, hP, hK, hD0, hE⟩ := hv
  have hx := B.exec
  have hb := B.bytes
  have hr := B.returns
  have hts : ∀ w ∈ lw_good, w.before _ s = true := fun w h => atoms_spec (ws := wx y_Wa_init b_Wa_init 1 none) B.pre w (List.mem_cons_of_mem _ h)
  have hown : s.vm.findClass R_Wa = some m.cls := findClass_of_methodNamed B.named
  have hlocks := B.notSynchronized
  have htr9 : e.platform.stackTraces = false := by rw [B.admits.platform]; exact htr
  have hin : meth.name = "<init>" := (name_of_methodNamed B.named B.method).1
  subst hsz
  have hNS := xx_nostat hP
  have hD := hD0.self (sz := s.heap.size)
  generalize hAe : va_A [(h0, .inr (7, [.int 0, .null, .null, .null, .int 0, .null, .null, .null, .null, .int 0, .long 0, .long 0, .int 0, .null, .null, .null, .null, .null, .null]))] s.heap.size = A at hD hE hNS ⊢
  have hA : ∀ q : Nat, s.heap.size ≤ q → A q := fun q h => by rw [← hAe]; exact Or.inr h
  have hS : va_S A s.heap s.heap [] := va_S.rf
  have hl := lv_entry ([.ref h0]) (n := 1) (Nat.le_of_ble_eq_true rfl)
  rw [lg_entry_eq]
  generalize (lg_sl ([.ref h0]) ++ List.replicate (1 - (lg_sl ([.ref h0])).length) Slot.unset).toArray = ls at hl ⊢
  have hl : lv_has ls 1 [(0, .ref h0)] := hl
  refine lv_aload_n hx hb d_Wa_init_0 rfl (lv_at hl 0 rfl) ?_
  refine W.objInit hx hb hown (hts _ m_218) (hts _ m_34) (hts _ m_35) rfl (by rw [hml]; exact hl.1) rfl d_Wa_init_1 (Nat.le_of_ble_eq_true rfl) (Nat.le_of_ble_eq_true rfl) ?_
  refine W.eq (g2 := F0 m 4 ls []) rfl ?_
  refine lv_aload_n hx hb d_Wa_init_4 rfl (lv_at hl 0 rfl) ?_
  refine lv_bipush (v := 20) hx hb d_Wa_init_5 (by decide) ?_
  refine xx_newa (a0 := (20, .inl (fun _ => 0))) (ty := .int) (cA := cI) hx hb rfl hK (hts _ m_82) 1 rfl hP hD hS hA (fun _ => rfl) (by decide) (by decide) (by decide) (Nat.le_of_ble_eq_true rfl) (Nat.le_of_ble_eq_true rfl) d_Wa_init_7 (fun q_1 H hP hD hS => ?_)
  refine W.widen (k := 1) (n := 20) (Nat.le_of_ble_eq_true rfl) (Nat.le_of_ble_eq_true rfl) ?_
  have hP : va_P G classes [(h0, .inr (7, [.int 0, .null, .null, .null, .int 0, .null, .null, .null, .null, .int 0, .long 0, .long 0, .int 0, .null, .null, .null, .null, .null, .null])), (q_1, .inl (cI, 20, .inl (fun _ => 0)))] H := hP
  have hD : va_D A [(h0, .inr (7, [.int 0, .null, .null, .null, .int 0, .null, .null, .null, .null, .int 0, .long 0, .long 0, .int 0, .null, .null, .null, .null, .null, .null])), (q_1, .inl (cI, 20, .inl (fun _ => 0)))] := hD
  refine va_putF (D := G) (ci := 7) (v := .ref q_1) (ty := .array .int) (C := R_Wa) (T := F_Wa) (N := 19) hx hb hts i_Wa t_Wa t_Wa_ok n_Wa hown hK hP hD hS 0 rfl rfl 1 (by decide) (hts _ m_317) (fun _ h9 => h9) rfl hin rfl (by decide +kernel) rfl rfl (Nat.le_of_ble_eq_true rfl) d_Wa_init_9 (fun H locs hP hD hS => ?_)
  have hP : va_P G classes [(h0, .inr (7, [.int 0, .ref q_1, .null, .null, .int 0, .null, .null, .null, .null, .int 0, .long 0, .long 0, .int 0, .null, .null, .null, .null, .null, .null])), (q_1, .inl (cI, 20, .inl (fun _ => 0)))] H := hP
  have hD : va_D A [(h0, .inr (7, [.int 0, .ref q_1, .null, .null, .int 0, .null, .null, .null, .null, .int 0, .long 0, .long 0, .int 0, .null, .null, .null, .null, .null, .null])), (q_1, .inl (cI, 20, .inl (fun _ => 0)))] := hD
  refine lv_aload_n hx hb d_Wa_init_12 rfl (lv_at hl 0 rfl) ?_
  refine lv_sipush (v := 160) hx hb d_Wa_init_13 (by decide) ?_
  refine xx_newa (a0 := (160, .inl (fun _ => 0))) (ty := .int) (cA := cI) hx hb rfl hK (hts _ m_82) 1 rfl hP hD hS hA (fun _ => rfl) (by decide) (by decide) (by decide) (Nat.le_of_ble_eq_true rfl) (Nat.le_of_ble_eq_true rfl) d_Wa_init_16 (fun q_2 H hP hD hS => ?_)
  refine W.widen (k := 2) (n := 180) (Nat.le_of_ble_eq_true rfl) (Nat.le_of_ble_eq_true rfl) ?_
  have hP : va_P G classes [(h0, .inr (7, [.int 0, .ref q_1, .null, .null, .int 0, .null, .null, .null, .null, .int 0, .long 0, .long 0, .int 0, .null, .null, .null, .null, .null, .null])), (q_1, .inl (cI, 20, .inl (fun _ => 0))), (q_2, .inl (cI, 160, .inl (fun _ => 0)))] H := hP
  have hD : va_D A [(h0, .inr (7, [.int 0, .ref q_1, .null, .null, .int 0, .null, .null, .null, .null, .int 0, .long 0, .long 0, .int 0, .null, .null, .null, .null, .null, .null])), (q_1, .inl (cI, 20, .inl (fun _ => 0))), (q_2, .inl (cI, 160, .inl (fun _ => 0)))] := hD
  refine va_putF (D := G) (ci := 7) (v := .ref q_2) (ty := .array .int) (C := R_Wa) (T := F_Wa) (N := 19) hx hb hts i_Wa t_Wa t_Wa_ok n_Wa hown hK hP hD hS 0 rfl rfl 2 (by decide) (hts _ m_319) (fun _ h9 => h9) rfl hin rfl (by decide +kernel) rfl rfl (Nat.le_of_ble_eq_true rfl) d_Wa_init_18 (fun H locs hP hD hS => ?_)
  have hP : va_P G classes [(h0, .inr (7, [.int 0, .ref q_1, .ref q_2, .null, .int 0, .null, .null, .null, .null, .int 0, .long 0, .long 0, .int 0, .null, .null, .null, .null, .null, .null])), (q_1, .inl (cI, 20, .inl (fun _ => 0))), (q_2, .inl (cI, 160, .inl (fun _ => 0)))] H := hP
  have hD : va_D A [(h0, .inr (7, [.int 0, .ref q_1, .ref q_2, .null, .int 0, .null, .null, .null, .null, .int 0, .long 0, .long 0, .int 0, .null, .null, .null, .null, .null, .null])), (q_1, .inl (cI, 20, .inl (fun _ => 0))), (q_2, .inl (cI, 160, .inl (fun _ => 0)))] := hD
  refine lv_aload_n hx hb d_Wa_init_21 rfl (lv_at hl 0 rfl) ?_
  refine lv_bipush (v := 20) hx hb d_Wa_init_22 (by decide) ?_
  refine xx_newa (a0 := (20, .inl (fun _ => 0))) (ty := .int) (cA := cI) hx hb rfl hK (hts _ m_82) 1 rfl hP hD hS hA (fun _ => rfl) (by decide) (by decide) (by decide) (Nat.le_of_ble_eq_true rfl) (Nat.le_of_ble_eq_true rfl) d_Wa_init_24 (fun q_3 H hP hD hS => ?_)
  refine W.widen (k := 3) (n := 200) (Nat.le_of_ble_eq_true rfl) (Nat.le_of_ble_eq_true rfl) ?_
  have hP : va_P G classes [(h0, .inr (7, [.int 0, .ref q_1, .ref q_2, .null, .int 0, .null, .null, .null, .null, .int 0, .long 0, .long 0, .int 0, .null, .null, .null, .null, .null, .null])), (q_1, .inl (cI, 20, .inl (fun _ => 0))), (q_2, .inl (cI, 160, .inl (fun _ => 0))), (q_3, .inl (cI, 20, .inl (fun _ => 0)))] H := hP
  have hD : va_D A [(h0, .inr (7, [.int 0, .ref q_1, .ref q_2, .null, .int 0, .null, .null, .null, .null, .int 0, .long 0, .long 0, .int 0, .null, .null, .null, .null, .null, .null])), (q_1, .inl (cI, 20, .inl (fun _ => 0))), (q_2, .inl (cI, 160, .inl (fun _ => 0))), (q_3, .inl (cI, 20, .inl (fun _ => 0)))] := hD
  refine va_putF (D := G) (ci := 7) (v := .ref q_3) (ty := .array .int) (C := R_Wa) (T := F_Wa) (N := 19) hx hb hts i_Wa t_Wa t_Wa_ok n_Wa hown hK hP hD hS 0 rfl rfl 3 (by decide) (hts _ m_321) (fun _ h9 => h9) rfl hin rfl (by decide +kernel) rfl rfl (Nat.le_of_ble_eq_true rfl) d_Wa_init_26 (fun H locs hP hD hS => ?_)
  have hP : va_P G classes [(h0, .inr (7, [.int 0, .ref q_1, .ref q_2, .ref q_3, .int 0, .null, .null, .null, .null, .int 0, .long 0, .long 0, .int 0, .null, .null, .null, .null, .null, .null])), (q_1, .inl (cI, 20, .inl (fun _ => 0))), (q_2, .inl (cI, 160, .inl (fun _ => 0))), (q_3, .inl (cI, 20, .inl (fun _ => 0)))] H := hP
  have hD : va_D A [(h0, .inr (7, [.int 0, .ref q_1, .ref q_2, .ref q_3, .int 0, .null, .null, .null, .null, .int 0, .long 0, .long 0, .int 0, .null, .null, .null, .null, .null, .null])), (q_1, .inl (cI, 20, .inl (fun _ => 0))), (q_2, .inl (cI, 160, .inl (fun _ => 0))), (q_3, .inl (cI, 20, .inl (fun _ => 0)))] := hD
  refine lv_aload_n hx hb d_Wa_init_29 rfl (lv_at hl 0 rfl) ?_
  refine lv_bipush (v := 30) hx hb d_Wa_init_30 (by decide) ?_
  refine xx_newa (a0 := (30, .inl (fun _ => 0))) (ty := .int) (cA := cI) hx hb rfl hK (hts _ m_82) 1 rfl hP hD hS hA (fun _ => rfl) (by decide) (by decide) (by decide) (Nat.le_of_ble_eq_true rfl) (Nat.le_of_ble_eq_true rfl) d_Wa_init_32 (fun q_4 H hP hD hS => ?_)
  refine W.widen (k := 4) (n := 230) (Nat.le_of_ble_eq_true rfl) (Nat.le_of_ble_eq_true rfl) ?_
  have hP : va_P G classes [(h0, .inr (7, [.int 0, .ref q_1, .ref q_2, .ref q_3, .int 0, .null, .null, .null, .null, .int 0, .long 0, .long 0, .int 0, .null, .null, .null, .null, .null, .null])), (q_1, .inl (cI, 20, .inl (fun _ => 0))), (q_2, .inl (cI, 160, .inl (fun _ => 0))), (q_3, .inl (cI, 20, .inl (fun _ => 0))), (q_4, .inl (cI, 30, .inl (fun _ => 0)))] H := hP
  have hD : va_D A [(h0, .inr (7, [.int 0, .ref q_1, .ref q_2, .ref q_3, .int 0, .null, .null, .null, .null, .int 0, .long 0, .long 0, .int 0, .null, .null, .null, .null, .null, .null])), (q_1, .inl (cI, 20, .inl (fun _ => 0))), (q_2, .inl (cI, 160, .inl (fun _ => 0))), (q_3, .inl (cI, 20, .inl (fun _ => 0))), (q_4, .inl (cI, 30, .inl (fun _ => 0)))] := hD
  refine va_putF (D := G) (ci := 7) (v := .ref q_4) (ty := .array .int) (C := R_Wa) (T := F_Wa) (N := 19) hx hb hts i_Wa t_Wa t_Wa_ok n_Wa hown hK hP hD hS 0 rfl rfl 5 (by decide) (hts _ m_328) (fun _ h9 => h9) rfl hin rfl (by decide +kernel) rfl rfl (Nat.le_of_ble_eq_true rfl) d_Wa_init_34 (fun H locs hP hD hS => ?_)
  have hP : va_P G classes [(h0, .inr (7, [.int 0, .ref q_1, .ref q_2, .ref q_3, .int 0, .ref q_4, .null, .null, .null, .int 0, .long 0, .long 0, .int 0, .null, .null, .null, .null, .null, .null])), (q_1, .inl (cI, 20, .inl (fun _ => 0))), (q_2, .inl (cI, 160, .inl (fun _ => 0))), (q_3, .inl (cI, 20, .inl (fun _ => 0))), (q_4, .inl (cI, 30, .inl (fun _ => 0)))] H := hP
  have hD : va_D A [(h0, .inr (7, [.int 0, .ref q_1, .ref q_2, .ref q_3, .int 0, .ref q_4, .null, .null, .null, .int 0, .long 0, .long 0, .int 0, .null, .null, .null, .null, .null, .null])), (q_1, .inl (cI, 20, .inl (fun _ => 0))), (q_2, .inl (cI, 160, .inl (fun _ => 0))), (q_3, .inl (cI, 20, .inl (fun _ => 0))), (q_4, .inl (cI, 30, .inl (fun _ => 0)))] := hD
  refine lv_aload_n hx hb d_Wa_init_37 rfl (lv_at hl 0 rfl) ?_
  refine lv_bipush (v := 30) hx hb d_Wa_init_38 (by decide) ?_
  refine xx_newa (a0 := (30, .inl (fun _ => 0))) (ty := .int) (cA := cI) hx hb rfl hK (hts _ m_82) 1 rfl hP hD hS hA (fun _ => rfl) (by decide) (by decide) (by decide) (Nat.le_of_ble_eq_true rfl) (Nat.le_of_ble_eq_true rfl) d_Wa_init_40 (fun q_5 H hP hD hS => ?_)
  refine W.widen (k := 5) (n := 260) (Nat.le_of_ble_eq_true rfl) (Nat.le_of_ble_eq_true rfl) ?_
  have hP : va_P G classes [(h0, .inr (7, [.int 0, .ref q_1, .ref q_2, .ref q_3, .int 0, .ref q_4, .null, .null, .null, .int 0, .long 0, .long 0, .int 0, .null, .null, .null, .null, .null, .null])), (q_1, .inl (cI, 20, .inl (fun _ => 0))), (q_2, .inl (cI, 160, .inl (fun _ => 0))), (q_3, .inl (cI, 20, .inl (fun _ => 0))), (q_4, .inl (cI, 30, .inl (fun _ => 0))), (q_5, .inl (cI, 30, .inl (fun _ => 0)))] H := hP
  have hD : va_D A [(h0, .inr (7, [.int 0, .ref q_1, .ref q_2, .ref q_3, .int 0, .ref q_4, .null, .null, .null, .int 0, .long 0, .long 0, .int 0, .null, .null, .null, .null, .null, .null])), (q_1, .inl (cI, 20, .inl (fun _ => 0))), (q_2, .inl (cI, 160, .inl (fun _ => 0))), (q_3, .inl (cI, 20, .inl (fun _ => 0))), (q_4, .inl (cI, 30, .inl (fun _ => 0))), (q_5, .inl (cI, 30, .inl (fun _ => 0)))] := hD
  refine va_putF (D := G) (ci := 7) (v := .ref q_5) (ty := .array .int) (C := R_Wa) (T := F_Wa) (N := 19) hx hb hts i_Wa t_Wa t_Wa_ok n_Wa hown hK hP hD hS 0 rfl rfl 6 (by decide) (hts _ m_331) (fun _ h9 => h9) rfl hin rfl (by decide +kernel) rfl rfl (Nat.le_of_ble_eq_true rfl) d_Wa_init_42 (fun H locs hP hD hS => ?_)
  have hP : va_P G classes [(h0, .inr (7, [.int 0, .ref q_1, .ref q_2, .ref q_3, .int 0, .ref q_4, .ref q_5, .null, .null, .int 0, .long 0, .long 0, .int 0, .null, .null, .null, .null, .null, .null])), (q_1, .inl (cI, 20, .inl (fun _ => 0))), (q_2, .inl (cI, 160, .inl (fun _ => 0))), (q_3, .inl (cI, 20, .inl (fun _ => 0))), (q_4, .inl (cI, 30, .inl (fun _ => 0))), (q_5, .inl (cI, 30, .inl (fun _ => 0)))] H := hP
  have hD : va_D A [(h0, .inr (7, [.int 0, .ref q_1, .ref q_2, .ref q_3, .int 0, .ref q_4, .ref q_5, .null, .null, .int 0, .long 0, .long 0, .int 0, .null, .null, .null, .null, .null, .null])), (q_1, .inl (cI, 20, .inl (fun _ => 0))), (q_2, .inl (cI, 160, .inl (fun _ => 0))), (q_3, .inl (cI, 20, .inl (fun _ => 0))), (q_4, .inl (cI, 30, .inl (fun _ => 0))), (q_5, .inl (cI, 30, .inl (fun _ => 0)))] := hD
  refine lv_aload_n hx hb d_Wa_init_45 rfl (lv_at hl 0 rfl) ?_
  refine lv_bipush (v := 30) hx hb d_Wa_init_46 (by decide) ?_
  refine xx_newa (a0 := (30, .inl (fun _ => 0))) (ty := .int) (cA := cI) hx hb rfl hK (hts _ m_82) 1 rfl hP hD hS hA (fun _ => rfl) (by decide) (by decide) (by decide) (Nat.le_of_ble_eq_true rfl) (Nat.le_of_ble_eq_true rfl) d_Wa_init_48 (fun q_6 H hP hD hS => ?_)
  refine W.widen (k := 6) (n := 290) (Nat.le_of_ble_eq_true rfl) (Nat.le_of_ble_eq_true rfl) ?_
  have hP : va_P G classes [(h0, .inr (7, [.int 0, .ref q_1, .ref q_2, .ref q_3, .int 0, .ref q_4, .ref q_5, .null, .null, .int 0, .long 0, .long 0, .int 0, .null, .null, .null, .null, .null, .null])), (q_1, .inl (cI, 20, .inl (fun _ => 0))), (q_2, .inl (cI, 160, .inl (fun _ => 0))), (q_3, .inl (cI, 20, .inl (fun _ => 0))), (q_4, .inl (cI, 30, .inl (fun _ => 0))), (q_5, .inl (cI, 30, .inl (fun _ => 0))), (q_6, .inl (cI, 30, .inl (fun _ => 0)))] H := hP
  have hD : va_D A [(h0, .inr (7, [.int 0, .ref q_1, .ref q_2, .ref q_3, .int 0, .ref q_4, .ref q_5, .null, .null, .int 0, .long 0, .long 0, .int 0, .null, .null, .null, .null, .null, .null])), (q_1, .inl (cI, 20, .inl (fun _ => 0))), (q_2, .inl (cI, 160, .inl (fun _ => 0))), (q_3, .inl (cI, 20, .inl (fun _ => 0))), (q_4, .inl (cI, 30, .inl (fun _ => 0))), (q_5, .inl (cI, 30, .inl (fun _ => 0))), (q_6, .inl (cI, 30, .inl (fun _ => 0)))] := hD
  refine va_putF (D := G) (ci := 7) (v := .ref q_6) (ty := .array .int) (C := R_Wa) (T := F_Wa) (N := 19) hx hb hts i_Wa t_Wa t_Wa_ok n_Wa hown hK hP hD hS 0 rfl rfl 7 (by decide) (hts _ m_335) (fun _ h9 => h9) rfl hin rfl (by decide +kernel) rfl rfl (Nat.le_of_ble_eq_true rfl) d_Wa_init_50 (fun H locs hP hD hS => ?_)
  have hP : va_P G classes [(h0, .inr (7, [.int 0, .ref q_1, .ref q_2, .ref q_3, .int 0, .ref q_4, .ref q_5, .ref q_6, .null, .int 0, .long 0, .long 0, .int 0, .null, .null, .null, .null, .null, .null])), (q_1, .inl (cI, 20, .inl (fun _ => 0))), (q_2, .inl (cI, 160, .inl (fun _ => 0))), (q_3, .inl (cI, 20, .inl (fun _ => 0))), (q_4, .inl (cI, 30, .inl (fun _ => 0))), (q_5, .inl (cI, 30, .inl (fun _ => 0))), (q_6, .inl (cI, 30, .inl (fun _ => 0)))] H := hP
  have hD : va_D A [(h0, .inr (7, [.int 0, .ref q_1, .ref q_2, .ref q_3, .int 0, .ref q_4, .ref q_5, .ref q_6, .null, .int 0, .long 0, .long 0, .int 0, .null, .null, .null, .null, .null, .null])), (q_1, .inl (cI, 20, .inl (fun _ => 0))), (q_2, .inl (cI, 160, .inl (fun _ => 0))), (q_3, .inl (cI, 20, .inl (fun _ => 0))), (q_4, .inl (cI, 30, .inl (fun _ => 0))), (q_5, .inl (cI, 30, .inl (fun _ => 0))), (q_6, .inl (cI, 30, .inl (fun _ => 0)))] := hD
  refine lv_aload_n hx hb d_Wa_init_53 rfl (lv_at hl 0 rfl) ?_
  refine lv_sipush (v := 1800) hx hb d_Wa_init_54 (by decide) ?_
  refine xx_newa (a0 := (1800, .inl (fun _ => 0))) (ty := .int) (cA := cI) hx hb rfl hK (hts _ m_82) 1 rfl hP hD hS hA (fun _ => rfl) (by decide) (by decide) (by decide) (Nat.le_of_ble_eq_true rfl) (Nat.le_of_ble_eq_true rfl) d_Wa_init_57 (fun q_7 H hP hD hS => ?_)
  refine W.widen (k := 7) (n := 2090) (Nat.le_of_ble_eq_true rfl) (Nat.le_of_ble_eq_true rfl) ?_
  have hP : va_P G classes [(h0, .inr (7, [.int 0, .ref q_1, .ref q_2, .ref q_3, .int 0, .ref q_4, .ref q_5, .ref q_6, .null, .int 0, .long 0, .long 0, .int 0, .null, .null, .null, .null, .null, .null])), (q_1, .inl (cI, 20, .inl (fun _ => 0))), (q_2, .inl (cI, 160, .inl (fun _ => 0))), (q_3, .inl (cI, 20, .inl (fun _ => 0))), (q_4, .inl (cI, 30, .inl (fun _ => 0))), (q_5, .inl (cI, 30, .inl (fun _ => 0))), (q_6, .inl (cI, 30, .inl (fun _ => 0))), (q_7, .inl (cI, 1800, .inl (fun _ => 0)))] H := hP
  have hD : va_D A [(h0, .inr (7, [.int 0, .ref q_1, .ref q_2, .ref q_3, .int 0, .ref q_4, .ref q_5, .ref q_6, .null, .int 0, .long 0, .long 0, .int 0, .null, .null, .null, .null, .null, .null])), (q_1, .inl (cI, 20, .inl (fun _ => 0))), (q_2, .inl (cI, 160, .inl (fun _ => 0))), (q_3, .inl (cI, 20, .inl (fun _ => 0))), (q_4, .inl (cI, 30, .inl (fun _ => 0))), (q_5, .inl (cI, 30, .inl (fun _ => 0))), (q_6, .inl (cI, 30, .inl (fun _ => 0))), (q_7, .inl (cI, 1800, .inl (fun _ => 0)))] := hD
  refine va_putF (D := G) (ci := 7) (v := .ref q_7) (ty := .array .int) (C := R_Wa) (T := F_Wa) (N := 19) hx hb hts i_Wa t_Wa t_Wa_ok n_Wa hown hK hP hD hS 0 rfl rfl 8 (by decide) (hts _ m_338) (fun _ h9 => h9) rfl hin rfl (by decide +kernel) rfl rfl (Nat.le_of_ble_eq_true rfl) d_Wa_init_59 (fun H locs hP hD hS => ?_)
  have hP : va_P G classes [(h0, .inr (7, [.int 0, .ref q_1, .ref q_2, .ref q_3, .int 0, .ref q_4, .ref q_5, .ref q_6, .ref q_7, .int 0, .long 0, .long 0, .int 0, .null, .null, .null, .null, .null, .null])), (q_1, .inl (cI, 20, .inl (fun _ => 0))), (q_2, .inl (cI, 160, .inl (fun _ => 0))), (q_3, .inl (cI, 20, .inl (fun _ => 0))), (q_4, .inl (cI, 30, .inl (fun _ => 0))), (q_5, .inl (cI, 30, .inl (fun _ => 0))), (q_6, .inl (cI, 30, .inl (fun _ => 0))), (q_7, .inl (cI, 1800, .inl (fun _ => 0)))] H := hP
  have hD : va_D A [(h0, .inr (7, [.int 0, .ref q_1, .ref q_2, .ref q_3, .int 0, .ref q_4, .ref q_5, .ref q_6, .ref q_7, .int 0, .long 0, .long 0, .int 0, .null, .null, .null, .null, .null, .null])), (q_1, .inl (cI, 20, .inl (fun _ => 0))), (q_2, .inl (cI, 160, .inl (fun _ => 0))), (q_3, .inl (cI, 20, .inl (fun _ => 0))), (q_4, .inl (cI, 30, .inl (fun _ => 0))), (q_5, .inl (cI, 30, .inl (fun _ => 0))), (q_6, .inl (cI, 30, .inl (fun _ => 0))), (q_7, .inl (cI, 1800, .inl (fun _ => 0)))] := hD
  refine lv_aload_n hx hb d_Wa_init_62 rfl (lv_at hl 0 rfl) ?_
  refine lv_bipush (v := 20) hx hb d_Wa_init_63 (by decide) ?_
  refine xx_newa (a0 := (20, .inl (fun _ => 0))) (ty := .int) (cA := cI) hx hb rfl hK (hts _ m_82) 1 rfl hP hD hS hA (fun _ => rfl) (by decide) (by decide) (by decide) (Nat.le_of_ble_eq_true rfl) (Nat.le_of_ble_eq_true rfl) d_Wa_init_65 (fun q_8 H hP hD hS => ?_)
  refine W.widen (k := 8) (n := 2110) (Nat.le_of_ble_eq_true rfl) (Nat.le_of_ble_eq_true rfl) ?_
  have hP : va_P G classes [(h0, .inr (7, [.int 0, .ref q_1, .ref q_2, .ref q_3, .int 0, .ref q_4, .ref q_5, .ref q_6, .ref q_7, .int 0, .long 0, .long 0, .int 0, .null, .null, .null, .null, .null, .null])), (q_1, .inl (cI, 20, .inl (fun _ => 0))), (q_2, .inl (cI, 160, .inl (fun _ => 0))), (q_3, .inl (cI, 20, .inl (fun _ => 0))), (q_4, .inl (cI, 30, .inl (fun _ => 0))), (q_5, .inl (cI, 30, .inl (fun _ => 0))), (q_6, .inl (cI, 30, .inl (fun _ => 0))), (q_7, .inl (cI, 1800, .inl (fun _ => 0))), (q_8, .inl (cI, 20, .inl (fun _ => 0)))] H := hP
  have hD : va_D A [(h0, .inr (7, [.int 0, .ref q_1, .ref q_2, .ref q_3, .int 0, .ref q_4, .ref q_5, .ref q_6, .ref q_7, .int 0, .long 0, .long 0, .int 0, .null, .null, .null, .null, .null, .null])), (q_1, .inl (cI, 20, .inl (fun _ => 0))), (q_2, .inl (cI, 160, .inl (fun _ => 0))), (q_3, .inl (cI, 20, .inl (fun _ => 0))), (q_4, .inl (cI, 30, .inl (fun _ => 0))), (q_5, .inl (cI, 30, .inl (fun _ => 0))), (q_6, .inl (cI, 30, .inl (fun _ => 0))), (q_7, .inl (cI, 1800, .inl (fun _ => 0))), (q_8, .inl (cI, 20, .inl (fun _ => 0)))] := hD
  refine va_putF (D := G) (ci := 7) (v := .ref q_8) (ty := .array .int) (C := R_Wa) (T := F_Wa) (N := 19) hx hb hts i_Wa t_Wa t_Wa_ok n_Wa hown hK hP hD hS 0 rfl rfl 13 (by decide) (hts _ m_358) (fun _ h9 => h9) rfl hin rfl (by decide +kernel) rfl rfl (Nat.le_of_ble_eq_true rfl) d_Wa_init_67 (fun H locs hP hD hS => ?_)
  have hP : va_P G classes [(h0, .inr (7, [.int 0, .ref q_1, .ref q_2, .ref q_3, .int 0, .ref q_4, .ref q_5, .ref q_6, .ref q_7, .int 0, .long 0, .long 0, .int 0, .ref q_8, .null, .null, .null, .null, .null])), (q_1, .inl (cI, 20, .inl (fun _ => 0))), (q_2, .inl (cI, 160, .inl (fun _ => 0))), (q_3, .inl (cI, 20, .inl (fun _ => 0))), (q_4, .inl (cI, 30, .inl (fun _ => 0))), (q_5, .inl (cI, 30, .inl (fun _ => 0))), (q_6, .inl (cI, 30, .inl (fun _ => 0))), (q_7, .inl (cI, 1800, .inl (fun _ => 0))), (q_8, .inl (cI, 20, .inl (fun _ => 0)))] H := hP
  have hD : va_D A [(h0, .inr (7, [.int 0, .ref q_1, .ref q_2, .ref q_3, .int 0, .ref q_4, .ref q_5, .ref q_6, .ref q_7, .int 0, .long 0, .long 0, .int 0, .ref q_8, .null, .null, .null, .null, .null])), (q_1, .inl (cI, 20, .inl (fun _ => 0))), (q_2, .inl (cI, 160, .inl (fun _ => 0))), (q_3, .inl (cI, 20, .inl (fun _ => 0))), (q_4, .inl (cI, 30, .inl (fun _ => 0))), (q_5, .inl (cI, 30, .inl (fun _ => 0))), (q_6, .inl (cI, 30, .inl (fun _ => 0))), (q_7, .inl (cI, 1800, .inl (fun _ => 0))), (q_8, .inl (cI, 20, .inl (fun _ => 0)))] := hD
  refine lv_aload_n hx hb d_Wa_init_70 rfl (lv_at hl 0 rfl) ?_
  refine lv_bipush (v := 20) hx hb d_Wa_init_71 (by decide) ?_
  refine xx_newa (a0 := (20, .inl (fun _ => 0))) (ty := .boolean) (cA := cZ) hx hb rfl hK (hts _ m_145) 3 rfl hP hD hS hA (fun _ => rfl) (by decide) (by decide) (by decide) (Nat.le_of_ble_eq_true rfl) (Nat.le_of_ble_eq_true rfl) d_Wa_init_73 (fun q_9 H hP hD hS => ?_)
  refine W.widen (k := 9) (n := 2130) (Nat.le_of_ble_eq_true rfl) (Nat.le_of_ble_eq_true rfl) ?_
  have hP : va_P G classes [(h0, .inr (7, [.int 0, .ref q_1, .ref q_2, .ref q_3, .int 0, .ref q_4, .ref q_5, .ref q_6, .ref q_7, .int 0, .long 0, .long 0, .int 0, .ref q_8, .null, .null, .null, .null, .null])), (q_1, .inl (cI, 20, .inl (fun _ => 0))), (q_2, .inl (cI, 160, .inl (fun _ => 0))), (q_3, .inl (cI, 20, .inl (fun _ => 0))), (q_4, .inl (cI, 30, .inl (fun _ => 0))), (q_5, .inl (cI, 30, .inl (fun _ => 0))), (q_6, .inl (cI, 30, .inl (fun _ => 0))), (q_7, .inl (cI, 1800, .inl (fun _ => 0))), (q_8, .inl (cI, 20, .inl (fun _ => 0))), (q_9, .inl (cZ, 20, .inl (fun _ => 0)))] H := hP
  have hD : va_D A [(h0, .inr (7, [.int 0, .ref q_1, .ref q_2, .ref q_3, .int 0, .ref q_4, .ref q_5, .ref q_6, .ref q_7, .int 0, .long 0, .long 0, .int 0, .ref q_8, .null, .null, .null, .null, .null])), (q_1, .inl (cI, 20, .inl (fun _ => 0))), (q_2, .inl (cI, 160, .inl (fun _ => 0))), (q_3, .inl (cI, 20, .inl (fun _ => 0))), (q_4, .inl (cI, 30, .inl (fun _ => 0))), (q_5, .inl (cI, 30, .inl (fun _ => 0))), (q_6, .inl (cI, 30, .inl (fun _ => 0))), (q_7, .inl (cI, 1800, .inl (fun _ => 0))), (q_8, .inl (cI, 20, .inl (fun _ => 0))), (q_9, .inl (cZ, 20, .inl (fun _ => 0)))] := hD
  refine va_putF (D := G) (ci := 7) (v := .ref q_9) (ty := .array .boolean) (C := R_Wa) (T := F_Wa) (N := 19) hx hb hts i_Wa t_Wa t_Wa_ok n_Wa hown hK hP hD hS 0 rfl rfl 14 (by decide) (hts _ m_362) (fun _ h9 => h9) rfl hin rfl (by decide +kernel) rfl rfl (Nat.le_of_ble_eq_true rfl) d_Wa_init_75 (fun H locs hP hD hS => ?_)
  have hP : va_P G classes [(h0, .inr (7, [.int 0, .ref q_1, .ref q_2, .ref q_3, .int 0, .ref q_4, .ref q_5, .ref q_6, .ref q_7, .int 0, .long 0, .long 0, .int 0, .ref q_8, .ref q_9, .null, .null, .null, .null])), (q_1, .inl (cI, 20, .inl (fun _ => 0))), (q_2, .inl (cI, 160, .inl (fun _ => 0))), (q_3, .inl (cI, 20, .inl (fun _ => 0))), (q_4, .inl (cI, 30, .inl (fun _ => 0))), (q_5, .inl (cI, 30, .inl (fun _ => 0))), (q_6, .inl (cI, 30, .inl (fun _ => 0))), (q_7, .inl (cI, 1800, .inl (fun _ => 0))), (q_8, .inl (cI, 20, .inl (fun _ => 0))), (q_9, .inl (cZ, 20, .inl (fun _ => 0)))] H := hP
  have hD : va_D A [(h0, .inr (7, [.int 0, .ref q_1, .ref q_2, .ref q_3, .int 0, .ref q_4, .ref q_5, .ref q_6, .ref q_7, .int 0, .long 0, .long 0, .int 0, .ref q_8, .ref q_9, .null, .null, .null, .null])), (q_1, .inl (cI, 20, .inl (fun _ => 0))), (q_2, .inl (cI, 160, .inl (fun _ => 0))), (q_3, .inl (cI, 20, .inl (fun _ => 0))), (q_4, .inl (cI, 30, .inl (fun _ => 0))), (q_5, .inl (cI, 30, .inl (fun _ => 0))), (q_6, .inl (cI, 30, .inl (fun _ => 0))), (q_7, .inl (cI, 1800, .inl (fun _ => 0))), (q_8, .inl (cI, 20, .inl (fun _ => 0))), (q_9, .inl (cZ, 20, .inl (fun _ => 0)))] := hD
  refine lv_aload_n hx hb d_Wa_init_78 rfl (lv_at hl 0 rfl) ?_
  refine lv_bipush (v := 20) hx hb d_Wa_init_79 (by decide) ?_
  refine xx_newa (a0 := (20, .inl (fun _ => 0))) (ty := .int) (cA := cI) hx hb rfl hK (hts _ m_82) 1 rfl hP hD hS hA (fun _ => rfl) (by decide) (by decide) (by decide) (Nat.le_of_ble_eq_true rfl) (Nat.le_of_ble_eq_true rfl) d_Wa_init_81 (fun q_10 H hP hD hS => ?_)
  refine W.widen (k := 10) (n := 2150) (Nat.le_of_ble_eq_true rfl) (Nat.le_of_ble_eq_true rfl) ?_
  have hP : va_P G classes [(h0, .inr (7, [.int 0, .ref q_1, .ref q_2, .ref q_3, .int 0, .ref q_4, .ref q_5, .ref q_6, .ref q_7, .int 0, .long 0, .long 0, .int 0, .ref q_8, .ref q_9, .null, .null, .null, .null])), (q_1, .inl (cI, 20, .inl (fun _ => 0))), (q_2, .inl (cI, 160, .inl (fun _ => 0))), (q_3, .inl (cI, 20, .inl (fun _ => 0))), (q_4, .inl (cI, 30, .inl (fun _ => 0))), (q_5, .inl (cI, 30, .inl (fun _ => 0))), (q_6, .inl (cI, 30, .inl (fun _ => 0))), (q_7, .inl (cI, 1800, .inl (fun _ => 0))), (q_8, .inl (cI, 20, .inl (fun _ => 0))), (q_9, .inl (cZ, 20, .inl (fun _ => 0))), (q_10, .inl (cI, 20, .inl (fun _ => 0)))] H := hP
  have hD : va_D A [(h0, .inr (7, [.int 0, .ref q_1, .ref q_2, .ref q_3, .int 0, .ref q_4, .ref q_5, .ref q_6, .ref q_7, .int 0, .long 0, .long 0, .int 0, .ref q_8, .ref q_9, .null, .null, .null, .null])), (q_1, .inl (cI, 20, .inl (fun _ => 0))), (q_2, .inl (cI, 160, .inl (fun _ => 0))), (q_3, .inl (cI, 20, .inl (fun _ => 0))), (q_4, .inl (cI, 30, .inl (fun _ => 0))), (q_5, .inl (cI, 30, .inl (fun _ => 0))), (q_6, .inl (cI, 30, .inl (fun _ => 0))), (q_7, .inl (cI, 1800, .inl (fun _ => 0))), (q_8, .inl (cI, 20, .inl (fun _ => 0))), (q_9, .inl (cZ, 20, .inl (fun _ => 0))), (q_10, .inl (cI, 20, .inl (fun _ => 0)))] := hD
  refine va_putF (D := G) (ci := 7) (v := .ref q_10) (ty := .array .int) (C := R_Wa) (T := F_Wa) (N := 19) hx hb hts i_Wa t_Wa t_Wa_ok n_Wa hown hK hP hD hS 0 rfl rfl 15 (by decide) (hts _ m_365) (fun _ h9 => h9) rfl hin rfl (by decide +kernel) rfl rfl (Nat.le_of_ble_eq_true rfl) d_Wa_init_83 (fun H locs hP hD hS => ?_)
  have hP : va_P G classes [(h0, .inr (7, [.int 0, .ref q_1, .ref q_2, .ref q_3, .int 0, .ref q_4, .ref q_5, .ref q_6, .ref q_7, .int 0, .long 0, .long 0, .int 0, .ref q_8, .ref q_9, .ref q_10, .null, .null, .null])), (q_1, .inl (cI, 20, .inl (fun _ => 0))), (q_2, .inl (cI, 160, .inl (fun _ => 0))), (q_3, .inl (cI, 20, .inl (fun _ => 0))), (q_4, .inl (cI, 30, .inl (fun _ => 0))), (q_5, .inl (cI, 30, .inl (fun _ => 0))), (q_6, .inl (cI, 30, .inl (fun _ => 0))), (q_7, .inl (cI, 1800, .inl (fun _ => 0))), (q_8, .inl (cI, 20, .inl (fun _ => 0))), (q_9, .inl (cZ, 20, .inl (fun _ => 0))), (q_10, .inl (cI, 20, .inl (fun _ => 0)))] H := hP
  have hD : va_D A [(h0, .inr (7, [.int 0, .ref q_1, .ref q_2, .ref q_3, .int 0, .ref q_4, .ref q_5, .ref q_6, .ref q_7, .int 0, .long 0, .long 0, .int 0, .ref q_8, .ref q_9, .ref q_10, .null, .null, .null])), (q_1, .inl (cI, 20, .inl (fun _ => 0))), (q_2, .inl (cI, 160, .inl (fun _ => 0))), (q_3, .inl (cI, 20, .inl (fun _ => 0))), (q_4, .inl (cI, 30, .inl (fun _ => 0))), (q_5, .inl (cI, 30, .inl (fun _ => 0))), (q_6, .inl (cI, 30, .inl (fun _ => 0))), (q_7, .inl (cI, 1800, .inl (fun _ => 0))), (q_8, .inl (cI, 20, .inl (fun _ => 0))), (q_9, .inl (cZ, 20, .inl (fun _ => 0))), (q_10, .inl (cI, 20, .inl (fun _ => 0)))] := hD
  refine lv_aload_n hx hb d_Wa_init_86 rfl (lv_at hl 0 rfl) ?_
  refine lv_bipush (v := 20) hx hb d_Wa_init_87 (by decide) ?_
  refine xx_newa (a0 := (20, .inr (.inl (fun _ => 0)))) (ty := .long) (cA := cJ) hx hb rfl hK (hts _ m_62) 2 rfl hP hD hS hA (fun _ => rfl) (by decide) (by decide) (by decide) (Nat.le_of_ble_eq_true rfl) (Nat.le_of_ble_eq_true rfl) d_Wa_init_89 (fun q_11 H hP hD hS => ?_)
  refine W.widen (k := 11) (n := 2170) (Nat.le_of_ble_eq_true rfl) (Nat.le_of_ble_eq_true rfl) ?_
  have hP : va_P G classes [(h0, .inr (7, [.int 0, .ref q_1, .ref q_2, .ref q_3, .int 0, .ref q_4, .ref q_5, .ref q_6, .ref q_7, .int 0, .long 0, .long 0, .int 0, .ref q_8, .ref q_9, .ref q_10, .null, .null, .null])), (q_1, .inl (cI, 20, .inl (fun _ => 0))), (q_2, .inl (cI, 160, .inl (fun _ => 0))), (q_3, .inl (cI, 20, .inl (fun _ => 0))), (q_4, .inl (cI, 30, .inl (fun _ => 0))), (q_5, .inl (cI, 30, .inl (fun _ => 0))), (q_6, .inl (cI, 30, .inl (fun _ => 0))), (q_7, .inl (cI, 1800, .inl (fun _ => 0))), (q_8, .inl (cI, 20, .inl (fun _ => 0))), (q_9, .inl (cZ, 20, .inl (fun _ => 0))), (q_10, .inl (cI, 20, .inl (fun _ => 0))), (q_11, .inl (cJ, 20, .inr (.inl (fun _ => 0))))] H := hP
  have hD : va_D A [(h0, .inr (7, [.int 0, .ref q_1, .ref q_2, .ref q_3, .int 0, .ref q_4, .ref q_5, .ref q_6, .ref q_7, .int 0, .long 0, .long 0, .int 0, .ref q_8, .ref q_9, .ref q_10, .null, .null, .null])), (q_1, .inl (cI, 20, .inl (fun _ => 0))), (q_2, .inl (cI, 160, .inl (fun _ => 0))), (q_3, .inl (cI, 20, .inl (fun _ => 0))), (q_4, .inl (cI, 30, .inl (fun _ => 0))), (q_5, .inl (cI, 30, .inl (fun _ => 0))), (q_6, .inl (cI, 30, .inl (fun _ => 0))), (q_7, .inl (cI, 1800, .inl (fun _ => 0))), (q_8, .inl (cI, 20, .inl (fun _ => 0))), (q_9, .inl (cZ, 20, .inl (fun _ => 0))), (q_10, .inl (cI, 20, .inl (fun _ => 0))), (q_11, .inl (cJ, 20, .inr (.inl (fun _ => 0))))] := hD
  refine va_putF (D := G) (ci := 7) (v := .ref q_11) (ty := .array .long) (C := R_Wa) (T := F_Wa) (N := 19) hx hb hts i_Wa t_Wa t_Wa_ok n_Wa hown hK hP hD hS 0 rfl rfl 16 (by decide) (hts _ m_368) (fun _ h9 => h9) rfl hin rfl (by decide +kernel) rfl rfl (Nat.le_of_ble_eq_true rfl) d_Wa_init_91 (fun H locs hP hD hS => ?_)
  have hP : va_P G classes [(h0, .inr (7, [.int 0, .ref q_1, .ref q_2, .ref q_3, .int 0, .ref q_4, .ref q_5, .ref q_6, .ref q_7, .int 0, .long 0, .long 0, .int 0, .ref q_8, .ref q_9, .ref q_10, .ref q_11, .null, .null])), (q_1, .inl (cI, 20, .inl (fun _ => 0))), (q_2, .inl (cI, 160, .inl (fun _ => 0))), (q_3, .inl (cI, 20, .inl (fun _ => 0))), (q_4, .inl (cI, 30, .inl (fun _ => 0))), (q_5, .inl (cI, 30, .inl (fun _ => 0))), (q_6, .inl (cI, 30, .inl (fun _ => 0))), (q_7, .inl (cI, 1800, .inl (fun _ => 0))), (q_8, .inl (cI, 20, .inl (fun _ => 0))), (q_9, .inl (cZ, 20, .inl (fun _ => 0))), (q_10, .inl (cI, 20, .inl (fun _ => 0))), (q_11, .inl (cJ, 20, .inr (.inl (fun _ => 0))))] H := hP
  have hD : va_D A [(h0, .inr (7, [.int 0, .ref q_1, .ref q_2, .ref q_3, .int 0, .ref q_4, .ref q_5, .ref q_6, .ref q_7, .int 0, .long 0, .long 0, .int 0, .ref q_8, .ref q_9, .ref q_10, .ref q_11, .null, .null])), (q_1, .inl (cI, 20, .inl (fun _ => 0))), (q_2, .inl (cI, 160, .inl (fun _ => 0))), (q_3, .inl (cI, 20, .inl (fun _ => 0))), (q_4, .inl (cI, 30, .inl (fun _ => 0))), (q_5, .inl (cI, 30, .inl (fun _ => 0))), (q_6, .inl (cI, 30, .inl (fun _ => 0))), (q_7, .inl (cI, 1800, .inl (fun _ => 0))), (q_8, .inl (cI, 20, .inl (fun _ => 0))), (q_9, .inl (cZ, 20, .inl (fun _ => 0))), (q_10, .inl (cI, 20, .inl (fun _ => 0))), (q_11, .inl (cJ, 20, .inr (.inl (fun _ => 0))))] := hD
  refine lv_aload_n hx hb d_Wa_init_94 rfl (lv_at hl 0 rfl) ?_
  refine va_new (ci := 8) (fs := [.int 0, .null, .null, .null, .null]) (C := R_Ex) (T := F_Ex) (N := 5) hx hb hts i_Ex t_Ex t_Ex_ok hown (hts _ m_219) (hts _ m_220) (hts _ m_9) hK hP hD hS hA rfl df_Ex (Nat.le_of_ble_eq_true rfl) (Nat.le_of_ble_eq_true rfl) d_Wa_init_95 (fun q_12 H hP hD hS => ?_)
  refine W.widen (k := 12) (n := 2175) (Nat.le_of_ble_eq_true rfl) (Nat.le_of_ble_eq_true rfl) ?_
  have hP : va_P G classes [(h0, .inr (7, [.int 0, .ref q_1, .ref q_2, .ref q_3, .int 0, .ref q_4, .ref q_5, .ref q_6, .ref q_7, .int 0, .long 0, .long 0, .int 0, .ref q_8, .ref q_9, .ref q_10, .ref q_11, .null, .null])), (q_1, .inl (cI, 20, .inl (fun _ => 0))), (q_2, .inl (cI, 160, .inl (fun _ => 0))), (q_3, .inl (cI, 20, .inl (fun _ => 0))), (q_4, .inl (cI, 30, .inl (fun _ => 0))), (q_5, .inl (cI, 30, .inl (fun _ => 0))), (q_6, .inl (cI, 30, .inl (fun _ => 0))), (q_7, .inl (cI, 1800, .inl (fun _ => 0))), (q_8, .inl (cI, 20, .inl (fun _ => 0))), (q_9, .inl (cZ, 20, .inl (fun _ => 0))), (q_10, .inl (cI, 20, .inl (fun _ => 0))), (q_11, .inl (cJ, 20, .inr (.inl (fun _ => 0)))), (q_12, .inr (8, [.int 0, .null, .null, .null, .null]))] H := hP
  have hD : va_D A [(h0, .inr (7, [.int 0, .ref q_1, .ref q_2, .ref q_3, .int 0, .ref q_4, .ref q_5, .ref q_6, .ref q_7, .int 0, .long 0, .long 0, .int 0, .ref q_8, .ref q_9, .ref q_10, .ref q_11, .null, .null])), (q_1, .inl (cI, 20, .inl (fun _ => 0))), (q_2, .inl (cI, 160, .inl (fun _ => 0))), (q_3, .inl (cI, 20, .inl (fun _ => 0))), (q_4, .inl (cI, 30, .inl (fun _ => 0))), (q_5, .inl (cI, 30, .inl (fun _ => 0))), (q_6, .inl (cI, 30, .inl (fun _ => 0))), (q_7, .inl (cI, 1800, .inl (fun _ => 0))), (q_8, .inl (cI, 20, .inl (fun _ => 0))), (q_9, .inl (cZ, 20, .inl (fun _ => 0))), (q_10, .inl (cI, 20, .inl (fun _ => 0))), (q_11, .inl (cJ, 20, .inr (.inl (fun _ => 0)))), (q_12, .inr (8, [.int 0, .null, .null, .null, .null]))] := hD
  refine lv_dup hx hb d_Wa_init_98 rfl ?_
  refine xx_callI (wc := [(q_12, .inr (8, [.int 0, .null, .null, .null, .null]))]) (wr := [(h0, .inr (7, [.int 0, .ref q_1, .ref q_2, .ref q_3, .int 0, .ref q_4, .ref q_5, .ref q_6, .ref q_7, .int 0, .long 0, .long 0, .int 0, .ref q_8, .ref q_9, .ref q_10, .ref q_11, .null, .null])), (q_1, .inl (cI, 20, .inl (fun _ => 0))), (q_2, .inl (cI, 160, .inl (fun _ => 0))), (q_3, .inl (cI, 20, .inl (fun _ => 0))), (q_4, .inl (cI, 30, .inl (fun _ => 0))), (q_5, .inl (cI, 30, .inl (fun _ => 0))), (q_6, .inl (cI, 30, .inl (fun _ => 0))), (q_7, .inl (cI, 1800, .inl (fun _ => 0))), (q_8, .inl (cI, 20, .inl (fun _ => 0))), (q_9, .inl (cZ, 20, .inl (fun _ => 0))), (q_10, .inl (cI, 20, .inl (fun _ => 0))), (q_11, .inl (cJ, 20, .inr (.inl (fun _ => 0))))]) (As := []) (rest := [.ref q_12, .ref h0]) ⟨hx, hb, hml, hown, hts⟩ xE_st hK hE hA (c_Ex_init l htr G cB cI cJ cZ q_12 _) (xw_I 0 hts m_221 m_222 m_9 m_223 rfl (by decide +kernel) ⟨(Nat.le_of_ble_eq_true rfl), (Nat.le_of_ble_eq_true rfl)⟩) hP hD hS [12] [0, 1, 2, 3, 4, 5, 6, 7, 8, 9, 10, 11] rfl rfl (by decide) (by decide) (by decide) rfl hl.1 rfl (Nat.le_of_ble_eq_true rfl) d_Wa_init_99 ⟨(Nat.le_of_ble_eq_true rfl), (Nat.le_of_ble_eq_true rfl)⟩ (fun v9 w9 H locs hp hP hD hS => ?_) (fun x9 w9 H9 l9 hp _ _ _ => absurd hp (by rintro ⟨_, _, _, _, ho, -⟩; cases ho))
  obtain ⟨q_13, q_14, q_15, q_16, ho, rfl⟩ := hp
  cases ho
  have hP : va_P G classes [(h0, .inr (7, [.int 0, .ref q_1, .ref q_2, .ref q_3, .int 0, .ref q_4, .ref q_5, .ref q_6, .ref q_7, .int 0, .long 0, .long 0, .int 0, .ref q_8, .ref q_9, .ref q_10, .ref q_11, .null, .null])), (q_1, .inl (cI, 20, .inl (fun _ => 0))), (q_2, .inl (cI, 160, .inl (fun _ => 0))), (q_3, .inl (cI, 20, .inl (fun _ => 0))), (q_4, .inl (cI, 30, .inl (fun _ => 0))), (q_5, .inl (cI, 30, .inl (fun _ => 0))), (q_6, .inl (cI, 30, .inl (fun _ => 0))), (q_7, .inl (cI, 1800, .inl (fun _ => 0))), (q_8, .inl (cI, 20, .inl (fun _ => 0))), (q_9, .inl (cZ, 20, .inl (fun _ => 0))), (q_10, .inl (cI, 20, .inl (fun _ => 0))), (q_11, .inl (cJ, 20, .inr (.inl (fun _ => 0)))), (q_12, .inr (8, [.int 0, .ref q_13, .ref q_14, .ref q_15, .ref q_16])), (q_13, .inl (cI, 40, .inl (fun _ => 0))), (q_14, .inl (cI, 40, .inl (fun _ => 0))), (q_15, .inl (cI, 40, .inl (fun _ => 0))), (q_16, .inl (cB, 1200, .inl (fun _ => 0)))] H := hP
  have hD : va_D A [(h0, .inr (7, [.int 0, .ref q_1, .ref q_2, .ref q_3, .int 0, .ref q_4, .ref q_5, .ref q_6, .ref q_7, .int 0, .long 0, .long 0, .int 0, .ref q_8, .ref q_9, .ref q_10, .ref q_11, .null, .null])), (q_1, .inl (cI, 20, .inl (fun _ => 0))), (q_2, .inl (cI, 160, .inl (fun _ => 0))), (q_3, .inl (cI, 20, .inl (fun _ => 0))), (q_4, .inl (cI, 30, .inl (fun _ => 0))), (q_5, .inl (cI, 30, .inl (fun _ => 0))), (q_6, .inl (cI, 30, .inl (fun _ => 0))), (q_7, .inl (cI, 1800, .inl (fun _ => 0))), (q_8, .inl (cI, 20, .inl (fun _ => 0))), (q_9, .inl (cZ, 20, .inl (fun _ => 0))), (q_10, .inl (cI, 20, .inl (fun _ => 0))), (q_11, .inl (cJ, 20, .inr (.inl (fun _ => 0)))), (q_12, .inr (8, [.int 0, .ref q_13, .ref q_14, .ref q_15, .ref q_16])), (q_13, .inl (cI, 40, .inl (fun _ => 0))), (q_14, .inl (cI, 40, .inl (fun _ => 0))), (q_15, .inl (cI, 40, .inl (fun _ => 0))), (q_16, .inl (cB, 1200, .inl (fun _ => 0)))] := hD
  refine W.widen (k := 16) (n := 3495) (Nat.le_of_ble_eq_true rfl) (Nat.le_of_ble_eq_true rfl) ?_
  refine va_putF (D := G) (ci := 7) (v := .ref q_12) (ty := .object "WaferRunner$Exports") (C := R_Wa) (T := F_Wa) (N := 19) hx hb hts i_Wa t_Wa t_Wa_ok n_Wa hown hK hP hD hS 0 rfl rfl 17 (by decide) (hts _ m_371) (fun _ h9 => h9) rfl hin rfl (by decide +kernel) rfl rfl (Nat.le_of_ble_eq_true rfl) d_Wa_init_102 (fun H locs hP hD hS => ?_)
  have hP : va_P G classes [(h0, .inr (7, [.int 0, .ref q_1, .ref q_2, .ref q_3, .int 0, .ref q_4, .ref q_5, .ref q_6, .ref q_7, .int 0, .long 0, .long 0, .int 0, .ref q_8, .ref q_9, .ref q_10, .ref q_11, .ref q_12, .null])), (q_1, .inl (cI, 20, .inl (fun _ => 0))), (q_2, .inl (cI, 160, .inl (fun _ => 0))), (q_3, .inl (cI, 20, .inl (fun _ => 0))), (q_4, .inl (cI, 30, .inl (fun _ => 0))), (q_5, .inl (cI, 30, .inl (fun _ => 0))), (q_6, .inl (cI, 30, .inl (fun _ => 0))), (q_7, .inl (cI, 1800, .inl (fun _ => 0))), (q_8, .inl (cI, 20, .inl (fun _ => 0))), (q_9, .inl (cZ, 20, .inl (fun _ => 0))), (q_10, .inl (cI, 20, .inl (fun _ => 0))), (q_11, .inl (cJ, 20, .inr (.inl (fun _ => 0)))), (q_12, .inr (8, [.int 0, .ref q_13, .ref q_14, .ref q_15, .ref q_16])), (q_13, .inl (cI, 40, .inl (fun _ => 0))), (q_14, .inl (cI, 40, .inl (fun _ => 0))), (q_15, .inl (cI, 40, .inl (fun _ => 0))), (q_16, .inl (cB, 1200, .inl (fun _ => 0)))] H := hP
  have hD : va_D A [(h0, .inr (7, [.int 0, .ref q_1, .ref q_2, .ref q_3, .int 0, .ref q_4, .ref q_5, .ref q_6, .ref q_7, .int 0, .long 0, .long 0, .int 0, .ref q_8, .ref q_9, .ref q_10, .ref q_11, .ref q_12, .null])), (q_1, .inl (cI, 20, .inl (fun _ => 0))), (q_2, .inl (cI, 160, .inl (fun _ => 0))), (q_3, .inl (cI, 20, .inl (fun _ => 0))), (q_4, .inl (cI, 30, .inl (fun _ => 0))), (q_5, .inl (cI, 30, .inl (fun _ => 0))), (q_6, .inl (cI, 30, .inl (fun _ => 0))), (q_7, .inl (cI, 1800, .inl (fun _ => 0))), (q_8, .inl (cI, 20, .inl (fun _ => 0))), (q_9, .inl (cZ, 20, .inl (fun _ => 0))), (q_10, .inl (cI, 20, .inl (fun _ => 0))), (q_11, .inl (cJ, 20, .inr (.inl (fun _ => 0)))), (q_12, .inr (8, [.int 0, .ref q_13, .ref q_14, .ref q_15, .ref q_16])), (q_13, .inl (cI, 40, .inl (fun _ => 0))), (q_14, .inl (cI, 40, .inl (fun _ => 0))), (q_15, .inl (cI, 40, .inl (fun _ => 0))), (q_16, .inl (cB, 1200, .inl (fun _ => 0)))] := hD
  refine lv_aload_n hx hb d_Wa_init_105 rfl (lv_at hl 0 rfl) ?_
  refine va_new (ci := 9) (fs := [.int 0, .null, .null, .null, .null, .null, .null, .null, .int 0, .null, .null]) (C := R_Co) (T := F_Co) (N := 11) hx hb hts i_Co t_Co t_Co_ok hown (hts _ m_250) (hts _ m_251) (hts _ m_10) hK hP hD hS hA rfl df_Co (Nat.le_of_ble_eq_true rfl) (Nat.le_of_ble_eq_true rfl) d_Wa_init_106 (fun q_17 H hP hD hS => ?_)
  refine W.widen (k := 17) (n := 3506) (Nat.le_of_ble_eq_true rfl) (Nat.le_of_ble_eq_true rfl) ?_
  have hP : va_P G classes [(h0, .inr (7, [.int 0, .ref q_1, .ref q_2, .ref q_3, .int 0, .ref q_4, .ref q_5, .ref q_6, .ref q_7, .int 0, .long 0, .long 0, .int 0, .ref q_8, .ref q_9, .ref q_10, .ref q_11, .ref q_12, .null])), (q_1, .inl (cI, 20, .inl (fun _ => 0))), (q_2, .inl (cI, 160, .inl (fun _ => 0))), (q_3, .inl (cI, 20, .inl (fun _ => 0))), (q_4, .inl (cI, 30, .inl (fun _ => 0))), (q_5, .inl (cI, 30, .inl (fun _ => 0))), (q_6, .inl (cI, 30, .inl (fun _ => 0))), (q_7, .inl (cI, 1800, .inl (fun _ => 0))), (q_8, .inl (cI, 20, .inl (fun _ => 0))), (q_9, .inl (cZ, 20, .inl (fun _ => 0))), (q_10, .inl (cI, 20, .inl (fun _ => 0))), (q_11, .inl (cJ, 20, .inr (.inl (fun _ => 0)))), (q_12, .inr (8, [.int 0, .ref q_13, .ref q_14, .ref q_15, .ref q_16])), (q_13, .inl (cI, 40, .inl (fun _ => 0))), (q_14, .inl (cI, 40, .inl (fun _ => 0))), (q_15, .inl (cI, 40, .inl (fun _ => 0))), (q_16, .inl (cB, 1200, .inl (fun _ => 0))), (q_17, .inr (9, [.int 0, .null, .null, .null, .null, .null, .null, .null, .int 0, .null, .null]))] H := hP
  have hD : va_D A [(h0, .inr (7, [.int 0, .ref q_1, .ref q_2, .ref q_3, .int 0, .ref q_4, .ref q_5, .ref q_6, .ref q_7, .int 0, .long 0, .long 0, .int 0, .ref q_8, .ref q_9, .ref q_10, .ref q_11, .ref q_12, .null])), (q_1, .inl (cI, 20, .inl (fun _ => 0))), (q_2, .inl (cI, 160, .inl (fun _ => 0))), (q_3, .inl (cI, 20, .inl (fun _ => 0))), (q_4, .inl (cI, 30, .inl (fun _ => 0))), (q_5, .inl (cI, 30, .inl (fun _ => 0))), (q_6, .inl (cI, 30, .inl (fun _ => 0))), (q_7, .inl (cI, 1800, .inl (fun _ => 0))), (q_8, .inl (cI, 20, .inl (fun _ => 0))), (q_9, .inl (cZ, 20, .inl (fun _ => 0))), (q_10, .inl (cI, 20, .inl (fun _ => 0))), (q_11, .inl (cJ, 20, .inr (.inl (fun _ => 0)))), (q_12, .inr (8, [.int 0, .ref q_13, .ref q_14, .ref q_15, .ref q_16])), (q_13, .inl (cI, 40, .inl (fun _ => 0))), (q_14, .inl (cI, 40, .inl (fun _ => 0))), (q_15, .inl (cI, 40, .inl (fun _ => 0))), (q_16, .inl (cB, 1200, .inl (fun _ => 0))), (q_17, .inr (9, [.int 0, .null, .null, .null, .null, .null, .null, .null, .int 0, .null, .null]))] := hD
  refine lv_dup hx hb d_Wa_init_109 rfl ?_
  refine xx_callI (wc := [(q_17, .inr (9, [.int 0, .null, .null, .null, .null, .null, .null, .null, .int 0, .null, .null]))]) (wr := [(h0, .inr (7, [.int 0, .ref q_1, .ref q_2, .ref q_3, .int 0, .ref q_4, .ref q_5, .ref q_6, .ref q_7, .int 0, .long 0, .long 0, .int 0, .ref q_8, .ref q_9, .ref q_10, .ref q_11, .ref q_12, .null])), (q_1, .inl (cI, 20, .inl (fun _ => 0))), (q_2, .inl (cI, 160, .inl (fun _ => 0))), (q_3, .inl (cI, 20, .inl (fun _ => 0))), (q_4, .inl (cI, 30, .inl (fun _ => 0))), (q_5, .inl (cI, 30, .inl (fun _ => 0))), (q_6, .inl (cI, 30, .inl (fun _ => 0))), (q_7, .inl (cI, 1800, .inl (fun _ => 0))), (q_8, .inl (cI, 20, .inl (fun _ => 0))), (q_9, .inl (cZ, 20, .inl (fun _ => 0))), (q_10, .inl (cI, 20, .inl (fun _ => 0))), (q_11, .inl (cJ, 20, .inr (.inl (fun _ => 0)))), (q_12, .inr (8, [.int 0, .ref q_13, .ref q_14, .ref q_15, .ref q_16])), (q_13, .inl (cI, 40, .inl (fun _ => 0))), (q_14, .inl (cI, 40, .inl (fun _ => 0))), (q_15, .inl (cI, 40, .inl (fun _ => 0))), (q_16, .inl (cB, 1200, .inl (fun _ => 0)))]) (As := []) (rest := [.ref q_17, .ref h0]) ⟨hx, hb, hml, hown, hts⟩ xE_st hK hE hA (c_Co_init l htr G cB cI cJ cZ q_17 _) (xw_I 0 hts m_252 m_253 m_10 m_254 rfl (by decide +kernel) ⟨(Nat.le_of_ble_eq_true rfl), (Nat.le_of_ble_eq_true rfl)⟩) hP hD hS [17] [0, 1, 2, 3, 4, 5, 6, 7, 8, 9, 10, 11, 12, 13, 14, 15, 16] rfl rfl (by decide) (by decide) (by decide) rfl hl.1 rfl (Nat.le_of_ble_eq_true rfl) d_Wa_init_110 ⟨(Nat.le_of_ble_eq_true rfl), (Nat.le_of_ble_eq_true rfl)⟩ (fun v9 w9 H locs hp hP hD hS => ?_) (fun x9 w9 H9 l9 hp _ _ _ => absurd hp (by rintro ⟨_, _, _, _, _, _, _, _, _, ho, -⟩; cases ho))
  obtain ⟨q_18, q_19, q_20, q_21, q_22, q_23, q_24, q_25, q_26, ho, rfl⟩ := hp
  cases ho
  have hP : va_P G classes [(h0, .inr (7, [.int 0, .ref q_1, .ref q_2, .ref q_3, .int 0, .ref q_4, .ref q_5, .ref q_6, .ref q_7, .int 0, .long 0, .long 0, .int 0, .ref q_8, .ref q_9, .ref q_10, .ref q_11, .ref q_12, .null])), (q_1, .inl (cI, 20, .inl (fun _ => 0))), (q_2, .inl (cI, 160, .inl (fun _ => 0))), (q_3, .inl (cI, 20, .inl (fun _ => 0))), (q_4, .inl (cI, 30, .inl (fun _ => 0))), (q_5, .inl (cI, 30, .inl (fun _ => 0))), (q_6, .inl (cI, 30, .inl (fun _ => 0))), (q_7, .inl (cI, 1800, .inl (fun _ => 0))), (q_8, .inl (cI, 20, .inl (fun _ => 0))), (q_9, .inl (cZ, 20, .inl (fun _ => 0))), (q_10, .inl (cI, 20, .inl (fun _ => 0))), (q_11, .inl (cJ, 20, .inr (.inl (fun _ => 0)))), (q_12, .inr (8, [.int 0, .ref q_13, .ref q_14, .ref q_15, .ref q_16])), (q_13, .inl (cI, 40, .inl (fun _ => 0))), (q_14, .inl (cI, 40, .inl (fun _ => 0))), (q_15, .inl (cI, 40, .inl (fun _ => 0))), (q_16, .inl (cB, 1200, .inl (fun _ => 0))), (q_17, .inr (9, [.int 0, .ref q_18, .ref q_19, .ref q_20, .ref q_21, .ref q_22, .ref q_23, .ref q_24, .int 0, .ref q_25, .ref q_26])), (q_18, .inl (cI, 2000, .inl (fun _ => 0))), (q_19, .inl (cJ, 2000, .inr (.inl (fun _ => 0)))), (q_20, .inl (cI, 2000, .inl (fun _ => 0))), (q_21, .inl (cI, 2000, .inl (fun _ => 0))), (q_22, .inl (cI, 2000, .inl (fun _ => 0))), (q_23, .inl (cI, 2000, .inl (fun _ => 0))), (q_24, .inl (cI, 2000, .inl (fun _ => 0))), (q_25, .inl (cI, 2000, .inl (fun _ => 0))), (q_26, .inl (cI, 2000, .inl (fun _ => 0)))] H := hP
  have hD : va_D A [(h0, .inr (7, [.int 0, .ref q_1, .ref q_2, .ref q_3, .int 0, .ref q_4, .ref q_5, .ref q_6, .ref q_7, .int 0, .long 0, .long 0, .int 0, .ref q_8, .ref q_9, .ref q_10, .ref q_11, .ref q_12, .null])), (q_1, .inl (cI, 20, .inl (fun _ => 0))), (q_2, .inl (cI, 160, .inl (fun _ => 0))), (q_3, .inl (cI, 20, .inl (fun _ => 0))), (q_4, .inl (cI, 30, .inl (fun _ => 0))), (q_5, .inl (cI, 30, .inl (fun _ => 0))), (q_6, .inl (cI, 30, .inl (fun _ => 0))), (q_7, .inl (cI, 1800, .inl (fun _ => 0))), (q_8, .inl (cI, 20, .inl (fun _ => 0))), (q_9, .inl (cZ, 20, .inl (fun _ => 0))), (q_10, .inl (cI, 20, .inl (fun _ => 0))), (q_11, .inl (cJ, 20, .inr (.inl (fun _ => 0)))), (q_12, .inr (8, [.int 0, .ref q_13, .ref q_14, .ref q_15, .ref q_16])), (q_13, .inl (cI, 40, .inl (fun _ => 0))), (q_14, .inl (cI, 40, .inl (fun _ => 0))), (q_15, .inl (cI, 40, .inl (fun _ => 0))), (q_16, .inl (cB, 1200, .inl (fun _ => 0))), (q_17, .inr (9, [.int 0, .ref q_18, .ref q_19, .ref q_20, .ref q_21, .ref q_22, .ref q_23, .ref q_24, .int 0, .ref q_25, .ref q_26])), (q_18, .inl (cI, 2000, .inl (fun _ => 0))), (q_19, .inl (cJ, 2000, .inr (.inl (fun _ => 0)))), (q_20, .inl (cI, 2000, .inl (fun _ => 0))), (q_21, .inl (cI, 2000, .inl (fun _ => 0))), (q_22, .inl (cI, 2000, .inl (fun _ => 0))), (q_23, .inl (cI, 2000, .inl (fun _ => 0))), (q_24, .inl (cI, 2000, .inl (fun _ => 0))), (q_25, .inl (cI, 2000, .inl (fun _ => 0))), (q_26, .inl (cI, 2000, .inl (fun _ => 0)))] := hD
  refine W.widen (k := 26) (n := 21506) (Nat.le_of_ble_eq_true rfl) (Nat.le_of_ble_eq_true rfl) ?_
  refine va_putF (D := G) (ci := 7) (v := .ref q_17) (ty := .object "WaferRunner$Code") (C := R_Wa) (T := F_Wa) (N := 19) hx hb hts i_Wa t_Wa t_Wa_ok n_Wa hown hK hP hD hS 0 rfl rfl 18 (by decide) (hts _ m_375) (fun _ h9 => h9) rfl hin rfl (by decide +kernel) rfl rfl (Nat.le_of_ble_eq_true rfl) d_Wa_init_113 (fun H locs hP hD hS => ?_)
  have hP : va_P G classes [(h0, .inr (7, [.int 0, .ref q_1, .ref q_2, .ref q_3, .int 0, .ref q_4, .ref q_5, .ref q_6, .ref q_7, .int 0, .long 0, .long 0, .int 0, .ref q_8, .ref q_9, .ref q_10, .ref q_11, .ref q_12, .ref q_17])), (q_1, .inl (cI, 20, .inl (fun _ => 0))), (q_2, .inl (cI, 160, .inl (fun _ => 0))), (q_3, .inl (cI, 20, .inl (fun _ => 0))), (q_4, .inl (cI, 30, .inl (fun _ => 0))), (q_5, .inl (cI, 30, .inl (fun _ => 0))), (q_6, .inl (cI, 30, .inl (fun _ => 0))), (q_7, .inl (cI, 1800, .inl (fun _ => 0))), (q_8, .inl (cI, 20, .inl (fun _ => 0))), (q_9, .inl (cZ, 20, .inl (fun _ => 0))), (q_10, .inl (cI, 20, .inl (fun _ => 0))), (q_11, .inl (cJ, 20, .inr (.inl (fun _ => 0)))), (q_12, .inr (8, [.int 0, .ref q_13, .ref q_14, .ref q_15, .ref q_16])), (q_13, .inl (cI, 40, .inl (fun _ => 0))), (q_14, .inl (cI, 40, .inl (fun _ => 0))), (q_15, .inl (cI, 40, .inl (fun _ => 0))), (q_16, .inl (cB, 1200, .inl (fun _ => 0))), (q_17, .inr (9, [.int 0, .ref q_18, .ref q_19, .ref q_20, .ref q_21, .ref q_22, .ref q_23, .ref q_24, .int 0, .ref q_25, .ref q_26])), (q_18, .inl (cI, 2000, .inl (fun _ => 0))), (q_19, .inl (cJ, 2000, .inr (.inl (fun _ => 0)))), (q_20, .inl (cI, 2000, .inl (fun _ => 0))), (q_21, .inl (cI, 2000, .inl (fun _ => 0))), (q_22, .inl (cI, 2000, .inl (fun _ => 0))), (q_23, .inl (cI, 2000, .inl (fun _ => 0))), (q_24, .inl (cI, 2000, .inl (fun _ => 0))), (q_25, .inl (cI, 2000, .inl (fun _ => 0))), (q_26, .inl (cI, 2000, .inl (fun _ => 0)))] H := hP
  have hD : va_D A [(h0, .inr (7, [.int 0, .ref q_1, .ref q_2, .ref q_3, .int 0, .ref q_4, .ref q_5, .ref q_6, .ref q_7, .int 0, .long 0, .long 0, .int 0, .ref q_8, .ref q_9, .ref q_10, .ref q_11, .ref q_12, .ref q_17])), (q_1, .inl (cI, 20, .inl (fun _ => 0))), (q_2, .inl (cI, 160, .inl (fun _ => 0))), (q_3, .inl (cI, 20, .inl (fun _ => 0))), (q_4, .inl (cI, 30, .inl (fun _ => 0))), (q_5, .inl (cI, 30, .inl (fun _ => 0))), (q_6, .inl (cI, 30, .inl (fun _ => 0))), (q_7, .inl (cI, 1800, .inl (fun _ => 0))), (q_8, .inl (cI, 20, .inl (fun _ => 0))), (q_9, .inl (cZ, 20, .inl (fun _ => 0))), (q_10, .inl (cI, 20, .inl (fun _ => 0))), (q_11, .inl (cJ, 20, .inr (.inl (fun _ => 0)))), (q_12, .inr (8, [.int 0, .ref q_13, .ref q_14, .ref q_15, .ref q_16])), (q_13, .inl (cI, 40, .inl (fun _ => 0))), (q_14, .inl (cI, 40, .inl (fun _ => 0))), (q_15, .inl (cI, 40, .inl (fun _ => 0))), (q_16, .inl (cB, 1200, .inl (fun _ => 0))), (q_17, .inr (9, [.int 0, .ref q_18, .ref q_19, .ref q_20, .ref q_21, .ref q_22, .ref q_23, .ref q_24, .int 0, .ref q_25, .ref q_26])), (q_18, .inl (cI, 2000, .inl (fun _ => 0))), (q_19, .inl (cJ, 2000, .inr (.inl (fun _ => 0)))), (q_20, .inl (cI, 2000, .inl (fun _ => 0))), (q_21, .inl (cI, 2000, .inl (fun _ => 0))), (q_22, .inl (cI, 2000, .inl (fun _ => 0))), (q_23, .inl (cI, 2000, .inl (fun _ => 0))), (q_24, .inl (cI, 2000, .inl (fun _ => 0))), (q_25, .inl (cI, 2000, .inl (fun _ => 0))), (q_26, .inl (cI, 2000, .inl (fun _ => 0)))] := hD
  exact ex_W (fun _ h => ex_mq h) (W.vret hx hb hr (fun t ht hW => ⟨⟨_, ⟨q_1, q_2, q_3, q_4, q_5, q_6, q_7, q_8, q_9, q_10, q_11, q_12, q_13, q_14, q_15, q_16, q_17, q_18, q_19, q_20, q_21, q_22, q_23, q_24, q_25, q_26, rfl, rfl⟩, by rw [ht]; exact hP, hD⟩, hS.F ht⟩) hS.2.2 d_Wa_init_116)
