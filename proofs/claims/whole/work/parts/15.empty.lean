abbrev b_So_open : ByteArray := prog_10_method_2_code
def y_So_open : MethodName := ⟨R_So, "open", "([BI)V"⟩
abbrev b_So_octet : ByteArray := prog_10_method_6_code
def y_So_octet : MethodName := ⟨R_So, "octet", "()I"⟩
abbrev b_So_require : ByteArray := prog_10_method_7_code
def y_So_require : MethodName := ⟨R_So, "require", "(I)V"⟩
abbrev b_So_hasMore : ByteArray := prog_10_method_5_code
def y_So_hasMore : MethodName := ⟨R_So, "hasMore", "()Z"⟩
abbrev b_So_hasFailed : ByteArray := prog_10_method_4_code
def y_So_hasFailed : MethodName := ⟨R_So, "hasFailed", "()Z"⟩
abbrev b_Co_clear : ByteArray := prog_5_method_2_code
def y_Co_clear : MethodName := ⟨R_Co, "clear", "()V"⟩
abbrev b_Wa_clear : ByteArray := prog_12_method_2_code
def y_Wa_clear : MethodName := ⟨R_Wa, "clear", "()V"⟩
abbrev b_Rd_reads : ByteArray := prog_9_method_2_code
def y_Rd_reads : MethodName := ⟨R_Rd, "reads", "([BILWaferRunner$Wafer;)Z"⟩
abbrev b_WR_module : ByteArray := prog_1_method_4_code
def y_WR_module : MethodName := ⟨R_WR, "module", "()I"⟩
theorem d_So_open_0 : decode b_So_open 0 = .ok (.aload_n 0, 1) := by decide +kernel
theorem d_So_open_1 : decode b_So_open 1 = .ok (.aload_n 1, 1) := by decide +kernel
theorem d_So_open_2 : decode b_So_open 2 = .ok (.putfield 9, 3) := by decide +kernel
theorem d_So_open_5 : decode b_So_open 5 = .ok (.aload_n 0, 1) := by decide +kernel
theorem d_So_open_6 : decode b_So_open 6 = .ok (.iconst 0, 1) := by decide +kernel
theorem d_So_open_7 : decode b_So_open 7 = .ok (.putfield 15, 3) := by decide +kernel
theorem d_So_open_10 : decode b_So_open 10 = .ok (.aload_n 0, 1) := by decide +kernel
theorem d_So_open_11 : decode b_So_open 11 = .ok (.iload_n 2, 1) := by decide +kernel
theorem d_So_open_12 : decode b_So_open 12 = .ok (.putfield 19, 3) := by decide +kernel
theorem d_So_open_15 : decode b_So_open 15 = .ok (.aload_n 0, 1) := by decide +kernel
theorem d_So_open_16 : decode b_So_open 16 = .ok (.iconst 0, 1) := by decide +kernel
theorem d_So_open_17 : decode b_So_open 17 = .ok (.putfield 22, 3) := by decide +kernel
theorem d_So_open_20 : decode b_So_open 20 = .ok (.return_, 1) := by decide +kernel
theorem d_So_octet_0 : decode b_So_octet 0 = .ok (.aload_n 0, 1) := by decide +kernel
theorem d_So_octet_1 : decode b_So_octet 1 = .ok (.getfield 22, 3) := by decide +kernel
theorem d_So_octet_4 : decode b_So_octet 4 = .ok (.ifCond .ne 14, 3) := by decide +kernel
theorem d_So_octet_7 : decode b_So_octet 7 = .ok (.aload_n 0, 1) := by decide +kernel
theorem d_So_octet_8 : decode b_So_octet 8 = .ok (.getfield 15, 3) := by decide +kernel
theorem d_So_octet_11 : decode b_So_octet 11 = .ok (.aload_n 0, 1) := by decide +kernel
theorem d_So_octet_12 : decode b_So_octet 12 = .ok (.getfield 19, 3) := by decide +kernel
theorem d_So_octet_15 : decode b_So_octet 15 = .ok (.if_icmp .lt 10, 3) := by decide +kernel
theorem d_So_octet_18 : decode b_So_octet 18 = .ok (.aload_n 0, 1) := by decide +kernel
theorem d_So_octet_19 : decode b_So_octet 19 = .ok (.iconst 1, 1) := by decide +kernel
theorem d_So_octet_20 : decode b_So_octet 20 = .ok (.putfield 22, 3) := by decide +kernel
theorem d_So_octet_23 : decode b_So_octet 23 = .ok (.iconst 0, 1) := by decide +kernel
theorem d_So_octet_24 : decode b_So_octet 24 = .ok (.ireturn, 1) := by decide +kernel
theorem d_So_require_0 : decode b_So_require 0 = .ok (.aload_n 0, 1) := by decide +kernel
theorem d_So_require_1 : decode b_So_require 1 = .ok (.invokevirtual 26, 3) := by decide +kernel
theorem d_So_require_4 : decode b_So_require 4 = .ok (.iload_n 1, 1) := by decide +kernel
theorem d_So_require_5 : decode b_So_require 5 = .ok (.if_icmp .eq 8, 3) := by decide +kernel
theorem d_So_require_8 : decode b_So_require 8 = .ok (.aload_n 0, 1) := by decide +kernel
theorem d_So_require_9 : decode b_So_require 9 = .ok (.iconst 1, 1) := by decide +kernel
theorem d_So_require_10 : decode b_So_require 10 = .ok (.putfield 22, 3) := by decide +kernel
theorem d_So_require_13 : decode b_So_require 13 = .ok (.return_, 1) := by decide +kernel
theorem d_So_hasMore_0 : decode b_So_hasMore 0 = .ok (.aload_n 0, 1) := by decide +kernel
theorem d_So_hasMore_1 : decode b_So_hasMore 1 = .ok (.getfield 22, 3) := by decide +kernel
theorem d_So_hasMore_4 : decode b_So_hasMore 4 = .ok (.ifCond .ne 18, 3) := by decide +kernel
theorem d_So_hasMore_22 : decode b_So_hasMore 22 = .ok (.iconst 0, 1) := by decide +kernel
theorem d_So_hasMore_23 : decode b_So_hasMore 23 = .ok (.ireturn, 1) := by decide +kernel
theorem d_So_hasFailed_0 : decode b_So_hasFailed 0 = .ok (.aload_n 0, 1) := by decide +kernel
theorem d_So_hasFailed_1 : decode b_So_hasFailed 1 = .ok (.getfield 22, 3) := by decide +kernel
theorem d_So_hasFailed_4 : decode b_So_hasFailed 4 = .ok (.ireturn, 1) := by decide +kernel
theorem d_Co_clear_0 : decode b_Co_clear 0 = .ok (.aload_n 0, 1) := by decide +kernel
theorem d_Co_clear_1 : decode b_Co_clear 1 = .ok (.iconst 0, 1) := by decide +kernel
theorem d_Co_clear_2 : decode b_Co_clear 2 = .ok (.putfield 40, 3) := by decide +kernel
theorem d_Co_clear_5 : decode b_Co_clear 5 = .ok (.aload_n 0, 1) := by decide +kernel
theorem d_Co_clear_6 : decode b_Co_clear 6 = .ok (.iconst 0, 1) := by decide +kernel
theorem d_Co_clear_7 : decode b_Co_clear 7 = .ok (.putfield 44, 3) := by decide +kernel
theorem d_Co_clear_10 : decode b_Co_clear 10 = .ok (.return_, 1) := by decide +kernel
theorem d_Wa_clear_0 : decode b_Wa_clear 0 = .ok (.aload_n 0, 1) := by decide +kernel
theorem d_Wa_clear_1 : decode b_Wa_clear 1 = .ok (.iconst 0, 1) := by decide +kernel
theorem d_Wa_clear_2 : decode b_Wa_clear 2 = .ok (.putfield 61, 3) := by decide +kernel
theorem d_Wa_clear_5 : decode b_Wa_clear 5 = .ok (.aload_n 0, 1) := by decide +kernel
theorem d_Wa_clear_6 : decode b_Wa_clear 6 = .ok (.iconst 0, 1) := by decide +kernel
theorem d_Wa_clear_7 : decode b_Wa_clear 7 = .ok (.putfield 65, 3) := by decide +kernel
theorem d_Wa_clear_10 : decode b_Wa_clear 10 = .ok (.aload_n 0, 1) := by decide +kernel
theorem d_Wa_clear_11 : decode b_Wa_clear 11 = .ok (.iconst 0, 1) := by decide +kernel
theorem d_Wa_clear_12 : decode b_Wa_clear 12 = .ok (.putfield 68, 3) := by decide +kernel
theorem d_Wa_clear_15 : decode b_Wa_clear 15 = .ok (.aload_n 0, 1) := by decide +kernel
theorem d_Wa_clear_16 : decode b_Wa_clear 16 = .ok (.lconst 0, 1) := by decide +kernel
theorem d_Wa_clear_17 : decode b_Wa_clear 17 = .ok (.putfield 72, 3) := by decide +kernel
theorem d_Wa_clear_20 : decode b_Wa_clear 20 = .ok (.aload_n 0, 1) := by decide +kernel
theorem d_Wa_clear_21 : decode b_Wa_clear 21 = .ok (.lconst 0, 1) := by decide +kernel
theorem d_Wa_clear_22 : decode b_Wa_clear 22 = .ok (.putfield 76, 3) := by decide +kernel
theorem d_Wa_clear_25 : decode b_Wa_clear 25 = .ok (.aload_n 0, 1) := by decide +kernel
theorem d_Wa_clear_26 : decode b_Wa_clear 26 = .ok (.iconst 0, 1) := by decide +kernel
theorem d_Wa_clear_27 : decode b_Wa_clear 27 = .ok (.putfield 79, 3) := by decide +kernel
theorem d_Wa_clear_30 : decode b_Wa_clear 30 = .ok (.aload_n 0, 1) := by decide +kernel
theorem d_Wa_clear_31 : decode b_Wa_clear 31 = .ok (.getfield 50, 3) := by decide +kernel
theorem d_Wa_clear_34 : decode b_Wa_clear 34 = .ok (.iconst 0, 1) := by decide +kernel
theorem d_Wa_clear_35 : decode b_Wa_clear 35 = .ok (.putfield 82, 3) := by decide +kernel
theorem d_Wa_clear_38 : decode b_Wa_clear 38 = .ok (.aload_n 0, 1) := by decide +kernel
theorem d_Wa_clear_39 : decode b_Wa_clear 39 = .ok (.getfield 57, 3) := by decide +kernel
theorem d_Wa_clear_42 : decode b_Wa_clear 42 = .ok (.invokevirtual 85, 3) := by decide +kernel
theorem d_Wa_clear_45 : decode b_Wa_clear 45 = .ok (.return_, 1) := by decide +kernel
theorem d_Rd_reads_0 : decode b_Rd_reads 0 = .ok (.aload_n 0, 1) := by decide +kernel
theorem d_Rd_reads_1 : decode b_Rd_reads 1 = .ok (.getfield 12, 3) := by decide +kernel
theorem d_Rd_reads_4 : decode b_Rd_reads 4 = .ok (.aload_n 1, 1) := by decide +kernel
theorem d_Rd_reads_5 : decode b_Rd_reads 5 = .ok (.iload_n 2, 1) := by decide +kernel
theorem d_Rd_reads_6 : decode b_Rd_reads 6 = .ok (.invokevirtual 25, 3) := by decide +kernel
theorem d_Rd_reads_9 : decode b_Rd_reads 9 = .ok (.aload_n 0, 1) := by decide +kernel
theorem d_Rd_reads_10 : decode b_Rd_reads 10 = .ok (.aload_n 3, 1) := by decide +kernel
theorem d_Rd_reads_11 : decode b_Rd_reads 11 = .ok (.putfield 29, 3) := by decide +kernel
theorem d_Rd_reads_14 : decode b_Rd_reads 14 = .ok (.aload_n 0, 1) := by decide +kernel
theorem d_Rd_reads_15 : decode b_Rd_reads 15 = .ok (.getfield 29, 3) := by decide +kernel
theorem d_Rd_reads_18 : decode b_Rd_reads 18 = .ok (.invokevirtual 33, 3) := by decide +kernel
theorem d_Rd_reads_21 : decode b_Rd_reads 21 = .ok (.aload_n 0, 1) := by decide +kernel
theorem d_Rd_reads_22 : decode b_Rd_reads 22 = .ok (.iconst 0, 1) := by decide +kernel
theorem d_Rd_reads_23 : decode b_Rd_reads 23 = .ok (.putfield 38, 3) := by decide +kernel
theorem d_Rd_reads_26 : decode b_Rd_reads 26 = .ok (.iconst 0, 1) := by decide +kernel
theorem d_Rd_reads_27 : decode b_Rd_reads 27 = .ok (.istore 4, 2) := by decide +kernel
theorem d_Rd_reads_29 : decode b_Rd_reads 29 = .ok (.iload 4, 2) := by decide +kernel
theorem d_Rd_reads_31 : decode b_Rd_reads 31 = .ok (.getstatic 42, 3) := by decide +kernel
theorem d_Rd_reads_34 : decode b_Rd_reads 34 = .ok (.arraylength, 1) := by decide +kernel
theorem d_Rd_reads_35 : decode b_Rd_reads 35 = .ok (.if_icmp .ge 22, 3) := by decide +kernel
theorem d_Rd_reads_38 : decode b_Rd_reads 38 = .ok (.aload_n 0, 1) := by decide +kernel
theorem d_Rd_reads_39 : decode b_Rd_reads 39 = .ok (.getfield 12, 3) := by decide +kernel
theorem d_Rd_reads_42 : decode b_Rd_reads 42 = .ok (.getstatic 42, 3) := by decide +kernel
theorem d_Rd_reads_45 : decode b_Rd_reads 45 = .ok (.iload 4, 2) := by decide +kernel
theorem d_Rd_reads_47 : decode b_Rd_reads 47 = .ok (.iaload, 1) := by decide +kernel
theorem d_Rd_reads_48 : decode b_Rd_reads 48 = .ok (.invokevirtual 46, 3) := by decide +kernel
theorem d_Rd_reads_51 : decode b_Rd_reads 51 = .ok (.iinc 4 1, 3) := by decide +kernel
theorem d_Rd_reads_54 : decode b_Rd_reads 54 = .ok (.goto (-25), 3) := by decide +kernel
theorem d_Rd_reads_57 : decode b_Rd_reads 57 = .ok (.iconst 0, 1) := by decide +kernel
theorem d_Rd_reads_58 : decode b_Rd_reads 58 = .ok (.istore 4, 2) := by decide +kernel
theorem d_Rd_reads_60 : decode b_Rd_reads 60 = .ok (.iconst 0, 1) := by decide +kernel
theorem d_Rd_reads_61 : decode b_Rd_reads 61 = .ok (.istore 5, 2) := by decide +kernel
theorem d_Rd_reads_63 : decode b_Rd_reads 63 = .ok (.iload 5, 2) := by decide +kernel
theorem d_Rd_reads_65 : decode b_Rd_reads 65 = .ok (.sipush 2000, 3) := by decide +kernel
theorem d_Rd_reads_68 : decode b_Rd_reads 68 = .ok (.if_icmp .ge 62, 3) := by decide +kernel
theorem d_Rd_reads_71 : decode b_Rd_reads 71 = .ok (.aload_n 0, 1) := by decide +kernel
theorem d_Rd_reads_72 : decode b_Rd_reads 72 = .ok (.getfield 12, 3) := by decide +kernel
theorem d_Rd_reads_75 : decode b_Rd_reads 75 = .ok (.invokevirtual 50, 3) := by decide +kernel
theorem d_Rd_reads_78 : decode b_Rd_reads 78 = .ok (.ifCond .eq 52, 3) := by decide +kernel
theorem d_Rd_reads_130 : decode b_Rd_reads 130 = .ok (.aload_n 0, 1) := by decide +kernel
theorem d_Rd_reads_131 : decode b_Rd_reads 131 = .ok (.getfield 12, 3) := by decide +kernel
theorem d_Rd_reads_134 : decode b_Rd_reads 134 = .ok (.invokevirtual 70, 3) := by decide +kernel
theorem d_Rd_reads_137 : decode b_Rd_reads 137 = .ok (.ifCond .ne 21, 3) := by decide +kernel
theorem d_Rd_reads_158 : decode b_Rd_reads 158 = .ok (.iconst 0, 1) := by decide +kernel
theorem d_Rd_reads_159 : decode b_Rd_reads 159 = .ok (.ireturn, 1) := by decide +kernel
theorem d_WR_module_0 : decode b_WR_module 0 = .ok (.aload_n 0, 1) := by decide +kernel
theorem d_WR_module_1 : decode b_WR_module 1 = .ok (.getfield 20, 3) := by decide +kernel
theorem d_WR_module_4 : decode b_WR_module 4 = .ok (.aload_n 0, 1) := by decide +kernel
theorem d_WR_module_5 : decode b_WR_module 5 = .ok (.getfield 9, 3) := by decide +kernel
theorem d_WR_module_8 : decode b_WR_module 8 = .ok (.aload_n 0, 1) := by decide +kernel
theorem d_WR_module_9 : decode b_WR_module 9 = .ok (.getfield 48, 3) := by decide +kernel
theorem d_WR_module_12 : decode b_WR_module 12 = .ok (.aload_n 0, 1) := by decide +kernel
theorem d_WR_module_13 : decode b_WR_module 13 = .ok (.getfield 45, 3) := by decide +kernel
theorem d_WR_module_16 : decode b_WR_module 16 = .ok (.invokevirtual 68, 3) := by decide +kernel
theorem d_WR_module_19 : decode b_WR_module 19 = .ok (.istore_n 1, 1) := by decide +kernel
theorem d_WR_module_20 : decode b_WR_module 20 = .ok (.iload_n 1, 1) := by decide +kernel
theorem d_WR_module_21 : decode b_WR_module 21 = .ok (.ifCond .eq 21, 3) := by decide +kernel
theorem d_WR_module_42 : decode b_WR_module 42 = .ok (.iconst 0, 1) := by decide +kernel
theorem d_WR_module_43 : decode b_WR_module 43 = .ok (.istore_n 2, 1) := by decide +kernel
theorem d_WR_module_44 : decode b_WR_module 44 = .ok (.aload_n 0, 1) := by decide +kernel
theorem d_WR_module_45 : decode b_WR_module 45 = .ok (.iconst 0, 1) := by decide +kernel
theorem d_WR_module_46 : decode b_WR_module 46 = .ok (.putfield 48, 3) := by decide +kernel
theorem d_WR_module_49 : decode b_WR_module 49 = .ok (.aload_n 0, 1) := by decide +kernel
theorem d_WR_module_50 : decode b_WR_module 50 = .ok (.iload_n 2, 1) := by decide +kernel
theorem d_WR_module_51 : decode b_WR_module 51 = .ok (.ifCond .eq 7, 3) := by decide +kernel
theorem d_WR_module_58 : decode b_WR_module 58 = .ok (.iload_n 1, 1) := by decide +kernel
theorem d_WR_module_59 : decode b_WR_module 59 = .ok (.ifCond .eq 7, 3) := by decide +kernel
theorem d_WR_module_66 : decode b_WR_module 66 = .ok (.iconst 1, 1) := by decide +kernel
theorem d_WR_module_67 : decode b_WR_module 67 = .ok (.putfield 76, 3) := by decide +kernel
theorem d_WR_module_70 : decode b_WR_module 70 = .ok (.iload_n 2, 1) := by decide +kernel
theorem d_WR_module_71 : decode b_WR_module 71 = .ok (.ifCond .ne 13, 3) := by decide +kernel
theorem d_WR_module_74 : decode b_WR_module 74 = .ok (.new 79, 3) := by decide +kernel
theorem d_WR_module_77 : decode b_WR_module 77 = .ok (.dup, 1) := by decide +kernel
theorem d_WR_module_78 : decode b_WR_module 78 = .ok (.ldc 81, 2) := by decide +kernel
theorem d_WR_module_80 : decode b_WR_module 80 = .ok (.invokespecial 83, 3) := by decide +kernel
theorem d_WR_module_83 : decode b_WR_module 83 = .ok (.athrow, 1) := by decide +kernel
theorem m_48 : Cond.fieldLink R_So 9 "WaferRunner$Source" "bytes" "[B" ∈ lw_good := lw_in (List.mem_append_right _ (List.mem_of_getElem? (i := 48) (by decide +kernel))) (by decide +kernel)
theorem m_49 : Cond.fieldLink R_So 15 "WaferRunner$Source" "at" "I" ∈ lw_good := lw_in (List.mem_append_right _ (List.mem_of_getElem? (i := 49) (by decide +kernel))) (by decide +kernel)
theorem m_50 : Cond.fieldLink R_So 19 "WaferRunner$Source" "limit" "I" ∈ lw_good := lw_in (List.mem_append_right _ (List.mem_of_getElem? (i := 50) (by decide +kernel))) (by decide +kernel)
theorem m_51 : Cond.fieldLink R_So 22 "WaferRunner$Source" "failed" "Z" ∈ lw_good := lw_in (List.mem_append_right _ (List.mem_of_getElem? (i := 51) (by decide +kernel))) (by decide +kernel)
theorem m_603 : Cond.code y_So_octet b_So_octet 2 (some .int) ∈ lw_good := lw_in (List.mem_append_right _ (List.mem_of_getElem? (i := 603) (by decide +kernel))) (by decide +kernel)
theorem m_600 : Cond.methodLink R_So 26 y_So_octet ∈ lw_good := lw_in (List.mem_append_right _ (List.mem_of_getElem? (i := 600) (by decide +kernel))) (by decide +kernel)
theorem m_601 : Cond.instanceMethod y_So_octet ∈ lw_good := lw_in (List.mem_append_right _ (List.mem_of_getElem? (i := 601) (by decide +kernel))) (by decide +kernel)
theorem m_602 : Cond.selects R_So y_So_octet y_So_octet ∈ lw_good := lw_in (List.mem_append_right _ (List.mem_of_getElem? (i := 602) (by decide +kernel))) (by decide +kernel)
theorem m_256 : Cond.fieldLink R_Co 40 "WaferRunner$Code" "size" "I" ∈ lw_good := lw_in (List.mem_append_right _ (List.mem_of_getElem? (i := 256) (by decide +kernel))) (by decide +kernel)
theorem m_284 : Cond.fieldLink R_Co 44 "WaferRunner$Code" "labelCount" "I" ∈ lw_good := lw_in (List.mem_append_right _ (List.mem_of_getElem? (i := 284) (by decide +kernel))) (by decide +kernel)
theorem m_314 : Cond.fieldLink R_Wa 61 "WaferRunner$Wafer" "typeCount" "I" ∈ lw_good := lw_in (List.mem_append_right _ (List.mem_of_getElem? (i := 314) (by decide +kernel))) (by decide +kernel)
theorem m_323 : Cond.fieldLink R_Wa 65 "WaferRunner$Wafer" "functionCount" "I" ∈ lw_good := lw_in (List.mem_append_right _ (List.mem_of_getElem? (i := 323) (by decide +kernel))) (by decide +kernel)
theorem m_340 : Cond.fieldLink R_Wa 68 "WaferRunner$Wafer" "hasMemory" "Z" ∈ lw_good := lw_in (List.mem_append_right _ (List.mem_of_getElem? (i := 340) (by decide +kernel))) (by decide +kernel)
theorem m_344 : Cond.fieldLink R_Wa 72 "WaferRunner$Wafer" "pagesAtFirst" "J" ∈ lw_good := lw_in (List.mem_append_right _ (List.mem_of_getElem? (i := 344) (by decide +kernel))) (by decide +kernel)
theorem m_348 : Cond.fieldLink R_Wa 76 "WaferRunner$Wafer" "pagesMost" "J" ∈ lw_good := lw_in (List.mem_append_right _ (List.mem_of_getElem? (i := 348) (by decide +kernel))) (by decide +kernel)
theorem m_352 : Cond.fieldLink R_Wa 79 "WaferRunner$Wafer" "globalCount" "I" ∈ lw_good := lw_in (List.mem_append_right _ (List.mem_of_getElem? (i := 352) (by decide +kernel))) (by decide +kernel)
theorem m_226 : Cond.fieldLink R_Wa 82 "WaferRunner$Exports" "size" "I" ∈ lw_good := lw_in (List.mem_append_right _ (List.mem_of_getElem? (i := 226) (by decide +kernel))) (by decide +kernel)
theorem m_593 : Cond.code y_Co_clear b_Co_clear 1 none ∈ lw_good := lw_in (List.mem_append_right _ (List.mem_of_getElem? (i := 593) (by decide +kernel))) (by decide +kernel)
theorem m_590 : Cond.methodLink R_Wa 85 y_Co_clear ∈ lw_good := lw_in (List.mem_append_right _ (List.mem_of_getElem? (i := 590) (by decide +kernel))) (by decide +kernel)
theorem m_591 : Cond.instanceMethod y_Co_clear ∈ lw_good := lw_in (List.mem_append_right _ (List.mem_of_getElem? (i := 591) (by decide +kernel))) (by decide +kernel)
theorem m_592 : Cond.selects R_Co y_Co_clear y_Co_clear ∈ lw_good := lw_in (List.mem_append_right _ (List.mem_of_getElem? (i := 592) (by decide +kernel))) (by decide +kernel)
theorem m_585 : Cond.code y_So_open b_So_open 3 none ∈ lw_good := lw_in (List.mem_append_right _ (List.mem_of_getElem? (i := 585) (by decide +kernel))) (by decide +kernel)
theorem m_582 : Cond.methodLink R_Rd 25 y_So_open ∈ lw_good := lw_in (List.mem_append_right _ (List.mem_of_getElem? (i := 582) (by decide +kernel))) (by decide +kernel)
theorem m_583 : Cond.instanceMethod y_So_open ∈ lw_good := lw_in (List.mem_append_right _ (List.mem_of_getElem? (i := 583) (by decide +kernel))) (by decide +kernel)
theorem m_584 : Cond.selects R_So y_So_open y_So_open ∈ lw_good := lw_in (List.mem_append_right _ (List.mem_of_getElem? (i := 584) (by decide +kernel))) (by decide +kernel)
theorem m_85 : Cond.fieldLink R_Rd 29 "WaferRunner$Reader" "wafer" "LWaferRunner$Wafer;" ∈ lw_good := lw_in (List.mem_append_right _ (List.mem_of_getElem? (i := 85) (by decide +kernel))) (by decide +kernel)
theorem m_589 : Cond.code y_Wa_clear b_Wa_clear 1 none ∈ lw_good := lw_in (List.mem_append_right _ (List.mem_of_getElem? (i := 589) (by decide +kernel))) (by decide +kernel)
theorem m_586 : Cond.methodLink R_Rd 33 y_Wa_clear ∈ lw_good := lw_in (List.mem_append_right _ (List.mem_of_getElem? (i := 586) (by decide +kernel))) (by decide +kernel)
theorem m_587 : Cond.instanceMethod y_Wa_clear ∈ lw_good := lw_in (List.mem_append_right _ (List.mem_of_getElem? (i := 587) (by decide +kernel))) (by decide +kernel)
theorem m_588 : Cond.selects R_Wa y_Wa_clear y_Wa_clear ∈ lw_good := lw_in (List.mem_append_right _ (List.mem_of_getElem? (i := 588) (by decide +kernel))) (by decide +kernel)
theorem m_86 : Cond.fieldLink R_Rd 38 "WaferRunner$Reader" "codeCount" "I" ∈ lw_good := lw_in (List.mem_append_right _ (List.mem_of_getElem? (i := 86) (by decide +kernel))) (by decide +kernel)
theorem m_594 : Cond.fieldLink R_Rd 42 "WaferRunner$Reader" "HEAD" "[I" ∈ lw_good := lw_in (List.mem_append_right _ (List.mem_of_getElem? (i := 594) (by decide +kernel))) (by decide +kernel)
theorem m_599 : Cond.code y_So_require b_So_require 2 none ∈ lw_good := lw_in (List.mem_append_right _ (List.mem_of_getElem? (i := 599) (by decide +kernel))) (by decide +kernel)
theorem m_596 : Cond.methodLink R_Rd 46 y_So_require ∈ lw_good := lw_in (List.mem_append_right _ (List.mem_of_getElem? (i := 596) (by decide +kernel))) (by decide +kernel)
theorem m_597 : Cond.instanceMethod y_So_require ∈ lw_good := lw_in (List.mem_append_right _ (List.mem_of_getElem? (i := 597) (by decide +kernel))) (by decide +kernel)
theorem m_598 : Cond.selects R_So y_So_require y_So_require ∈ lw_good := lw_in (List.mem_append_right _ (List.mem_of_getElem? (i := 598) (by decide +kernel))) (by decide +kernel)
theorem m_607 : Cond.code y_So_hasMore b_So_hasMore 1 (some .boolean) ∈ lw_good := lw_in (List.mem_append_right _ (List.mem_of_getElem? (i := 607) (by decide +kernel))) (by decide +kernel)
theorem m_604 : Cond.methodLink R_Rd 50 y_So_hasMore ∈ lw_good := lw_in (List.mem_append_right _ (List.mem_of_getElem? (i := 604) (by decide +kernel))) (by decide +kernel)
theorem m_605 : Cond.instanceMethod y_So_hasMore ∈ lw_good := lw_in (List.mem_append_right _ (List.mem_of_getElem? (i := 605) (by decide +kernel))) (by decide +kernel)
theorem m_606 : Cond.selects R_So y_So_hasMore y_So_hasMore ∈ lw_good := lw_in (List.mem_append_right _ (List.mem_of_getElem? (i := 606) (by decide +kernel))) (by decide +kernel)
theorem m_695 : Cond.code y_So_hasFailed b_So_hasFailed 1 (some .boolean) ∈ lw_good := lw_in (List.mem_append_right _ (List.mem_of_getElem? (i := 695) (by decide +kernel))) (by decide +kernel)
theorem m_754 : Cond.methodLink R_Rd 70 y_So_hasFailed ∈ lw_good := lw_in (List.mem_append_right _ (List.mem_of_getElem? (i := 754) (by decide +kernel))) (by decide +kernel)
theorem m_693 : Cond.instanceMethod y_So_hasFailed ∈ lw_good := lw_in (List.mem_append_right _ (List.mem_of_getElem? (i := 693) (by decide +kernel))) (by decide +kernel)
theorem m_694 : Cond.selects R_So y_So_hasFailed y_So_hasFailed ∈ lw_good := lw_in (List.mem_append_right _ (List.mem_of_getElem? (i := 694) (by decide +kernel))) (by decide +kernel)
theorem m_581 : Cond.code y_Rd_reads b_Rd_reads 7 (some .boolean) ∈ lw_good := lw_in (List.mem_append_right _ (List.mem_of_getElem? (i := 581) (by decide +kernel))) (by decide +kernel)
theorem m_578 : Cond.methodLink R_WR 68 y_Rd_reads ∈ lw_good := lw_in (List.mem_append_right _ (List.mem_of_getElem? (i := 578) (by decide +kernel))) (by decide +kernel)
theorem m_579 : Cond.instanceMethod y_Rd_reads ∈ lw_good := lw_in (List.mem_append_right _ (List.mem_of_getElem? (i := 579) (by decide +kernel))) (by decide +kernel)
theorem m_580 : Cond.selects R_Rd y_Rd_reads y_Rd_reads ∈ lw_good := lw_in (List.mem_append_right _ (List.mem_of_getElem? (i := 580) (by decide +kernel))) (by decide +kernel)
theorem m_880 : Cond.classLink R_WR 79 "java/lang/UnsupportedOperationException" ∈ lw_good := lw_in (List.mem_append_right _ (List.mem_of_getElem? (i := 880) (by decide +kernel))) (by decide +kernel)
theorem m_881 : Cond.instantiable "java/lang/UnsupportedOperationException" 6 ∈ lw_good := lw_in (List.mem_append_right _ (List.mem_of_getElem? (i := 881) (by decide +kernel))) (by decide +kernel)
theorem m_21 : Cond.initialized "java/lang/UnsupportedOperationException" ∈ lw_good := lw_in (List.mem_append_right _ (List.mem_of_getElem? (i := 21) (by decide +kernel))) (by decide +kernel)
theorem tx_81 : (R_WR, 81, "not a module that can be read and is valid") ∈ xtexts := by decide +kernel
theorem at_R_WR_83 : ∀ w ∈ Bundle.ownAtoms R_WR 83 "java/lang/UnsupportedOperationException" ["java/lang/RuntimeException", "java/lang/Exception"], xE_in w := by unfold xE_in; decide +kernel
set_option maxHeartbeats 8000000 in
set_option maxRecDepth 100000 in
theorem c_So_open_n (l : Launch) (htr : l.stackTraces = false) (G : va_G) (cB cI cJ cZ : ClassId) (so : Nat) (rw : Nat) (sa : Int32) (sl : Int32) (sf : Int32) (n : Int32) (sz : Nat) : MetX l y_So_open (wx y_So_open b_So_open 3 none) { frames := 0, cells := 0, slots := 0, locals := 0 } (XP G classes (xtys cB cI cJ cZ) xE [.ref so, .ref rw, .int n] [(so, .inr (3, [.null, .int sa, .int sl, .int sf]))] sz) (XQ G classes (va_A [(so, .inr (3, [.null, .int sa, .int sl, .int sf]))] sz) (fun o w1 => o = .returned none ∧ w1 = [(so, .inr (3, [.ref rw, .int 0, .int n, .int 0]))])) 0 0 (va_A [(so, .inr (3, [.null, .int sa, .int sl, .int sf]))] sz) := by
  refine ex_ofW (cc := b_So_open) (maxL := 3) (ret := none) (by decide) rfl ?_
  intro p e s m args below meth c s₁ B hml hno hv
  obtain ⟨rfl, hsz, hP, hK, hD0, hE⟩ := hv
  have hx := B.exec
  have hb := B.bytes
  have hr := B.returns
  have hts : ∀ w ∈ lw_good, w.before _ s = true := fun w h => atoms_spec (ws := wx y_So_open b_So_open 3 none) B.pre w (List.mem_cons_of_mem _ h)
  have hown : s.vm.findClass R_So = some m.cls := findClass_of_methodNamed B.named
  have hlocks := B.notSynchronized
  have htr9 : e.platform.stackTraces = false := by rw [B.admits.platform]; exact htr
  subst hsz
  have hNS := xx_nostat hP
  have hD := hD0.self (sz := s.heap.size)
  generalize hAe : va_A [(so, .inr (3, [.null, .int sa, .int sl, .int sf]))] s.heap.size = A at hD hE hNS ⊢
  have hA : ∀ q : Nat, s.heap.size ≤ q → A q := fun q h => by rw [← hAe]; exact Or.inr h
  have hS : va_S A s.heap s.heap [] := va_S.rf
  have hl := lv_entry ([.ref so, .ref rw, .int n]) (n := 3) (Nat.le_of_ble_eq_true rfl)
  rw [lg_entry_eq]
  generalize (lg_sl ([.ref so, .ref rw, .int n]) ++ List.replicate (3 - (lg_sl ([.ref so, .ref rw, .int n])).length) Slot.unset).toArray = ls at hl ⊢
  have hl : lv_has ls 3 [(0, .ref so), (1, .ref rw), (2, .int n)] := hl
  refine lv_aload_n hx hb d_So_open_0 rfl (lv_at hl 0 rfl) ?_
  refine lv_aload_n hx hb d_So_open_1 rfl (lv_at hl 1 rfl) ?_
  refine va_put (D := G) (ci := 3) (v := .ref rw) (ty := .array .byte) (C := R_So) (T := F_So) (N := 4) hx hb hts i_So t_So t_So_ok n_So hown hK hP hD hS 0 rfl rfl 0 (by decide) (hts _ m_48) (fun _ h9 => h9) rfl (by decide +kernel) rfl rfl (Nat.le_of_ble_eq_true rfl) d_So_open_2 (fun H locs hP hD hS => ?_)
  have hP : va_P G classes [(so, .inr (3, [.ref rw, .int sa, .int sl, .int sf]))] H := hP
  have hD : va_D A [(so, .inr (3, [.ref rw, .int sa, .int sl, .int sf]))] := hD
  refine lv_aload_n hx hb d_So_open_5 rfl (lv_at hl 0 rfl) ?_
  refine lv_iconst (v := 0) hx hb d_So_open_6 (by decide) ?_
  refine va_put (D := G) (ci := 3) (v := .int 0) (ty := .int) (C := R_So) (T := F_So) (N := 4) hx hb hts i_So t_So t_So_ok n_So hown hK hP hD hS 0 rfl rfl 1 (by decide) (hts _ m_49) (fun _ h9 => h9) rfl (by decide +kernel) rfl rfl (Nat.le_of_ble_eq_true rfl) d_So_open_7 (fun H locs hP hD hS => ?_)
  have hP : va_P G classes [(so, .inr (3, [.ref rw, .int 0, .int sl, .int sf]))] H := hP
  have hD : va_D A [(so, .inr (3, [.ref rw, .int 0, .int sl, .int sf]))] := hD
  refine lv_aload_n hx hb d_So_open_10 rfl (lv_at hl 0 rfl) ?_
  refine lv_iload_n hx hb d_So_open_11 rfl (lv_at hl 2 rfl) ?_
  refine va_put (D := G) (ci := 3) (v := .int n) (ty := .int) (C := R_So) (T := F_So) (N := 4) hx hb hts i_So t_So t_So_ok n_So hown hK hP hD hS 0 rfl rfl 2 (by decide) (hts _ m_50) (fun _ h9 => h9) rfl (by decide +kernel) rfl rfl (Nat.le_of_ble_eq_true rfl) d_So_open_12 (fun H locs hP hD hS => ?_)
  have hP : va_P G classes [(so, .inr (3, [.ref rw, .int 0, .int n, .int sf]))] H := hP
  have hD : va_D A [(so, .inr (3, [.ref rw, .int 0, .int n, .int sf]))] := hD
  refine lv_aload_n hx hb d_So_open_15 rfl (lv_at hl 0 rfl) ?_
  refine lv_iconst (v := 0) hx hb d_So_open_16 (by decide) ?_
  refine va_put (D := G) (ci := 3) (v := .int 0) (ty := .boolean) (C := R_So) (T := F_So) (N := 4) hx hb hts i_So t_So t_So_ok n_So hown hK hP hD hS 0 rfl rfl 3 (by decide) (hts _ m_51) (fun _ h9 => h9) rfl (by decide +kernel) rfl rfl (Nat.le_of_ble_eq_true rfl) d_So_open_17 (fun H locs hP hD hS => ?_)
  have hP : va_P G classes [(so, .inr (3, [.ref rw, .int 0, .int n, .int 0]))] H := hP
  have hD : va_D A [(so, .inr (3, [.ref rw, .int 0, .int n, .int 0]))] := hD
  exact ex_W (fun _ h => ex_mq h) (W.vret hx hb hr (fun t ht hW => ⟨⟨_, ⟨rfl, rfl⟩, by rw [ht]; exact hP, hD⟩, hS.F ht⟩) hS.2.2 d_So_open_20)
set_option maxHeartbeats 8000000 in
set_option maxRecDepth 100000 in
theorem c_So_octet_x (l : Launch) (htr : l.stackTraces = false) (G : va_G) (cB cI cJ cZ : ClassId) (so : Nat) (sb : Nat) (sa : Int32) (sl : Int32) (sf : Int32) (hf : ¬ sf = 0 ∨ sl ≤ sa) (sz : Nat) : MetX l y_So_octet (wx y_So_octet b_So_octet 2 (some .int)) { frames := 0, cells := 0, slots := 0, locals := 0 } (XP G classes (xtys cB cI cJ cZ) xE [.ref so] [(so, .inr (3, [.ref sb, .int sa, .int sl, .int sf]))] sz) (XQ G classes (va_A [(so, .inr (3, [.ref sb, .int sa, .int sl, .int sf]))] sz) (fun o w1 => o = .returned (some (.int 0)) ∧ w1 = [(so, .inr (3, [.ref sb, .int sa, .int sl, .int 1]))])) 0 0 (va_A [(so, .inr (3, [.ref sb, .int sa, .int sl, .int sf]))] sz) := by
  refine ex_ofW (cc := b_So_octet) (maxL := 2) (ret := (some .int)) (by decide) rfl ?_
  intro p e s m args below meth c s₁ B hml hno hv
  obtain ⟨rfl, hsz, hP, hK, hD0, hE⟩ := hv
  have hx := B.exec
  have hb := B.bytes
  have hr := B.returns
  have hts : ∀ w ∈ lw_good, w.before _ s = true := fun w h => atoms_spec (ws := wx y_So_octet b_So_octet 2 (some .int)) B.pre w (List.mem_cons_of_mem _ h)
  have hown : s.vm.findClass R_So = some m.cls := findClass_of_methodNamed B.named
  have hlocks := B.notSynchronized
  have htr9 : e.platform.stackTraces = false := by rw [B.admits.platform]; exact htr
  subst hsz
  have hNS := xx_nostat hP
  have hD := hD0.self (sz := s.heap.size)
  generalize hAe : va_A [(so, .inr (3, [.ref sb, .int sa, .int sl, .int sf]))] s.heap.size = A at hD hE hNS ⊢
  have hA : ∀ q : Nat, s.heap.size ≤ q → A q := fun q h => by rw [← hAe]; exact Or.inr h
  have hS : va_S A s.heap s.heap [] := va_S.rf
  have hl := lv_entry ([.ref so]) (n := 2) (Nat.le_of_ble_eq_true rfl)
  rw [lg_entry_eq]
  generalize (lg_sl ([.ref so]) ++ List.replicate (2 - (lg_sl ([.ref so])).length) Slot.unset).toArray = ls at hl ⊢
  have hl : lv_has ls 2 [(0, .ref so)] := hl
  refine lv_aload_n hx hb d_So_octet_0 rfl (lv_at hl 0 rfl) ?_
  refine va_get (D := G) (ci := 3) (v := .int sf) (C := R_So) (T := F_So) (N := 4) hx hb hts i_So hown hK hP 0 rfl rfl 3 (by decide) (hts _ m_51) (fun _ h9 => h9) rfl d_So_octet_1 ?_
  refine lv_if_ne (tgt := 18) hx hb d_So_octet_4 (by decide) (fun c_1 => ?_) (fun c_1 => ?_)
  · refine lv_aload_n hx hb d_So_octet_18 rfl (lv_at hl 0 rfl) ?_
    refine lv_iconst (v := 1) hx hb d_So_octet_19 (by decide) ?_
    refine va_put (D := G) (ci := 3) (v := .int 1) (ty := .boolean) (C := R_So) (T := F_So) (N := 4) hx hb hts i_So t_So t_So_ok n_So hown hK hP hD hS 0 rfl rfl 3 (by decide) (hts _ m_51) (fun _ h9 => h9) rfl (by decide +kernel) rfl rfl (Nat.le_of_ble_eq_true rfl) d_So_octet_20 (fun H locs hP hD hS => ?_)
    have hP : va_P G classes [(so, .inr (3, [.ref sb, .int sa, .int sl, .int 1]))] H := hP
    have hD : va_D A [(so, .inr (3, [.ref sb, .int sa, .int sl, .int 1]))] := hD
    refine lv_iconst (v := 0) hx hb d_So_octet_23 (by decide) ?_
    exact ex_W (fun _ h => ex_mq h) (W.iret (v := 0) hx hb hr (fun t ht hW => ⟨⟨_, ⟨rfl, rfl⟩, by rw [ht]; exact hP, hD⟩, hS.F ht⟩) hS.2.2 d_So_octet_24)
  · refine lv_aload_n hx hb d_So_octet_7 rfl (lv_at hl 0 rfl) ?_
    refine va_get (D := G) (ci := 3) (v := .int sa) (C := R_So) (T := F_So) (N := 4) hx hb hts i_So hown hK hP 0 rfl rfl 1 (by decide) (hts _ m_49) (fun _ h9 => h9) rfl d_So_octet_8 ?_
    refine lv_aload_n hx hb d_So_octet_11 rfl (lv_at hl 0 rfl) ?_
    refine va_get (D := G) (ci := 3) (v := .int sl) (C := R_So) (T := F_So) (N := 4) hx hb hts i_So hown hK hP 0 rfl rfl 2 (by decide) (hts _ m_50) (fun _ h9 => h9) rfl d_So_octet_12 ?_
    refine lv_icmp_lt (tgt := 25) hx hb d_So_octet_15 (by decide) (fun c_2 => absurd c_2 (Int32.not_lt.mpr (hf.resolve_left (by simpa using c_1)))) (fun c_2 => ?_)
    refine lv_aload_n hx hb d_So_octet_18 rfl (lv_at hl 0 rfl) ?_
    refine lv_iconst (v := 1) hx hb d_So_octet_19 (by decide) ?_
    refine va_put (D := G) (ci := 3) (v := .int 1) (ty := .boolean) (C := R_So) (T := F_So) (N := 4) hx hb hts i_So t_So t_So_ok n_So hown hK hP hD hS 0 rfl rfl 3 (by decide) (hts _ m_51) (fun _ h9 => h9) rfl (by decide +kernel) rfl rfl (Nat.le_of_ble_eq_true rfl) d_So_octet_20 (fun H locs hP hD hS => ?_)
    have hP : va_P G classes [(so, .inr (3, [.ref sb, .int sa, .int sl, .int 1]))] H := hP
    have hD : va_D A [(so, .inr (3, [.ref sb, .int sa, .int sl, .int 1]))] := hD
    refine lv_iconst (v := 0) hx hb d_So_octet_23 (by decide) ?_
    exact ex_W (fun _ h => ex_mq h) (W.iret (v := 0) hx hb hr (fun t ht hW => ⟨⟨_, ⟨rfl, rfl⟩, by rw [ht]; exact hP, hD⟩, hS.F ht⟩) hS.2.2 d_So_octet_24)
set_option maxHeartbeats 8000000 in
set_option maxRecDepth 100000 in
theorem c_So_require_x (l : Launch) (htr : l.stackTraces = false) (G : va_G) (cB cI cJ cZ : ClassId) (so : Nat) (sb : Nat) (sa : Int32) (sl : Int32) (sf : Int32) (n : Int32) (hf : ¬ sf = 0 ∨ sl ≤ sa) (sz : Nat) : MetX l y_So_require (wx y_So_require b_So_require 2 none) { frames := 1, cells := 0, slots := 0, locals := 21 } (XP G classes (xtys cB cI cJ cZ) xE [.ref so, .int n] [(so, .inr (3, [.ref sb, .int sa, .int sl, .int sf]))] sz) (XQ G classes (va_A [(so, .inr (3, [.ref sb, .int sa, .int sl, .int sf]))] sz) (fun o w1 => o = .returned none ∧ w1 = [(so, .inr (3, [.ref sb, .int sa, .int sl, .int 1]))])) 0 0 (va_A [(so, .inr (3, [.ref sb, .int sa, .int sl, .int sf]))] sz) := by
  refine ex_ofW (cc := b_So_require) (maxL := 2) (ret := none) (by decide) rfl ?_
  intro p e s m args below meth c s₁ B hml hno hv
  obtain ⟨rfl, hsz, hP, hK, hD0, hE⟩ := hv
  have hx := B.exec
  have hb := B.bytes
  have hr := B.returns
  have hts : ∀ w ∈ lw_good, w.before _ s = true := fun w h => atoms_spec (ws := wx y_So_require b_So_require 2 none) B.pre w (List.mem_cons_of_mem _ h)
  have hown : s.vm.findClass R_So = some m.cls := findClass_of_methodNamed B.named
  have hlocks := B.notSynchronized
  have htr9 : e.platform.stackTraces = false := by rw [B.admits.platform]; exact htr
  subst hsz
  have hNS := xx_nostat hP
  have hD := hD0.self (sz := s.heap.size)
  generalize hAe : va_A [(so, .inr (3, [.ref sb, .int sa, .int sl, .int sf]))] s.heap.size = A at hD hE hNS ⊢
  have hA : ∀ q : Nat, s.heap.size ≤ q → A q := fun q h => by rw [← hAe]; exact Or.inr h
  have hS : va_S A s.heap s.heap [] := va_S.rf
  have hl := lv_entry ([.ref so, .int n]) (n := 2) (Nat.le_of_ble_eq_true rfl)
  rw [lg_entry_eq]
  generalize (lg_sl ([.ref so, .int n]) ++ List.replicate (2 - (lg_sl ([.ref so, .int n])).length) Slot.unset).toArray = ls at hl ⊢
  have hl : lv_has ls 2 [(0, .ref so), (1, .int n)] := hl
  refine lv_aload_n hx hb d_So_require_0 rfl (lv_at hl 0 rfl) ?_
  refine xx_callV (wc := [(so, .inr (3, [.ref sb, .int sa, .int sl, .int sf]))]) (wr := []) (As := []) (rest := []) ⟨hx, hb, hml, hown, hts⟩ xE_st hK hE hA (c_So_octet_x l htr G cB cI cJ cZ so sb sa sl sf hf _) (xw_V 0 hts m_600 m_601 m_602 m_3 m_603 (by decide +kernel) ⟨(Nat.le_of_ble_eq_true rfl), (Nat.le_of_ble_eq_true rfl)⟩) hP hD hS [0] [] rfl rfl (by decide) (by decide) (by decide) 0 3 rfl rfl rfl rfl hl.1 rfl (Nat.le_of_ble_eq_true rfl) d_So_require_1 ⟨(Nat.le_of_ble_eq_true rfl), (Nat.le_of_ble_eq_true rfl)⟩ (fun v9 w9 H locs hp hP hD hS => ?_) (fun x9 w9 H9 l9 hp _ _ _ => absurd hp (by rintro ⟨ho, -⟩; cases ho))
  obtain ⟨ho, rfl⟩ := hp
  cases ho
  have hP : va_P G classes [(so, .inr (3, [.ref sb, .int sa, .int sl, .int 1]))] H := hP
  have hD : va_D A [(so, .inr (3, [.ref sb, .int sa, .int sl, .int 1]))] := hD
  refine lv_iload_n hx hb d_So_require_4 rfl (lv_at hl 1 rfl) ?_
  refine lv_icmp_eq (tgt := 13) hx hb d_So_require_5 (by decide) (fun c_1 => ?_) (fun c_1 => ?_)
  · exact ex_W (fun _ h => ex_mq h) (W.vret hx hb hr (fun t ht hW => ⟨⟨_, ⟨rfl, rfl⟩, by rw [ht]; exact hP, hD⟩, hS.F ht⟩) hS.2.2 d_So_require_13)
  · refine lv_aload_n hx hb d_So_require_8 rfl (lv_at hl 0 rfl) ?_
    refine lv_iconst (v := 1) hx hb d_So_require_9 (by decide) ?_
    refine va_put (D := G) (ci := 3) (v := .int 1) (ty := .boolean) (C := R_So) (T := F_So) (N := 4) hx hb hts i_So t_So t_So_ok n_So hown hK hP hD hS 0 rfl rfl 3 (by decide) (hts _ m_51) (fun _ h9 => h9) rfl (by decide +kernel) rfl rfl (Nat.le_of_ble_eq_true rfl) d_So_require_10 (fun H locs hP hD hS => ?_)
    have hP : va_P G classes [(so, .inr (3, [.ref sb, .int sa, .int sl, .int 1]))] H := hP
    have hD : va_D A [(so, .inr (3, [.ref sb, .int sa, .int sl, .int 1]))] := hD
    exact ex_W (fun _ h => ex_mq h) (W.vret hx hb hr (fun t ht hW => ⟨⟨_, ⟨rfl, rfl⟩, by rw [ht]; exact hP, hD⟩, hS.F ht⟩) hS.2.2 d_So_require_13)
set_option maxHeartbeats 8000000 in
set_option maxRecDepth 100000 in
theorem c_So_hasMore_x (l : Launch) (htr : l.stackTraces = false) (G : va_G) (cB cI cJ cZ : ClassId) (so : Nat) (sb : Nat) (sa : Int32) (sl : Int32) (sz : Nat) : MetX l y_So_hasMore (wx y_So_hasMore b_So_hasMore 1 (some .boolean)) { frames := 0, cells := 0, slots := 0, locals := 0 } (XP G classes (xtys cB cI cJ cZ) xE [.ref so] [(so, .inr (3, [.ref sb, .int sa, .int sl, .int 1]))] sz) (XQ G classes (va_A [(so, .inr (3, [.ref sb, .int sa, .int sl, .int 1]))] sz) (fun o w1 => o = .returned (some (.int 0)) ∧ w1 = [(so, .inr (3, [.ref sb, .int sa, .int sl, .int 1]))])) 0 0 (va_A [(so, .inr (3, [.ref sb, .int sa, .int sl, .int 1]))] sz) := by
  refine ex_ofW (cc := b_So_hasMore) (maxL := 1) (ret := (some .boolean)) (by decide) rfl ?_
  intro p e s m args below meth c s₁ B hml hno hv
  obtain ⟨rfl, hsz, hP, hK, hD0, hE⟩ := hv
  have hx := B.exec
  have hb := B.bytes
  have hr := B.returns
  have hts : ∀ w ∈ lw_good, w.before _ s = true := fun w h => atoms_spec (ws := wx y_So_hasMore b_So_hasMore 1 (some .boolean)) B.pre w (List.mem_cons_of_mem _ h)
  have hown : s.vm.findClass R_So = some m.cls := findClass_of_methodNamed B.named
  have hlocks := B.notSynchronized
  have htr9 : e.platform.stackTraces = false := by rw [B.admits.platform]; exact htr
  subst hsz
  have hNS := xx_nostat hP
  have hD := hD0.self (sz := s.heap.size)
  generalize hAe : va_A [(so, .inr (3, [.ref sb, .int sa, .int sl, .int 1]))] s.heap.size = A at hD hE hNS ⊢
  have hA : ∀ q : Nat, s.heap.size ≤ q → A q := fun q h => by rw [← hAe]; exact Or.inr h
  have hS : va_S A s.heap s.heap [] := va_S.rf
  have hl := lv_entry ([.ref so]) (n := 1) (Nat.le_of_ble_eq_true rfl)
  rw [lg_entry_eq]
  generalize (lg_sl ([.ref so]) ++ List.replicate (1 - (lg_sl ([.ref so])).length) Slot.unset).toArray = ls at hl ⊢
  have hl : lv_has ls 1 [(0, .ref so)] := hl
  refine lv_aload_n hx hb d_So_hasMore_0 rfl (lv_at hl 0 rfl) ?_
  refine va_get (D := G) (ci := 3) (v := .int 1) (C := R_So) (T := F_So) (N := 4) hx hb hts i_So hown hK hP 0 rfl rfl 3 (by decide) (hts _ m_51) (fun _ h9 => h9) rfl d_So_hasMore_1 ?_
  refine lv_if_ne (tgt := 22) hx hb d_So_hasMore_4 (by decide) (fun c_1 => ?_) (fun c_1 => absurd c_1 (by decide))
  refine lv_iconst (v := 0) hx hb d_So_hasMore_22 (by decide) ?_
  exact ex_W (fun _ h => ex_mq h) (W.zret (v := 0) hx hb hr rfl (fun t ht hW => ⟨⟨_, ⟨rfl, rfl⟩, by rw [ht]; exact hP, hD⟩, hS.F ht⟩) hS.2.2 d_So_hasMore_23)
set_option maxHeartbeats 8000000 in
set_option maxRecDepth 100000 in
theorem c_So_hasFailed_x (l : Launch) (htr : l.stackTraces = false) (G : va_G) (cB cI cJ cZ : ClassId) (so : Nat) (sb : Nat) (sa : Int32) (sl : Int32) (sz : Nat) : MetX l y_So_hasFailed (wx y_So_hasFailed b_So_hasFailed 1 (some .boolean)) { frames := 0, cells := 0, slots := 0, locals := 0 } (XP G classes (xtys cB cI cJ cZ) xE [.ref so] [(so, .inr (3, [.ref sb, .int sa, .int sl, .int 1]))] sz) (XQ G classes (va_A [(so, .inr (3, [.ref sb, .int sa, .int sl, .int 1]))] sz) (fun o w1 => o = .returned (some (.int 1)) ∧ w1 = [(so, .inr (3, [.ref sb, .int sa, .int sl, .int 1]))])) 0 0 (va_A [(so, .inr (3, [.ref sb, .int sa, .int sl, .int 1]))] sz) := by
  refine ex_ofW (cc := b_So_hasFailed) (maxL := 1) (ret := (some .boolean)) (by decide) rfl ?_
  intro p e s m args below meth c s₁ B hml hno hv
  obtain ⟨rfl, hsz, hP, hK, hD0, hE⟩ := hv
  have hx := B.exec
  have hb := B.bytes
  have hr := B.returns
  have hts : ∀ w ∈ lw_good, w.before _ s = true := fun w h => atoms_spec (ws := wx y_So_hasFailed b_So_hasFailed 1 (some .boolean)) B.pre w (List.mem_cons_of_mem _ h)
  have hown : s.vm.findClass R_So = some m.cls := findClass_of_methodNamed B.named
  have hlocks := B.notSynchronized
  have htr9 : e.platform.stackTraces = false := by rw [B.admits.platform]; exact htr
  subst hsz
  have hNS := xx_nostat hP
  have hD := hD0.self (sz := s.heap.size)
  generalize hAe : va_A [(so, .inr (3, [.ref sb, .int sa, .int sl, .int 1]))] s.heap.size = A at hD hE hNS ⊢
  have hA : ∀ q : Nat, s.heap.size ≤ q → A q := fun q h => by rw [← hAe]; exact Or.inr h
  have hS : va_S A s.heap s.heap [] := va_S.rf
  have hl := lv_entry ([.ref so]) (n := 1) (Nat.le_of_ble_eq_true rfl)
  rw [lg_entry_eq]
  generalize (lg_sl ([.ref so]) ++ List.replicate (1 - (lg_sl ([.ref so])).length) Slot.unset).toArray = ls at hl ⊢
  have hl : lv_has ls 1 [(0, .ref so)] := hl
  refine lv_aload_n hx hb d_So_hasFailed_0 rfl (lv_at hl 0 rfl) ?_
  refine va_get (D := G) (ci := 3) (v := .int 1) (C := R_So) (T := F_So) (N := 4) hx hb hts i_So hown hK hP 0 rfl rfl 3 (by decide) (hts _ m_51) (fun _ h9 => h9) rfl d_So_hasFailed_1 ?_
  exact ex_W (fun _ h => ex_mq h) (W.zret (v := 1) hx hb hr rfl (fun t ht hW => ⟨⟨_, ⟨rfl, rfl⟩, by rw [ht]; exact hP, hD⟩, hS.F ht⟩) hS.2.2 d_So_hasFailed_4)
set_option maxHeartbeats 8000000 in
set_option maxRecDepth 100000 in
theorem c_Co_clear (l : Launch) (htr : l.stackTraces = false) (G : va_G) (cB cI cJ cZ : ClassId) (co : Nat) (co1 : Nat) (co2 : Nat) (co3 : Nat) (co4 : Nat) (co5 : Nat) (co6 : Nat) (co7 : Nat) (co8 : Nat) (co9 : Nat) (cs : Int32) (cl : Int32) (sz : Nat) : MetX l y_Co_clear (wx y_Co_clear b_Co_clear 1 none) { frames := 0, cells := 0, slots := 0, locals := 0 } (XP G classes (xtys cB cI cJ cZ) xE [.ref co] [(co, .inr (9, [.int cs, .ref co1, .ref co2, .ref co3, .ref co4, .ref co5, .ref co6, .ref co7, .int cl, .ref co8, .ref co9]))] sz) (XQ G classes (va_A [(co, .inr (9, [.int cs, .ref co1, .ref co2, .ref co3, .ref co4, .ref co5, .ref co6, .ref co7, .int cl, .ref co8, .ref co9]))] sz) (fun o w1 => o = .returned none ∧ w1 = [(co, .inr (9, [.int 0, .ref co1, .ref co2, .ref co3, .ref co4, .ref co5, .ref co6, .ref co7, .int 0, .ref co8, .ref co9]))])) 0 0 (va_A [(co, .inr (9, [.int cs, .ref co1, .ref co2, .ref co3, .ref co4, .ref co5, .ref co6, .ref co7, .int cl, .ref co8, .ref co9]))] sz) := by
  refine ex_ofW (cc := b_Co_clear) (maxL := 1) (ret := none) (by decide) rfl ?_
  intro p e s m args below meth c s₁ B hml hno hv
  obtain ⟨rfl, hsz, hP, hK, hD0, hE⟩ := hv
  have hx := B.exec
  have hb := B.bytes
  have hr := B.returns
  have hts : ∀ w ∈ lw_good, w.before _ s = true := fun w h => atoms_spec (ws := wx y_Co_clear b_Co_clear 1 none) B.pre w (List.mem_cons_of_mem _ h)
  have hown : s.vm.findClass R_Co = some m.cls := findClass_of_methodNamed B.named
  have hlocks := B.notSynchronized
  have htr9 : e.platform.stackTraces = false := by rw [B.admits.platform]; exact htr
  subst hsz
  have hNS := xx_nostat hP
  have hD := hD0.self (sz := s.heap.size)
  generalize hAe : va_A [(co, .inr (9, [.int cs, .ref co1, .ref co2, .ref co3, .ref co4, .ref co5, .ref co6, .ref co7, .int cl, .ref co8, .ref co9]))] s.heap.size = A at hD hE hNS ⊢
  have hA : ∀ q : Nat, s.heap.size ≤ q → A q := fun q h => by rw [← hAe]; exact Or.inr h
  have hS : va_S A s.heap s.heap [] := va_S.rf
  have hl := lv_entry ([.ref co]) (n := 1) (Nat.le_of_ble_eq_true rfl)
  rw [lg_entry_eq]
  generalize (lg_sl ([.ref co]) ++ List.replicate (1 - (lg_sl ([.ref co])).length) Slot.unset).toArray = ls at hl ⊢
  have hl : lv_has ls 1 [(0, .ref co)] := hl
  refine lv_aload_n hx hb d_Co_clear_0 rfl (lv_at hl 0 rfl) ?_
  refine lv_iconst (v := 0) hx hb d_Co_clear_1 (by decide) ?_
  refine va_put (D := G) (ci := 9) (v := .int 0) (ty := .int) (C := R_Co) (T := F_Co) (N := 11) hx hb hts i_Co t_Co t_Co_ok n_Co hown hK hP hD hS 0 rfl rfl 0 (by decide) (hts _ m_256) (fun _ h9 => h9) rfl (by decide +kernel) rfl rfl (Nat.le_of_ble_eq_true rfl) d_Co_clear_2 (fun H locs hP hD hS => ?_)
  have hP : va_P G classes [(co, .inr (9, [.int 0, .ref co1, .ref co2, .ref co3, .ref co4, .ref co5, .ref co6, .ref co7, .int cl, .ref co8, .ref co9]))] H := hP
  have hD : va_D A [(co, .inr (9, [.int 0, .ref co1, .ref co2, .ref co3, .ref co4, .ref co5, .ref co6, .ref co7, .int cl, .ref co8, .ref co9]))] := hD
  refine lv_aload_n hx hb d_Co_clear_5 rfl (lv_at hl 0 rfl) ?_
  refine lv_iconst (v := 0) hx hb d_Co_clear_6 (by decide) ?_
  refine va_put (D := G) (ci := 9) (v := .int 0) (ty := .int) (C := R_Co) (T := F_Co) (N := 11) hx hb hts i_Co t_Co t_Co_ok n_Co hown hK hP hD hS 0 rfl rfl 8 (by decide) (hts _ m_284) (fun _ h9 => h9) rfl (by decide +kernel) rfl rfl (Nat.le_of_ble_eq_true rfl) d_Co_clear_7 (fun H locs hP hD hS => ?_)
  have hP : va_P G classes [(co, .inr (9, [.int 0, .ref co1, .ref co2, .ref co3, .ref co4, .ref co5, .ref co6, .ref co7, .int 0, .ref co8, .ref co9]))] H := hP
  have hD : va_D A [(co, .inr (9, [.int 0, .ref co1, .ref co2, .ref co3, .ref co4, .ref co5, .ref co6, .ref co7, .int 0, .ref co8, .ref co9]))] := hD
  exact ex_W (fun _ h => ex_mq h) (W.vret hx hb hr (fun t ht hW => ⟨⟨_, ⟨rfl, rfl⟩, by rw [ht]; exact hP, hD⟩, hS.F ht⟩) hS.2.2 d_Co_clear_10)
set_option maxHeartbeats 8000000 in
set_option maxRecDepth 100000 in
theorem c_Wa_clear (l : Launch) (htr : l.stackTraces = false) (G : va_G) (cB cI cJ cZ : ClassId) (wa : Nat) (wa1 : Nat) (wa2 : Nat) (wa3 : Nat) (wa4 : Nat) (wa5 : Nat) (wa6 : Nat) (wa7 : Nat) (wa8 : Nat) (wa9 : Nat) (wa10 : Nat) (wa11 : Nat) (w_types : Int32) (w_funs : Int32) (w_hasmem : Int32) (w_globs : Int32) (w_first : Int64) (w_most : Int64) (ex : Nat) (ex1 : Nat) (ex2 : Nat) (ex3 : Nat) (ex4 : Nat) (es : Int32) (co : Nat) (co1 : Nat) (co2 : Nat) (co3 : Nat) (co4 : Nat) (co5 : Nat) (co6 : Nat) (co7 : Nat) (co8 : Nat) (co9 : Nat) (cs : Int32) (cl : Int32) (sz : Nat) : MetX l y_Wa_clear (wx y_Wa_clear b_Wa_clear 1 none) { frames := 1, cells := 0, slots := 0, locals := 20 } (XP G classes (xtys cB cI cJ cZ) xE [.ref wa] [(wa, .inr (7, [.int w_types, .ref wa1, .ref wa2, .ref wa3, .int w_funs, .ref wa4, .ref wa5, .ref wa6, .ref wa7, .int w_hasmem, .long w_first, .long w_most, .int w_globs, .ref wa8, .ref wa9, .ref wa10, .ref wa11, .ref ex, .ref co])), (ex, .inr (8, [.int es, .ref ex1, .ref ex2, .ref ex3, .ref ex4])), (co, .inr (9, [.int cs, .ref co1, .ref co2, .ref co3, .ref co4, .ref co5, .ref co6, .ref co7, .int cl, .ref co8, .ref co9]))] sz) (XQ G classes (va_A [(wa, .inr (7, [.int w_types, .ref wa1, .ref wa2, .ref wa3, .int w_funs, .ref wa4, .ref wa5, .ref wa6, .ref wa7, .int w_hasmem, .long w_first, .long w_most, .int w_globs, .ref wa8, .ref wa9, .ref wa10, .ref wa11, .ref ex, .ref co])), (ex, .inr (8, [.int es, .ref ex1, .ref ex2, .ref ex3, .ref ex4])), (co, .inr (9, [.int cs, .ref co1, .ref co2, .ref co3, .ref co4, .ref co5, .ref co6, .ref co7, .int cl, .ref co8, .ref co9]))] sz) (fun o w1 => o = .returned none ∧ w1 = [(wa, .inr (7, [.int 0, .ref wa1, .ref wa2, .ref wa3, .int 0, .ref wa4, .ref wa5, .ref wa6, .ref wa7, .int 0, .long 0, .long 0, .int 0, .ref wa8, .ref wa9, .ref wa10, .ref wa11, .ref ex, .ref co])), (ex, .inr (8, [.int 0, .ref ex1, .ref ex2, .ref ex3, .ref ex4])), (co, .inr (9, [.int 0, .ref co1, .ref co2, .ref co3, .ref co4, .ref co5, .ref co6, .ref co7, .int 0, .ref co8, .ref co9]))])) 0 0 (va_A [(wa, .inr (7, [.int w_types, .ref wa1, .ref wa2, .ref wa3, .int w_funs, .ref wa4, .ref wa5, .ref wa6, .ref wa7, .int w_hasmem, .long w_first, .long w_most, .int w_globs, .ref wa8, .ref wa9, .ref wa10, .ref wa11, .ref ex, .ref co])), (ex, .inr (8, [.int es, .ref ex1, .ref ex2, .ref ex3, .ref ex4])), (co, .inr (9, [.int cs, .ref co1, .ref co2, .ref co3, .ref co4, .ref co5, .ref co6, .ref co7, .int cl, .ref co8, .ref co9]))] sz) := by
  refine ex_ofW (cc := b_Wa_clear) (maxL := 1) (ret := none) (by decide) rfl ?_
  intro p e s m args below meth c s₁ B hml hno hv
  obtain ⟨rfl, hsz, hP, hK, hD0, hE⟩ := hv
  have hx := B.exec
  have hb := B.bytes
  have hr := B.returns
  have hts : ∀ w ∈ lw_good, w.before _ s = true := fun w h => atoms_spec (ws := wx y_Wa_clear b_Wa_clear 1 none) B.pre w (List.mem_cons_of_mem _ h)
  have hown : s.vm.findClass R_Wa = some m.cls := findClass_of_methodNamed B.named
  have hlocks := B.notSynchronized
  have htr9 : e.platform.stackTraces = false := by rw [B.admits.platform]; exact htr
  subst hsz
  have hNS := xx_nostat hP
  have hD := hD0.self (sz := s.heap.size)
  generalize hAe : va_A [(wa, .inr (7, [.int w_types, .ref wa1, .ref wa2, .ref wa3, .int w_funs, .ref wa4, .ref wa5, .ref wa6, .ref wa7, .int w_hasmem, .long w_first, .long w_most, .int w_globs, .ref wa8, .ref wa9, .ref wa10, .ref wa11, .ref ex, .ref co])), (ex, .inr (8, [.int es, .ref ex1, .ref ex2, .ref ex3, .ref ex4])), (co, .inr (9, [.int cs, .ref co1, .ref co2, .ref co3, .ref co4, .ref co5, .ref co6, .ref co7, .int cl, .ref co8, .ref co9]))] s.heap.size = A at hD hE hNS ⊢
  have hA : ∀ q : Nat, s.heap.size ≤ q → A q := fun q h => by rw [← hAe]; exact Or.inr h
  have hS : va_S A s.heap s.heap [] := va_S.rf
  have hl := lv_entry ([.ref wa]) (n := 1) (Nat.le_of_ble_eq_true rfl)
  rw [lg_entry_eq]
  generalize (lg_sl ([.ref wa]) ++ List.replicate (1 - (lg_sl ([.ref wa])).length) Slot.unset).toArray = ls at hl ⊢
  have hl : lv_has ls 1 [(0, .ref wa)] := hl
  refine lv_aload_n hx hb d_Wa_clear_0 rfl (lv_at hl 0 rfl) ?_
  refine lv_iconst (v := 0) hx hb d_Wa_clear_1 (by decide) ?_
  refine va_put (D := G) (ci := 7) (v := .int 0) (ty := .int) (C := R_Wa) (T := F_Wa) (N := 19) hx hb hts i_Wa t_Wa t_Wa_ok n_Wa hown hK hP hD hS 0 rfl rfl 0 (by decide) (hts _ m_314) (fun _ h9 => h9) rfl (by decide +kernel) rfl rfl (Nat.le_of_ble_eq_true rfl) d_Wa_clear_2 (fun H locs hP hD hS => ?_)
  have hP : va_P G classes [(wa, .inr (7, [.int 0, .ref wa1, .ref wa2, .ref wa3, .int w_funs, .ref wa4, .ref wa5, .ref wa6, .ref wa7, .int w_hasmem, .long w_first, .long w_most, .int w_globs, .ref wa8, .ref wa9, .ref wa10, .ref wa11, .ref ex, .ref co])), (ex, .inr (8, [.int es, .ref ex1, .ref ex2, .ref ex3, .ref ex4])), (co, .inr (9, [.int cs, .ref co1, .ref co2, .ref co3, .ref co4, .ref co5, .ref co6, .ref co7, .int cl, .ref co8, .ref co9]))] H := hP
  have hD : va_D A [(wa, .inr (7, [.int 0, .ref wa1, .ref wa2, .ref wa3, .int w_funs, .ref wa4, .ref wa5, .ref wa6, .ref wa7, .int w_hasmem, .long w_first, .long w_most, .int w_globs, .ref wa8, .ref wa9, .ref wa10, .ref wa11, .ref ex, .ref co])), (ex, .inr (8, [.int es, .ref ex1, .ref ex2, .ref ex3, .ref ex4])), (co, .inr (9, [.int cs, .ref co1, .ref co2, .ref co3, .ref co4, .ref co5, .ref co6, .ref co7, .int cl, .ref co8, .ref co9]))] := hD
  refine lv_aload_n hx hb d_Wa_clear_5 rfl (lv_at hl 0 rfl) ?_
  refine lv_iconst (v := 0) hx hb d_Wa_clear_6 (by decide) ?_
  refine va_put (D := G) (ci := 7) (v := .int 0) (ty := .int) (C := R_Wa) (T := F_Wa) (N := 19) hx hb hts i_Wa t_Wa t_Wa_ok n_Wa hown hK hP hD hS 0 rfl rfl 4 (by decide) (hts _ m_323) (fun _ h9 => h9) rfl (by decide +kernel) rfl rfl (Nat.le_of_ble_eq_true rfl) d_Wa_clear_7 (fun H locs hP hD hS => ?_)
  have hP : va_P G classes [(wa, .inr (7, [.int 0, .ref wa1, .ref wa2, .ref wa3, .int 0, .ref wa4, .ref wa5, .ref wa6, .ref wa7, .int w_hasmem, .long w_first, .long w_most, .int w_globs, .ref wa8, .ref wa9, .ref wa10, .ref wa11, .ref ex, .ref co])), (ex, .inr (8, [.int es, .ref ex1, .ref ex2, .ref ex3, .ref ex4])), (co, .inr (9, [.int cs, .ref co1, .ref co2, .ref co3, .ref co4, .ref co5, .ref co6, .ref co7, .int cl, .ref co8, .ref co9]))] H := hP
  have hD : va_D A [(wa, .inr (7, [.int 0, .ref wa1, .ref wa2, .ref wa3, .int 0, .ref wa4, .ref wa5, .ref wa6, .ref wa7, .int w_hasmem, .long w_first, .long w_most, .int w_globs, .ref wa8, .ref wa9, .ref wa10, .ref wa11, .ref ex, .ref co])), (ex, .inr (8, [.int es, .ref ex1, .ref ex2, .ref ex3, .ref ex4])), (co, .inr (9, [.int cs, .ref co1, .ref co2, .ref co3, .ref co4, .ref co5, .ref co6, .ref co7, .int cl, .ref co8, .ref co9]))] := hD
  refine lv_aload_n hx hb d_Wa_clear_10 rfl (lv_at hl 0 rfl) ?_
  refine lv_iconst (v := 0) hx hb d_Wa_clear_11 (by decide) ?_
  refine va_put (D := G) (ci := 7) (v := .int 0) (ty := .boolean) (C := R_Wa) (T := F_Wa) (N := 19) hx hb hts i_Wa t_Wa t_Wa_ok n_Wa hown hK hP hD hS 0 rfl rfl 9 (by decide) (hts _ m_340) (fun _ h9 => h9) rfl (by decide +kernel) rfl rfl (Nat.le_of_ble_eq_true rfl) d_Wa_clear_12 (fun H locs hP hD hS => ?_)
  have hP : va_P G classes [(wa, .inr (7, [.int 0, .ref wa1, .ref wa2, .ref wa3, .int 0, .ref wa4, .ref wa5, .ref wa6, .ref wa7, .int 0, .long w_first, .long w_most, .int w_globs, .ref wa8, .ref wa9, .ref wa10, .ref wa11, .ref ex, .ref co])), (ex, .inr (8, [.int es, .ref ex1, .ref ex2, .ref ex3, .ref ex4])), (co, .inr (9, [.int cs, .ref co1, .ref co2, .ref co3, .ref co4, .ref co5, .ref co6, .ref co7, .int cl, .ref co8, .ref co9]))] H := hP
  have hD : va_D A [(wa, .inr (7, [.int 0, .ref wa1, .ref wa2, .ref wa3, .int 0, .ref wa4, .ref wa5, .ref wa6, .ref wa7, .int 0, .long w_first, .long w_most, .int w_globs, .ref wa8, .ref wa9, .ref wa10, .ref wa11, .ref ex, .ref co])), (ex, .inr (8, [.int es, .ref ex1, .ref ex2, .ref ex3, .ref ex4])), (co, .inr (9, [.int cs, .ref co1, .ref co2, .ref co3, .ref co4, .ref co5, .ref co6, .ref co7, .int cl, .ref co8, .ref co9]))] := hD
  refine lv_aload_n hx hb d_Wa_clear_15 rfl (lv_at hl 0 rfl) ?_
  refine lv_lconst (v := 0) hx hb d_Wa_clear_16 (by decide) ?_
  refine va_put (D := G) (ci := 7) (v := .long 0) (ty := .long) (C := R_Wa) (T := F_Wa) (N := 19) hx hb hts i_Wa t_Wa t_Wa_ok n_Wa hown hK hP hD hS 0 rfl rfl 10 (by decide) (hts _ m_344) (fun _ h9 => h9) rfl (by decide +kernel) rfl rfl (Nat.le_of_ble_eq_true rfl) d_Wa_clear_17 (fun H locs hP hD hS => ?_)
  have hP : va_P G classes [(wa, .inr (7, [.int 0, .ref wa1, .ref wa2, .ref wa3, .int 0, .ref wa4, .ref wa5, .ref wa6, .ref wa7, .int 0, .long 0, .long w_most, .int w_globs, .ref wa8, .ref wa9, .ref wa10, .ref wa11, .ref ex, .ref co])), (ex, .inr (8, [.int es, .ref ex1, .ref ex2, .ref ex3, .ref ex4])), (co, .inr (9, [.int cs, .ref co1, .ref co2, .ref co3, .ref co4, .ref co5, .ref co6, .ref co7, .int cl, .ref co8, .ref co9]))] H := hP
  have hD : va_D A [(wa, .inr (7, [.int 0, .ref wa1, .ref wa2, .ref wa3, .int 0, .ref wa4, .ref wa5, .ref wa6, .ref wa7, .int 0, .long 0, .long w_most, .int w_globs, .ref wa8, .ref wa9, .ref wa10, .ref wa11, .ref ex, .ref co])), (ex, .inr (8, [.int es, .ref ex1, .ref ex2, .ref ex3, .ref ex4])), (co, .inr (9, [.int cs, .ref co1, .ref co2, .ref co3, .ref co4, .ref co5, .ref co6, .ref co7, .int cl, .ref co8, .ref co9]))] := hD
  refine lv_aload_n hx hb d_Wa_clear_20 rfl (lv_at hl 0 rfl) ?_
  refine lv_lconst (v := 0) hx hb d_Wa_clear_21 (by decide) ?_
  refine va_put (D := G) (ci := 7) (v := .long 0) (ty := .long) (C := R_Wa) (T := F_Wa) (N := 19) hx hb hts i_Wa t_Wa t_Wa_ok n_Wa hown hK hP hD hS 0 rfl rfl 11 (by decide) (hts _ m_348) (fun _ h9 => h9) rfl (by decide +kernel) rfl rfl (Nat.le_of_ble_eq_true rfl) d_Wa_clear_22 (fun H locs hP hD hS => ?_)
  have hP : va_P G classes [(wa, .inr (7, [.int 0, .ref wa1, .ref wa2, .ref wa3, .int 0, .ref wa4, .ref wa5, .ref wa6, .ref wa7, .int 0, .long 0, .long 0, .int w_globs, .ref wa8, .ref wa9, .ref wa10, .ref wa11, .ref ex, .ref co])), (ex, .inr (8, [.int es, .ref ex1, .ref ex2, .ref ex3, .ref ex4])), (co, .inr (9, [.int cs, .ref co1, .ref co2, .ref co3, .ref co4, .ref co5, .ref co6, .ref co7, .int cl, .ref co8, .ref co9]))] H := hP
  have hD : va_D A [(wa, .inr (7, [.int 0, .ref wa1, .ref wa2, .ref wa3, .int 0, .ref wa4, .ref wa5, .ref wa6, .ref wa7, .int 0, .long 0, .long 0, .int w_globs, .ref wa8, .ref wa9, .ref wa10, .ref wa11, .ref ex, .ref co])), (ex, .inr (8, [.int es, .ref ex1, .ref ex2, .ref ex3, .ref ex4])), (co, .inr (9, [.int cs, .ref co1, .ref co2, .ref co3, .ref co4, .ref co5, .ref co6, .ref co7, .int cl, .ref co8, .ref co9]))] := hD
  refine lv_aload_n hx hb d_Wa_clear_25 rfl (lv_at hl 0 rfl) ?_
  refine lv_iconst (v := 0) hx hb d_Wa_clear_26 (by decide) ?_
  refine va_put (D := G) (ci := 7) (v := .int 0) (ty := .int) (C := R_Wa) (T := F_Wa) (N := 19) hx hb hts i_Wa t_Wa t_Wa_ok n_Wa hown hK hP hD hS 0 rfl rfl 12 (by decide) (hts _ m_352) (fun _ h9 => h9) rfl (by decide +kernel) rfl rfl (Nat.le_of_ble_eq_true rfl) d_Wa_clear_27 (fun H locs hP hD hS => ?_)
  have hP : va_P G classes [(wa, .inr (7, [.int 0, .ref wa1, .ref wa2, .ref wa3, .int 0, .ref wa4, .ref wa5, .ref wa6, .ref wa7, .int 0, .long 0, .long 0, .int 0, .ref wa8, .ref wa9, .ref wa10, .ref wa11, .ref ex, .ref co])), (ex, .inr (8, [.int es, .ref ex1, .ref ex2, .ref ex3, .ref ex4])), (co, .inr (9, [.int cs, .ref co1, .ref co2, .ref co3, .ref co4, .ref co5, .ref co6, .ref co7, .int cl, .ref co8, .ref co9]))] H := hP
  have hD : va_D A [(wa, .inr (7, [.int 0, .ref wa1, .ref wa2, .ref wa3, .int 0, .ref wa4, .ref wa5, .ref wa6, .ref wa7, .int 0, .long 0, .long 0, .int 0, .ref wa8, .ref wa9, .ref wa10, .ref wa11, .ref ex, .ref co])), (ex, .inr (8, [.int es, .ref ex1, .ref ex2, .ref ex3, .ref ex4])), (co, .inr (9, [.int cs, .ref co1, .ref co2, .ref co3, .ref co4, .ref co5, .ref co6, .ref co7, .int cl, .ref co8, .ref co9]))] := hD
  refine lv_aload_n hx hb d_Wa_clear_30 rfl (lv_at hl 0 rfl) ?_
  refine va_get (D := G) (ci := 7) (v := .ref ex) (C := R_Wa) (T := F_Wa) (N := 19) hx hb hts i_Wa hown hK hP 0 rfl rfl 17 (by decide) (hts _ m_371) (fun _ h9 => h9) rfl d_Wa_clear_31 ?_
  refine lv_iconst (v := 0) hx hb d_Wa_clear_34 (by decide) ?_
  refine va_put (D := G) (ci := 8) (v := .int 0) (ty := .int) (C := R_Ex) (T := F_Ex) (N := 5) hx hb hts i_Ex t_Ex t_Ex_ok n_Ex hown hK hP hD hS 1 rfl rfl 0 (by decide) (hts _ m_226) (fun _ h9 => h9) rfl (by decide +kernel) rfl rfl (Nat.le_of_ble_eq_true rfl) d_Wa_clear_35 (fun H locs hP hD hS => ?_)
  have hP : va_P G classes [(wa, .inr (7, [.int 0, .ref wa1, .ref wa2, .ref wa3, .int 0, .ref wa4, .ref wa5, .ref wa6, .ref wa7, .int 0, .long 0, .long 0, .int 0, .ref wa8, .ref wa9, .ref wa10, .ref wa11, .ref ex, .ref co])), (ex, .inr (8, [.int 0, .ref ex1, .ref ex2, .ref ex3, .ref ex4])), (co, .inr (9, [.int cs, .ref co1, .ref co2, .ref co3, .ref co4, .ref co5, .ref co6, .ref co7, .int cl, .ref co8, .ref co9]))] H := hP
  have hD : va_D A [(wa, .inr (7, [.int 0, .ref wa1, .ref wa2, .ref wa3, .int 0, .ref wa4, .ref wa5, .ref wa6, .ref wa7, .int 0, .long 0, .long 0, .int 0, .ref wa8, .ref wa9, .ref wa10, .ref wa11, .ref ex, .ref co])), (ex, .inr (8, [.int 0, .ref ex1, .ref ex2, .ref ex3, .ref ex4])), (co, .inr (9, [.int cs, .ref co1, .ref co2, .ref co3, .ref co4, .ref co5, .ref co6, .ref co7, .int cl, .ref co8, .ref co9]))] := hD
  refine lv_aload_n hx hb d_Wa_clear_38 rfl (lv_at hl 0 rfl) ?_
  refine va_get (D := G) (ci := 7) (v := .ref co) (C := R_Wa) (T := F_Wa) (N := 19) hx hb hts i_Wa hown hK hP 0 rfl rfl 18 (by decide) (hts _ m_375) (fun _ h9 => h9) rfl d_Wa_clear_39 ?_
  refine xx_callV (wc := [(co, .inr (9, [.int cs, .ref co1, .ref co2, .ref co3, .ref co4, .ref co5, .ref co6, .ref co7, .int cl, .ref co8, .ref co9]))]) (wr := [(wa, .inr (7, [.int 0, .ref wa1, .ref wa2, .ref wa3, .int 0, .ref wa4, .ref wa5, .ref wa6, .ref wa7, .int 0, .long 0, .long 0, .int 0, .ref wa8, .ref wa9, .ref wa10, .ref wa11, .ref ex, .ref co])), (ex, .inr (8, [.int 0, .ref ex1, .ref ex2, .ref ex3, .ref ex4]))]) (As := []) (rest := []) ⟨hx, hb, hml, hown, hts⟩ xE_st hK hE hA (c_Co_clear l htr G cB cI cJ cZ co co1 co2 co3 co4 co5 co6 co7 co8 co9 cs cl _) (xw_V 0 hts m_590 m_591 m_592 m_10 m_593 (by decide +kernel) ⟨(Nat.le_of_ble_eq_true rfl), (Nat.le_of_ble_eq_true rfl)⟩) hP hD hS [2] [0, 1] rfl rfl (by decide) (by decide) (by decide) 0 9 rfl rfl rfl rfl hl.1 rfl (Nat.le_of_ble_eq_true rfl) d_Wa_clear_42 ⟨(Nat.le_of_ble_eq_true rfl), (Nat.le_of_ble_eq_true rfl)⟩ (fun v9 w9 H locs hp hP hD hS => ?_) (fun x9 w9 H9 l9 hp _ _ _ => absurd hp (by rintro ⟨ho, -⟩; cases ho))
  obtain ⟨ho, rfl⟩ := hp
  cases ho
  have hP : va_P G classes [(wa, .inr (7, [.int 0, .ref wa1, .ref wa2, .ref wa3, .int 0, .ref wa4, .ref wa5, .ref wa6, .ref wa7, .int 0, .long 0, .long 0, .int 0, .ref wa8, .ref wa9, .ref wa10, .ref wa11, .ref ex, .ref co])), (ex, .inr (8, [.int 0, .ref ex1, .ref ex2, .ref ex3, .ref ex4])), (co, .inr (9, [.int 0, .ref co1, .ref co2, .ref co3, .ref co4, .ref co5, .ref co6, .ref co7, .int 0, .ref co8, .ref co9]))] H := hP
  have hD : va_D A [(wa, .inr (7, [.int 0, .ref wa1, .ref wa2, .ref wa3, .int 0, .ref wa4, .ref wa5, .ref wa6, .ref wa7, .int 0, .long 0, .long 0, .int 0, .ref wa8, .ref wa9, .ref wa10, .ref wa11, .ref ex, .ref co])), (ex, .inr (8, [.int 0, .ref ex1, .ref ex2, .ref ex3, .ref ex4])), (co, .inr (9, [.int 0, .ref co1, .ref co2, .ref co3, .ref co4, .ref co5, .ref co6, .ref co7, .int 0, .ref co8, .ref co9]))] := hD
  exact ex_W (fun _ h => ex_mq h) (W.vret hx hb hr (fun t ht hW => ⟨⟨_, ⟨rfl, rfl⟩, by rw [ht]; exact hP, hD⟩, hS.F ht⟩) hS.2.2 d_Wa_clear_45)
set_option maxHeartbeats 8000000 in
set_option maxRecDepth 100000 in
theorem c_Rd_reads_0 (l : Launch) (htr : l.stackTraces = false) (G : va_G) (cB cI cJ cZ : ClassId) (rd : Nat) (br : Nat) (so : Nat) (tp : Nat) (rc : Int32) (sa : Int32) (sl : Int32) (sf : Int32) (wa : Nat) (wa1 : Nat) (wa2 : Nat) (wa3 : Nat) (wa4 : Nat) (wa5 : Nat) (wa6 : Nat) (wa7 : Nat) (wa8 : Nat) (wa9 : Nat) (wa10 : Nat) (wa11 : Nat) (w_types : Int32) (w_funs : Int32) (w_hasmem : Int32) (w_globs : Int32) (w_first : Int64) (w_most : Int64) (ex : Nat) (ex1 : Nat) (ex2 : Nat) (ex3 : Nat) (ex4 : Nat) (es : Int32) (co : Nat) (co1 : Nat) (co2 : Nat) (co3 : Nat) (co4 : Nat) (co5 : Nat) (co6 : Nat) (co7 : Nat) (co8 : Nat) (co9 : Nat) (cs : Int32) (cl : Int32) (sz : Nat) : MetX l y_Rd_reads (wx y_Rd_reads b_Rd_reads 7 (some .boolean)) { frames := 2, cells := 0, slots := 0, locals := 42 } (XP G classes (xtys cB cI cJ cZ) xE [.ref rd, .ref tp, .int 0, .ref wa] [(rd, .inr (1, [.ref so, .ref br, .null, .int rc])), (so, .inr (3, [.null, .int sa, .int sl, .int sf])), (wa, .inr (7, [.int w_types, .ref wa1, .ref wa2, .ref wa3, .int w_funs, .ref wa4, .ref wa5, .ref wa6, .ref wa7, .int w_hasmem, .long w_first, .long w_most, .int w_globs, .ref wa8, .ref wa9, .ref wa10, .ref wa11, .ref ex, .ref co])), (ex, .inr (8, [.int es, .ref ex1, .ref ex2, .ref ex3, .ref ex4])), (co, .inr (9, [.int cs, .ref co1, .ref co2, .ref co3, .ref co4, .ref co5, .ref co6, .ref co7, .int cl, .ref co8, .ref co9]))] sz) (XQ G classes (va_A [(rd, .inr (1, [.ref so, .ref br, .null, .int rc])), (so, .inr (3, [.null, .int sa, .int sl, .int sf])), (wa, .inr (7, [.int w_types, .ref wa1, .ref wa2, .ref wa3, .int w_funs, .ref wa4, .ref wa5, .ref wa6, .ref wa7, .int w_hasmem, .long w_first, .long w_most, .int w_globs, .ref wa8, .ref wa9, .ref wa10, .ref wa11, .ref ex, .ref co])), (ex, .inr (8, [.int es, .ref ex1, .ref ex2, .ref ex3, .ref ex4])), (co, .inr (9, [.int cs, .ref co1, .ref co2, .ref co3, .ref co4, .ref co5, .ref co6, .ref co7, .int cl, .ref co8, .ref co9]))] sz) (fun o w1 => o = .returned (some (.int 0)) ∧ w1 = [(rd, .inr (1, [.ref so, .ref br, .ref wa, .int 0])), (wa, .inr (7, [.int 0, .ref wa1, .ref wa2, .ref wa3, .int 0, .ref wa4, .ref wa5, .ref wa6, .ref wa7, .int 0, .long 0, .long 0, .int 0, .ref wa8, .ref wa9, .ref wa10, .ref wa11, .ref ex, .ref co])), (ex, .inr (8, [.int 0, .ref ex1, .ref ex2, .ref ex3, .ref ex4])), (co, .inr (9, [.int 0, .ref co1, .ref co2, .ref co3, .ref co4, .ref co5, .ref co6, .ref co7, .int 0, .ref co8, .ref co9])), (so, .inr (3, [.ref tp, .int 0, .int 0, .int 1]))])) 0 0 (va_A [(rd, .inr (1, [.ref so, .ref br, .null, .int rc])), (so, .inr (3, [.null, .int sa, .int sl, .int sf])), (wa, .inr (7, [.int w_types, .ref wa1, .ref wa2, .ref wa3, .int w_funs, .ref wa4, .ref wa5, .ref wa6, .ref wa7, .int w_hasmem, .long w_first, .long w_most, .int w_globs, .ref wa8, .ref wa9, .ref wa10, .ref wa11, .ref ex, .ref co])), (ex, .inr (8, [.int es, .ref ex1, .ref ex2, .ref ex3, .ref ex4])), (co, .inr (9, [.int cs, .ref co1, .ref co2, .ref co3, .ref co4, .ref co5, .ref co6, .ref co7, .int cl, .ref co8, .ref co9]))] sz) := by
  refine ex_ofW (cc := b_Rd_reads) (maxL := 7) (ret := (some .boolean)) (by decide) rfl ?_
  intro p e s m args below meth c s₁ B hml hno hv
  obtain ⟨rfl, hsz, hP, hK, hD0, hE⟩ := hv
  have hx := B.exec
  have hb := B.bytes
  have hr := B.returns
  have hts : ∀ w ∈ lw_good, w.before _ s = true := fun w h => atoms_spec (ws := wx y_Rd_reads b_Rd_reads 7 (some .boolean)) B.pre w (List.mem_cons_of_mem _ h)
  have hown : s.vm.findClass R_Rd = some m.cls := findClass_of_methodNamed B.named
  have hlocks := B.notSynchronized
  have htr9 : e.platform.stackTraces = false := by rw [B.admits.platform]; exact htr
  subst hsz
  have hNS := xx_nostat hP
  have hD := hD0.self (sz := s.heap.size)
  generalize hAe : va_A [(rd, .inr (1, [.ref so, .ref br, .null, .int rc])), (so, .inr (3, [.null, .int sa, .int sl, .int sf])), (wa, .inr (7, [.int w_types, .ref wa1, .ref wa2, .ref wa3, .int w_funs, .ref wa4, .ref wa5, .ref wa6, .ref wa7, .int w_hasmem, .long w_first, .long w_most, .int w_globs, .ref wa8, .ref wa9, .ref wa10, .ref wa11, .ref ex, .ref co])), (ex, .inr (8, [.int es, .ref ex1, .ref ex2, .ref ex3, .ref ex4])), (co, .inr (9, [.int cs, .ref co1, .ref co2, .ref co3, .ref co4, .ref co5, .ref co6, .ref co7, .int cl, .ref co8, .ref co9]))] s.heap.size = A at hD hE hNS ⊢
  have hA : ∀ q : Nat, s.heap.size ≤ q → A q := fun q h => by rw [← hAe]; exact Or.inr h
  have hS : va_S A s.heap s.heap [] := va_S.rf
  have hl := lv_entry ([.ref rd, .ref tp, .int 0, .ref wa]) (n := 7) (Nat.le_of_ble_eq_true rfl)
  rw [lg_entry_eq]
  generalize (lg_sl ([.ref rd, .ref tp, .int 0, .ref wa]) ++ List.replicate (7 - (lg_sl ([.ref rd, .ref tp, .int 0, .ref wa])).length) Slot.unset).toArray = ls at hl ⊢
  have hl : lv_has ls 7 [(0, .ref rd), (1, .ref tp), (2, .int 0), (3, .ref wa)] := hl
  refine lv_aload_n hx hb d_Rd_reads_0 rfl (lv_at hl 0 rfl) ?_
  refine va_get (D := G) (ci := 1) (v := .ref so) (C := R_Rd) (T := F_Rd) (N := 4) hx hb hts i_Rd hown hK hP 0 rfl rfl 0 (by decide) (hts _ m_83) (fun _ h9 => h9) rfl d_Rd_reads_1 ?_
  refine lv_aload_n hx hb d_Rd_reads_4 rfl (lv_at hl 1 rfl) ?_
  refine lv_iload_n hx hb d_Rd_reads_5 rfl (lv_at hl 2 rfl) ?_
  refine xx_callV (wc := [(so, .inr (3, [.null, .int sa, .int sl, .int sf]))]) (wr := [(rd, .inr (1, [.ref so, .ref br, .null, .int rc])), (wa, .inr (7, [.int w_types, .ref wa1, .ref wa2, .ref wa3, .int w_funs, .ref wa4, .ref wa5, .ref wa6, .ref wa7, .int w_hasmem, .long w_first, .long w_most, .int w_globs, .ref wa8, .ref wa9, .ref wa10, .ref wa11, .ref ex, .ref co])), (ex, .inr (8, [.int es, .ref ex1, .ref ex2, .ref ex3, .ref ex4])), (co, .inr (9, [.int cs, .ref co1, .ref co2, .ref co3, .ref co4, .ref co5, .ref co6, .ref co7, .int cl, .ref co8, .ref co9]))]) (As := [.ref tp, .int 0]) (rest := []) ⟨hx, hb, hml, hown, hts⟩ xE_st hK hE hA (c_So_open_n l htr G cB cI cJ cZ so tp sa sl sf 0 _) (xw_V 2 hts m_582 m_583 m_584 m_3 m_585 (by decide +kernel) ⟨(Nat.le_of_ble_eq_true rfl), (Nat.le_of_ble_eq_true rfl)⟩) hP hD hS [1] [0, 2, 3, 4] rfl rfl (by decide) (by decide) (by decide) 0 3 rfl rfl rfl rfl hl.1 rfl (Nat.le_of_ble_eq_true rfl) d_Rd_reads_6 ⟨(Nat.le_of_ble_eq_true rfl), (Nat.le_of_ble_eq_true rfl)⟩ (fun v9 w9 H locs hp hP hD hS => ?_) (fun x9 w9 H9 l9 hp _ _ _ => absurd hp (by rintro ⟨ho, -⟩; cases ho))
  obtain ⟨ho, rfl⟩ := hp
  cases ho
  have hP : va_P G classes [(rd, .inr (1, [.ref so, .ref br, .null, .int rc])), (wa, .inr (7, [.int w_types, .ref wa1, .ref wa2, .ref wa3, .int w_funs, .ref wa4, .ref wa5, .ref wa6, .ref wa7, .int w_hasmem, .long w_first, .long w_most, .int w_globs, .ref wa8, .ref wa9, .ref wa10, .ref wa11, .ref ex, .ref co])), (ex, .inr (8, [.int es, .ref ex1, .ref ex2, .ref ex3, .ref ex4])), (co, .inr (9, [.int cs, .ref co1, .ref co2, .ref co3, .ref co4, .ref co5, .ref co6, .ref co7, .int cl, .ref co8, .ref co9])), (so, .inr (3, [.ref tp, .int 0, .int 0, .int 0]))] H := hP
  have hD : va_D A [(rd, .inr (1, [.ref so, .ref br, .null, .int rc])), (wa, .inr (7, [.int w_types, .ref wa1, .ref wa2, .ref wa3, .int w_funs, .ref wa4, .ref wa5, .ref wa6, .ref wa7, .int w_hasmem, .long w_first, .long w_most, .int w_globs, .ref wa8, .ref wa9, .ref wa10, .ref wa11, .ref ex, .ref co])), (ex, .inr (8, [.int es, .ref ex1, .ref ex2, .ref ex3, .ref ex4])), (co, .inr (9, [.int cs, .ref co1, .ref co2, .ref co3, .ref co4, .ref co5, .ref co6, .ref co7, .int cl, .ref co8, .ref co9])), (so, .inr (3, [.ref tp, .int 0, .int 0, .int 0]))] := hD
  refine lv_aload_n hx hb d_Rd_reads_9 rfl (lv_at hl 0 rfl) ?_
  refine lv_aload_n hx hb d_Rd_reads_10 rfl (lv_at hl 3 rfl) ?_
  refine va_put (D := G) (ci := 1) (v := .ref wa) (ty := .object "WaferRunner$Wafer") (C := R_Rd) (T := F_Rd) (N := 4) hx hb hts i_Rd t_Rd t_Rd_ok n_Rd hown hK hP hD hS 0 rfl rfl 2 (by decide) (hts _ m_85) (fun _ h9 => h9) rfl (by decide +kernel) rfl rfl (Nat.le_of_ble_eq_true rfl) d_Rd_reads_11 (fun H locs hP hD hS => ?_)
  have hP : va_P G classes [(rd, .inr (1, [.ref so, .ref br, .ref wa, .int rc])), (wa, .inr (7, [.int w_types, .ref wa1, .ref wa2, .ref wa3, .int w_funs, .ref wa4, .ref wa5, .ref wa6, .ref wa7, .int w_hasmem, .long w_first, .long w_most, .int w_globs, .ref wa8, .ref wa9, .ref wa10, .ref wa11, .ref ex, .ref co])), (ex, .inr (8, [.int es, .ref ex1, .ref ex2, .ref ex3, .ref ex4])), (co, .inr (9, [.int cs, .ref co1, .ref co2, .ref co3, .ref co4, .ref co5, .ref co6, .ref co7, .int cl, .ref co8, .ref co9])), (so, .inr (3, [.ref tp, .int 0, .int 0, .int 0]))] H := hP
  have hD : va_D A [(rd, .inr (1, [.ref so, .ref br, .ref wa, .int rc])), (wa, .inr (7, [.int w_types, .ref wa1, .ref wa2, .ref wa3, .int w_funs, .ref wa4, .ref wa5, .ref wa6, .ref wa7, .int w_hasmem, .long w_first, .long w_most, .int w_globs, .ref wa8, .ref wa9, .ref wa10, .ref wa11, .ref ex, .ref co])), (ex, .inr (8, [.int es, .ref ex1, .ref ex2, .ref ex3, .ref ex4])), (co, .inr (9, [.int cs, .ref co1, .ref co2, .ref co3, .ref co4, .ref co5, .ref co6, .ref co7, .int cl, .ref co8, .ref co9])), (so, .inr (3, [.ref tp, .int 0, .int 0, .int 0]))] := hD
  refine lv_aload_n hx hb d_Rd_reads_14 rfl (lv_at hl 0 rfl) ?_
  refine va_get (D := G) (ci := 1) (v := .ref wa) (C := R_Rd) (T := F_Rd) (N := 4) hx hb hts i_Rd hown hK hP 0 rfl rfl 2 (by decide) (hts _ m_85) (fun _ h9 => h9) rfl d_Rd_reads_15 ?_
  refine xx_callV (wc := [(wa, .inr (7, [.int w_types, .ref wa1, .ref wa2, .ref wa3, .int w_funs, .ref wa4, .ref wa5, .ref wa6, .ref wa7, .int w_hasmem, .long w_first, .long w_most, .int w_globs, .ref wa8, .ref wa9, .ref wa10, .ref wa11, .ref ex, .ref co])), (ex, .inr (8, [.int es, .ref ex1, .ref ex2, .ref ex3, .ref ex4])), (co, .inr (9, [.int cs, .ref co1, .ref co2, .ref co3, .ref co4, .ref co5, .ref co6, .ref co7, .int cl, .ref co8, .ref co9]))]) (wr := [(rd, .inr (1, [.ref so, .ref br, .ref wa, .int rc])), (so, .inr (3, [.ref tp, .int 0, .int 0, .int 0]))]) (As := []) (rest := []) ⟨hx, hb, hml, hown, hts⟩ xE_st hK hE hA (c_Wa_clear l htr G cB cI cJ cZ wa wa1 wa2 wa3 wa4 wa5 wa6 wa7 wa8 wa9 wa10 wa11 w_types w_funs w_hasmem w_globs w_first w_most ex ex1 ex2 ex3 ex4 es co co1 co2 co3 co4 co5 co6 co7 co8 co9 cs cl _) (xw_V 0 hts m_586 m_587 m_588 m_8 m_589 (by decide +kernel) ⟨(Nat.le_of_ble_eq_true rfl), (Nat.le_of_ble_eq_true rfl)⟩) hP hD hS [1, 2, 3] [0, 4] rfl rfl (by decide) (by decide) (by decide) 0 7 rfl rfl rfl rfl hl.1 rfl (Nat.le_of_ble_eq_true rfl) d_Rd_reads_18 ⟨(Nat.le_of_ble_eq_true rfl), (Nat.le_of_ble_eq_true rfl)⟩ (fun v9 w9 H locs hp hP hD hS => ?_) (fun x9 w9 H9 l9 hp _ _ _ => absurd hp (by rintro ⟨ho, -⟩; cases ho))
  obtain ⟨ho, rfl⟩ := hp
  cases ho
  have hP : va_P G classes [(rd, .inr (1, [.ref so, .ref br, .ref wa, .int rc])), (so, .inr (3, [.ref tp, .int 0, .int 0, .int 0])), (wa, .inr (7, [.int 0, .ref wa1, .ref wa2, .ref wa3, .int 0, .ref wa4, .ref wa5, .ref wa6, .ref wa7, .int 0, .long 0, .long 0, .int 0, .ref wa8, .ref wa9, .ref wa10, .ref wa11, .ref ex, .ref co])), (ex, .inr (8, [.int 0, .ref ex1, .ref ex2, .ref ex3, .ref ex4])), (co, .inr (9, [.int 0, .ref co1, .ref co2, .ref co3, .ref co4, .ref co5, .ref co6, .ref co7, .int 0, .ref co8, .ref co9]))] H := hP
  have hD : va_D A [(rd, .inr (1, [.ref so, .ref br, .ref wa, .int rc])), (so, .inr (3, [.ref tp, .int 0, .int 0, .int 0])), (wa, .inr (7, [.int 0, .ref wa1, .ref wa2, .ref wa3, .int 0, .ref wa4, .ref wa5, .ref wa6, .ref wa7, .int 0, .long 0, .long 0, .int 0, .ref wa8, .ref wa9, .ref wa10, .ref wa11, .ref ex, .ref co])), (ex, .inr (8, [.int 0, .ref ex1, .ref ex2, .ref ex3, .ref ex4])), (co, .inr (9, [.int 0, .ref co1, .ref co2, .ref co3, .ref co4, .ref co5, .ref co6, .ref co7, .int 0, .ref co8, .ref co9]))] := hD
  refine lv_aload_n hx hb d_Rd_reads_21 rfl (lv_at hl 0 rfl) ?_
  refine lv_iconst (v := 0) hx hb d_Rd_reads_22 (by decide) ?_
  refine va_put (D := G) (ci := 1) (v := .int 0) (ty := .int) (C := R_Rd) (T := F_Rd) (N := 4) hx hb hts i_Rd t_Rd t_Rd_ok n_Rd hown hK hP hD hS 0 rfl rfl 3 (by decide) (hts _ m_86) (fun _ h9 => h9) rfl (by decide +kernel) rfl rfl (Nat.le_of_ble_eq_true rfl) d_Rd_reads_23 (fun H locs hP hD hS => ?_)
  have hP : va_P G classes [(rd, .inr (1, [.ref so, .ref br, .ref wa, .int 0])), (so, .inr (3, [.ref tp, .int 0, .int 0, .int 0])), (wa, .inr (7, [.int 0, .ref wa1, .ref wa2, .ref wa3, .int 0, .ref wa4, .ref wa5, .ref wa6, .ref wa7, .int 0, .long 0, .long 0, .int 0, .ref wa8, .ref wa9, .ref wa10, .ref wa11, .ref ex, .ref co])), (ex, .inr (8, [.int 0, .ref ex1, .ref ex2, .ref ex3, .ref ex4])), (co, .inr (9, [.int 0, .ref co1, .ref co2, .ref co3, .ref co4, .ref co5, .ref co6, .ref co7, .int 0, .ref co8, .ref co9]))] H := hP
  have hD : va_D A [(rd, .inr (1, [.ref so, .ref br, .ref wa, .int 0])), (so, .inr (3, [.ref tp, .int 0, .int 0, .int 0])), (wa, .inr (7, [.int 0, .ref wa1, .ref wa2, .ref wa3, .int 0, .ref wa4, .ref wa5, .ref wa6, .ref wa7, .int 0, .long 0, .long 0, .int 0, .ref wa8, .ref wa9, .ref wa10, .ref wa11, .ref ex, .ref co])), (ex, .inr (8, [.int 0, .ref ex1, .ref ex2, .ref ex3, .ref ex4])), (co, .inr (9, [.int 0, .ref co1, .ref co2, .ref co3, .ref co4, .ref co5, .ref co6, .ref co7, .int 0, .ref co8, .ref co9]))] := hD
  refine lv_iconst (v := 0) hx hb d_Rd_reads_26 (by decide) ?_
  refine lv_istore (lv' := [(4, .int 0), (0, .ref rd), (1, .ref tp), (2, .int 0), (3, .ref wa)]) hx hb d_Rd_reads_27 hl (by decide) rfl (fun ls hl => ?_)
  refine lv_iload hx hb d_Rd_reads_29 (lv_at hl 0 rfl) ?_
  obtain ⟨T_HEAD, hZT_HEAD, hT_HEAD⟩ := hE.2.2.2.2.2.1
  refine va_gets hx hb hZT_HEAD hS hown (hts _ m_594) (fun _ h9 => h9) d_Rd_reads_31 ?_
  refine va_tlen (v := 8) hx hb hT_HEAD hS rfl d_Rd_reads_34 ?_
  refine lv_icmp_ge (tgt := 57) hx hb d_Rd_reads_35 (by decide) (fun c_1 => absurd c_1 (by decide)) (fun c_1 => ?_)
  refine lv_aload_n hx hb d_Rd_reads_38 rfl (lv_at hl 1 rfl) ?_
  refine va_get (D := G) (ci := 1) (v := .ref so) (C := R_Rd) (T := F_Rd) (N := 4) hx hb hts i_Rd hown hK hP 0 rfl rfl 0 (by decide) (hts _ m_83) (fun _ h9 => h9) rfl d_Rd_reads_39 ?_
  refine va_gets hx hb hZT_HEAD hS hown (hts _ m_594) (fun _ h9 => h9) d_Rd_reads_42 ?_
  refine lv_iload hx hb d_Rd_reads_45 (lv_at hl 0 rfl) ?_
  refine va_ti (v := .int 0) hx hb hT_HEAD hS (by unfold vp_in; decide) (by decide) d_Rd_reads_47 ?_
  refine xx_callV (wc := [(so, .inr (3, [.ref tp, .int 0, .int 0, .int 0]))]) (wr := [(rd, .inr (1, [.ref so, .ref br, .ref wa, .int 0])), (wa, .inr (7, [.int 0, .ref wa1, .ref wa2, .ref wa3, .int 0, .ref wa4, .ref wa5, .ref wa6, .ref wa7, .int 0, .long 0, .long 0, .int 0, .ref wa8, .ref wa9, .ref wa10, .ref wa11, .ref ex, .ref co])), (ex, .inr (8, [.int 0, .ref ex1, .ref ex2, .ref ex3, .ref ex4])), (co, .inr (9, [.int 0, .ref co1, .ref co2, .ref co3, .ref co4, .ref co5, .ref co6, .ref co7, .int 0, .ref co8, .ref co9]))]) (As := [.int 0]) (rest := []) ⟨hx, hb, hml, hown, hts⟩ xE_st hK hE hA (c_So_require_x l htr G cB cI cJ cZ so tp 0 0 0 0 (by first | exact Or.inl (by decide) | exact Or.inr (by decide)) _) (xw_V 1 hts m_596 m_597 m_598 m_3 m_599 (by decide +kernel) ⟨(Nat.le_of_ble_eq_true rfl), (Nat.le_of_ble_eq_true rfl)⟩) hP hD hS [1] [0, 2, 3, 4] rfl rfl (by decide) (by decide) (by decide) 0 3 rfl rfl rfl rfl hl.1 rfl (Nat.le_of_ble_eq_true rfl) d_Rd_reads_48 ⟨(Nat.le_of_ble_eq_true rfl), (Nat.le_of_ble_eq_true rfl)⟩ (fun v9 w9 H locs hp hP hD hS => ?_) (fun x9 w9 H9 l9 hp _ _ _ => absurd hp (by rintro ⟨ho, -⟩; cases ho))
  obtain ⟨ho, rfl⟩ := hp
  cases ho
  have hP : va_P G classes [(rd, .inr (1, [.ref so, .ref br, .ref wa, .int 0])), (wa, .inr (7, [.int 0, .ref wa1, .ref wa2, .ref wa3, .int 0, .ref wa4, .ref wa5, .ref wa6, .ref wa7, .int 0, .long 0, .long 0, .int 0, .ref wa8, .ref wa9, .ref wa10, .ref wa11, .ref ex, .ref co])), (ex, .inr (8, [.int 0, .ref ex1, .ref ex2, .ref ex3, .ref ex4])), (co, .inr (9, [.int 0, .ref co1, .ref co2, .ref co3, .ref co4, .ref co5, .ref co6, .ref co7, .int 0, .ref co8, .ref co9])), (so, .inr (3, [.ref tp, .int 0, .int 0, .int 1]))] H := hP
  have hD : va_D A [(rd, .inr (1, [.ref so, .ref br, .ref wa, .int 0])), (wa, .inr (7, [.int 0, .ref wa1, .ref wa2, .ref wa3, .int 0, .ref wa4, .ref wa5, .ref wa6, .ref wa7, .int 0, .long 0, .long 0, .int 0, .ref wa8, .ref wa9, .ref wa10, .ref wa11, .ref ex, .ref co])), (ex, .inr (8, [.int 0, .ref ex1, .ref ex2, .ref ex3, .ref ex4])), (co, .inr (9, [.int 0, .ref co1, .ref co2, .ref co3, .ref co4, .ref co5, .ref co6, .ref co7, .int 0, .ref co8, .ref co9])), (so, .inr (3, [.ref tp, .int 0, .int 0, .int 1]))] := hD
  refine lv_iinc (v := 1) (lv' := [(4, .int 1), (0, .ref rd), (1, .ref tp), (2, .int 0), (3, .ref wa)]) hx hb d_Rd_reads_51 hl (k := 0) rfl (by first | rfl | decide | exact nI_add _ _) (by decide) rfl (fun ls hl => ?_)
  refine lv_goto (tgt := 29) hx hb d_Rd_reads_54 (by decide) ?_
  refine lv_iload hx hb d_Rd_reads_29 (lv_at hl 0 rfl) ?_
  refine va_gets hx hb hZT_HEAD hS hown (hts _ m_594) (fun _ h9 => h9) d_Rd_reads_31 ?_
  refine va_tlen (v := 8) hx hb hT_HEAD hS rfl d_Rd_reads_34 ?_
  refine lv_icmp_ge (tgt := 57) hx hb d_Rd_reads_35 (by decide) (fun c_2 => absurd c_2 (by decide)) (fun c_2 => ?_)
  refine lv_aload_n hx hb d_Rd_reads_38 rfl (lv_at hl 1 rfl) ?_
  refine va_get (D := G) (ci := 1) (v := .ref so) (C := R_Rd) (T := F_Rd) (N := 4) hx hb hts i_Rd hown hK hP 0 rfl rfl 0 (by decide) (hts _ m_83) (fun _ h9 => h9) rfl d_Rd_reads_39 ?_
  refine va_gets hx hb hZT_HEAD hS hown (hts _ m_594) (fun _ h9 => h9) d_Rd_reads_42 ?_
  refine lv_iload hx hb d_Rd_reads_45 (lv_at hl 0 rfl) ?_
  refine va_ti (v := .int 97) hx hb hT_HEAD hS (by unfold vp_in; decide) (by decide) d_Rd_reads_47 ?_
  refine xx_callV (wc := [(so, .inr (3, [.ref tp, .int 0, .int 0, .int 1]))]) (wr := [(rd, .inr (1, [.ref so, .ref br, .ref wa, .int 0])), (wa, .inr (7, [.int 0, .ref wa1, .ref wa2, .ref wa3, .int 0, .ref wa4, .ref wa5, .ref wa6, .ref wa7, .int 0, .long 0, .long 0, .int 0, .ref wa8, .ref wa9, .ref wa10, .ref wa11, .ref ex, .ref co])), (ex, .inr (8, [.int 0, .ref ex1, .ref ex2, .ref ex3, .ref ex4])), (co, .inr (9, [.int 0, .ref co1, .ref co2, .ref co3, .ref co4, .ref co5, .ref co6, .ref co7, .int 0, .ref co8, .ref co9]))]) (As := [.int 97]) (rest := []) ⟨hx, hb, hml, hown, hts⟩ xE_st hK hE hA (c_So_require_x l htr G cB cI cJ cZ so tp 0 0 1 97 (by first | exact Or.inl (by decide) | exact Or.inr (by decide)) _) (xw_V 1 hts m_596 m_597 m_598 m_3 m_599 (by decide +kernel) ⟨(Nat.le_of_ble_eq_true rfl), (Nat.le_of_ble_eq_true rfl)⟩) hP hD hS [4] [0, 1, 2, 3] rfl rfl (by decide) (by decide) (by decide) 0 3 rfl rfl rfl rfl hl.1 rfl (Nat.le_of_ble_eq_true rfl) d_Rd_reads_48 ⟨(Nat.le_of_ble_eq_true rfl), (Nat.le_of_ble_eq_true rfl)⟩ (fun v9 w9 H locs hp hP hD hS => ?_) (fun x9 w9 H9 l9 hp _ _ _ => absurd hp (by rintro ⟨ho, -⟩; cases ho))
  obtain ⟨ho, rfl⟩ := hp
  cases ho
  have hP : va_P G classes [(rd, .inr (1, [.ref so, .ref br, .ref wa, .int 0])), (wa, .inr (7, [.int 0, .ref wa1, .ref wa2, .ref wa3, .int 0, .ref wa4, .ref wa5, .ref wa6, .ref wa7, .int 0, .long 0, .long 0, .int 0, .ref wa8, .ref wa9, .ref wa10, .ref wa11, .ref ex, .ref co])), (ex, .inr (8, [.int 0, .ref ex1, .ref ex2, .ref ex3, .ref ex4])), (co, .inr (9, [.int 0, .ref co1, .ref co2, .ref co3, .ref co4, .ref co5, .ref co6, .ref co7, .int 0, .ref co8, .ref co9])), (so, .inr (3, [.ref tp, .int 0, .int 0, .int 1]))] H := hP
  have hD : va_D A [(rd, .inr (1, [.ref so, .ref br, .ref wa, .int 0])), (wa, .inr (7, [.int 0, .ref wa1, .ref wa2, .ref wa3, .int 0, .ref wa4, .ref wa5, .ref wa6, .ref wa7, .int 0, .long 0, .long 0, .int 0, .ref wa8, .ref wa9, .ref wa10, .ref wa11, .ref ex, .ref co])), (ex, .inr (8, [.int 0, .ref ex1, .ref ex2, .ref ex3, .ref ex4])), (co, .inr (9, [.int 0, .ref co1, .ref co2, .ref co3, .ref co4, .ref co5, .ref co6, .ref co7, .int 0, .ref co8, .ref co9])), (so, .inr (3, [.ref tp, .int 0, .int 0, .int 1]))] := hD
  refine lv_iinc (v := 2) (lv' := [(4, .int 2), (0, .ref rd), (1, .ref tp), (2, .int 0), (3, .ref wa)]) hx hb d_Rd_reads_51 hl (k := 0) rfl (by first | rfl | decide | exact nI_add _ _) (by decide) rfl (fun ls hl => ?_)
  refine lv_goto (tgt := 29) hx hb d_Rd_reads_54 (by decide) ?_
  refine lv_iload hx hb d_Rd_reads_29 (lv_at hl 0 rfl) ?_
  refine va_gets hx hb hZT_HEAD hS hown (hts _ m_594) (fun _ h9 => h9) d_Rd_reads_31 ?_
  refine va_tlen (v := 8) hx hb hT_HEAD hS rfl d_Rd_reads_34 ?_
  refine lv_icmp_ge (tgt := 57) hx hb d_Rd_reads_35 (by decide) (fun c_3 => absurd c_3 (by decide)) (fun c_3 => ?_)
  refine lv_aload_n hx hb d_Rd_reads_38 rfl (lv_at hl 1 rfl) ?_
  refine va_get (D := G) (ci := 1) (v := .ref so) (C := R_Rd) (T := F_Rd) (N := 4) hx hb hts i_Rd hown hK hP 0 rfl rfl 0 (by decide) (hts _ m_83) (fun _ h9 => h9) rfl d_Rd_reads_39 ?_
  refine va_gets hx hb hZT_HEAD hS hown (hts _ m_594) (fun _ h9 => h9) d_Rd_reads_42 ?_
  refine lv_iload hx hb d_Rd_reads_45 (lv_at hl 0 rfl) ?_
  refine va_ti (v := .int 115) hx hb hT_HEAD hS (by unfold vp_in; decide) (by decide) d_Rd_reads_47 ?_
  refine xx_callV (wc := [(so, .inr (3, [.ref tp, .int 0, .int 0, .int 1]))]) (wr := [(rd, .inr (1, [.ref so, .ref br, .ref wa, .int 0])), (wa, .inr (7, [.int 0, .ref wa1, .ref wa2, .ref wa3, .int 0, .ref wa4, .ref wa5, .ref wa6, .ref wa7, .int 0, .long 0, .long 0, .int 0, .ref wa8, .ref wa9, .ref wa10, .ref wa11, .ref ex, .ref co])), (ex, .inr (8, [.int 0, .ref ex1, .ref ex2, .ref ex3, .ref ex4])), (co, .inr (9, [.int 0, .ref co1, .ref co2, .ref co3, .ref co4, .ref co5, .ref co6, .ref co7, .int 0, .ref co8, .ref co9]))]) (As := [.int 115]) (rest := []) ⟨hx, hb, hml, hown, hts⟩ xE_st hK hE hA (c_So_require_x l htr G cB cI cJ cZ so tp 0 0 1 115 (by first | exact Or.inl (by decide) | exact Or.inr (by decide)) _) (xw_V 1 hts m_596 m_597 m_598 m_3 m_599 (by decide +kernel) ⟨(Nat.le_of_ble_eq_true rfl), (Nat.le_of_ble_eq_true rfl)⟩) hP hD hS [4] [0, 1, 2, 3] rfl rfl (by decide) (by decide) (by decide) 0 3 rfl rfl rfl rfl hl.1 rfl (Nat.le_of_ble_eq_true rfl) d_Rd_reads_48 ⟨(Nat.le_of_ble_eq_true rfl), (Nat.le_of_ble_eq_true rfl)⟩ (fun v9 w9 H locs hp hP hD hS => ?_) (fun x9 w9 H9 l9 hp _ _ _ => absurd hp (by rintro ⟨ho, -⟩; cases ho))
  obtain ⟨ho, rfl⟩ := hp
  cases ho
  have hP : va_P G classes [(rd, .inr (1, [.ref so, .ref br, .ref wa, .int 0])), (wa, .inr (7, [.int 0, .ref wa1, .ref wa2, .ref wa3, .int 0, .ref wa4, .ref wa5, .ref wa6, .ref wa7, .int 0, .long 0, .long 0, .int 0, .ref wa8, .ref wa9, .ref wa10, .ref wa11, .ref ex, .ref co])), (ex, .inr (8, [.int 0, .ref ex1, .ref ex2, .ref ex3, .ref ex4])), (co, .inr (9, [.int 0, .ref co1, .ref co2, .ref co3, .ref co4, .ref co5, .ref co6, .ref co7, .int 0, .ref co8, .ref co9])), (so, .inr (3, [.ref tp, .int 0, .int 0, .int 1]))] H := hP
  have hD : va_D A [(rd, .inr (1, [.ref so, .ref br, .ref wa, .int 0])), (wa, .inr (7, [.int 0, .ref wa1, .ref wa2, .ref wa3, .int 0, .ref wa4, .ref wa5, .ref wa6, .ref wa7, .int 0, .long 0, .long 0, .int 0, .ref wa8, .ref wa9, .ref wa10, .ref wa11, .ref ex, .ref co])), (ex, .inr (8, [.int 0, .ref ex1, .ref ex2, .ref ex3, .ref ex4])), (co, .inr (9, [.int 0, .ref co1, .ref co2, .ref co3, .ref co4, .ref co5, .ref co6, .ref co7, .int 0, .ref co8, .ref co9])), (so, .inr (3, [.ref tp, .int 0, .int 0, .int 1]))] := hD
  refine lv_iinc (v := 3) (lv' := [(4, .int 3), (0, .ref rd), (1, .ref tp), (2, .int 0), (3, .ref wa)]) hx hb d_Rd_reads_51 hl (k := 0) rfl (by first | rfl | decide | exact nI_add _ _) (by decide) rfl (fun ls hl => ?_)
  refine lv_goto (tgt := 29) hx hb d_Rd_reads_54 (by decide) ?_
  refine lv_iload hx hb d_Rd_reads_29 (lv_at hl 0 rfl) ?_
  refine va_gets hx hb hZT_HEAD hS hown (hts _ m_594) (fun _ h9 => h9) d_Rd_reads_31 ?_
  refine va_tlen (v := 8) hx hb hT_HEAD hS rfl d_Rd_reads_34 ?_
  refine lv_icmp_ge (tgt := 57) hx hb d_Rd_reads_35 (by decide) (fun c_4 => absurd c_4 (by decide)) (fun c_4 => ?_)
  refine lv_aload_n hx hb d_Rd_reads_38 rfl (lv_at hl 1 rfl) ?_
  refine va_get (D := G) (ci := 1) (v := .ref so) (C := R_Rd) (T := F_Rd) (N := 4) hx hb hts i_Rd hown hK hP 0 rfl rfl 0 (by decide) (hts _ m_83) (fun _ h9 => h9) rfl d_Rd_reads_39 ?_
  refine va_gets hx hb hZT_HEAD hS hown (hts _ m_594) (fun _ h9 => h9) d_Rd_reads_42 ?_
  refine lv_iload hx hb d_Rd_reads_45 (lv_at hl 0 rfl) ?_
  refine va_ti (v := .int 109) hx hb hT_HEAD hS (by unfold vp_in; decide) (by decide) d_Rd_reads_47 ?_
  refine xx_callV (wc := [(so, .inr (3, [.ref tp, .int 0, .int 0, .int 1]))]) (wr := [(rd, .inr (1, [.ref so, .ref br, .ref wa, .int 0])), (wa, .inr (7, [.int 0, .ref wa1, .ref wa2, .ref wa3, .int 0, .ref wa4, .ref wa5, .ref wa6, .ref wa7, .int 0, .long 0, .long 0, .int 0, .ref wa8, .ref wa9, .ref wa10, .ref wa11, .ref ex, .ref co])), (ex, .inr (8, [.int 0, .ref ex1, .ref ex2, .ref ex3, .ref ex4])), (co, .inr (9, [.int 0, .ref co1, .ref co2, .ref co3, .ref co4, .ref co5, .ref co6, .ref co7, .int 0, .ref co8, .ref co9]))]) (As := [.int 109]) (rest := []) ⟨hx, hb, hml, hown, hts⟩ xE_st hK hE hA (c_So_require_x l htr G cB cI cJ cZ so tp 0 0 1 109 (by first | exact Or.inl (by decide) | exact Or.inr (by decide)) _) (xw_V 1 hts m_596 m_597 m_598 m_3 m_599 (by decide +kernel) ⟨(Nat.le_of_ble_eq_true rfl), (Nat.le_of_ble_eq_true rfl)⟩) hP hD hS [4] [0, 1, 2, 3] rfl rfl (by decide) (by decide) (by decide) 0 3 rfl rfl rfl rfl hl.1 rfl (Nat.le_of_ble_eq_true rfl) d_Rd_reads_48 ⟨(Nat.le_of_ble_eq_true rfl), (Nat.le_of_ble_eq_true rfl)⟩ (fun v9 w9 H locs hp hP hD hS => ?_) (fun x9 w9 H9 l9 hp _ _ _ => absurd hp (by rintro ⟨ho, -⟩; cases ho))
  obtain ⟨ho, rfl⟩ := hp
  cases ho
  have hP : va_P G classes [(rd, .inr (1, [.ref so, .ref br, .ref wa, .int 0])), (wa, .inr (7, [.int 0, .ref wa1, .ref wa2, .ref wa3, .int 0, .ref wa4, .ref wa5, .ref wa6, .ref wa7, .int 0, .long 0, .long 0, .int 0, .ref wa8, .ref wa9, .ref wa10, .ref wa11, .ref ex, .ref co])), (ex, .inr (8, [.int 0, .ref ex1, .ref ex2, .ref ex3, .ref ex4])), (co, .inr (9, [.int 0, .ref co1, .ref co2, .ref co3, .ref co4, .ref co5, .ref co6, .ref co7, .int 0, .ref co8, .ref co9])), (so, .inr (3, [.ref tp, .int 0, .int 0, .int 1]))] H := hP
  have hD : va_D A [(rd, .inr (1, [.ref so, .ref br, .ref wa, .int 0])), (wa, .inr (7, [.int 0, .ref wa1, .ref wa2, .ref wa3, .int 0, .ref wa4, .ref wa5, .ref wa6, .ref wa7, .int 0, .long 0, .long 0, .int 0, .ref wa8, .ref wa9, .ref wa10, .ref wa11, .ref ex, .ref co])), (ex, .inr (8, [.int 0, .ref ex1, .ref ex2, .ref ex3, .ref ex4])), (co, .inr (9, [.int 0, .ref co1, .ref co2, .ref co3, .ref co4, .ref co5, .ref co6, .ref co7, .int 0, .ref co8, .ref co9])), (so, .inr (3, [.ref tp, .int 0, .int 0, .int 1]))] := hD
  refine lv_iinc (v := 4) (lv' := [(4, .int 4), (0, .ref rd), (1, .ref tp), (2, .int 0), (3, .ref wa)]) hx hb d_Rd_reads_51 hl (k := 0) rfl (by first | rfl | decide | exact nI_add _ _) (by decide) rfl (fun ls hl => ?_)
  refine lv_goto (tgt := 29) hx hb d_Rd_reads_54 (by decide) ?_
  refine lv_iload hx hb d_Rd_reads_29 (lv_at hl 0 rfl) ?_
  refine va_gets hx hb hZT_HEAD hS hown (hts _ m_594) (fun _ h9 => h9) d_Rd_reads_31 ?_
  refine va_tlen (v := 8) hx hb hT_HEAD hS rfl d_Rd_reads_34 ?_
  refine lv_icmp_ge (tgt := 57) hx hb d_Rd_reads_35 (by decide) (fun c_5 => absurd c_5 (by decide)) (fun c_5 => ?_)
  refine lv_aload_n hx hb d_Rd_reads_38 rfl (lv_at hl 1 rfl) ?_
  refine va_get (D := G) (ci := 1) (v := .ref so) (C := R_Rd) (T := F_Rd) (N := 4) hx hb hts i_Rd hown hK hP 0 rfl rfl 0 (by decide) (hts _ m_83) (fun _ h9 => h9) rfl d_Rd_reads_39 ?_
  refine va_gets hx hb hZT_HEAD hS hown (hts _ m_594) (fun _ h9 => h9) d_Rd_reads_42 ?_
  refine lv_iload hx hb d_Rd_reads_45 (lv_at hl 0 rfl) ?_
  refine va_ti (v := .int 1) hx hb hT_HEAD hS (by unfold vp_in; decide) (by decide) d_Rd_reads_47 ?_
  refine xx_callV (wc := [(so, .inr (3, [.ref tp, .int 0, .int 0, .int 1]))]) (wr := [(rd, .inr (1, [.ref so, .ref br, .ref wa, .int 0])), (wa, .inr (7, [.int 0, .ref wa1, .ref wa2, .ref wa3, .int 0, .ref wa4, .ref wa5, .ref wa6, .ref wa7, .int 0, .long 0, .long 0, .int 0, .ref wa8, .ref wa9, .ref wa10, .ref wa11, .ref ex, .ref co])), (ex, .inr (8, [.int 0, .ref ex1, .ref ex2, .ref ex3, .ref ex4])), (co, .inr (9, [.int 0, .ref co1, .ref co2, .ref co3, .ref co4, .ref co5, .ref co6, .ref co7, .int 0, .ref co8, .ref co9]))]) (As := [.int 1]) (rest := []) ⟨hx, hb, hml, hown, hts⟩ xE_st hK hE hA (c_So_require_x l htr G cB cI cJ cZ so tp 0 0 1 1 (by first | exact Or.inl (by decide) | exact Or.inr (by decide)) _) (xw_V 1 hts m_596 m_597 m_598 m_3 m_599 (by decide +kernel) ⟨(Nat.le_of_ble_eq_true rfl), (Nat.le_of_ble_eq_true rfl)⟩) hP hD hS [4] [0, 1, 2, 3] rfl rfl (by decide) (by decide) (by decide) 0 3 rfl rfl rfl rfl hl.1 rfl (Nat.le_of_ble_eq_true rfl) d_Rd_reads_48 ⟨(Nat.le_of_ble_eq_true rfl), (Nat.le_of_ble_eq_true rfl)⟩ (fun v9 w9 H locs hp hP hD hS => ?_) (fun x9 w9 H9 l9 hp _ _ _ => absurd hp (by rintro ⟨ho, -⟩; cases ho))
  obtain ⟨ho, rfl⟩ := hp
  cases ho
  have hP : va_P G classes [(rd, .inr (1, [.ref so, .ref br, .ref wa, .int 0])), (wa, .inr (7, [.int 0, .ref wa1, .ref wa2, .ref wa3, .int 0, .ref wa4, .ref wa5, .ref wa6, .ref wa7, .int 0, .long 0, .long 0, .int 0, .ref wa8, .ref wa9, .ref wa10, .ref wa11, .ref ex, .ref co])), (ex, .inr (8, [.int 0, .ref ex1, .ref ex2, .ref ex3, .ref ex4])), (co, .inr (9, [.int 0, .ref co1, .ref co2, .ref co3, .ref co4, .ref co5, .ref co6, .ref co7, .int 0, .ref co8, .ref co9])), (so, .inr (3, [.ref tp, .int 0, .int 0, .int 1]))] H := hP
  have hD : va_D A [(rd, .inr (1, [.ref so, .ref br, .ref wa, .int 0])), (wa, .inr (7, [.int 0, .ref wa1, .ref wa2, .ref wa3, .int 0, .ref wa4, .ref wa5, .ref wa6, .ref wa7, .int 0, .long 0, .long 0, .int 0, .ref wa8, .ref wa9, .ref wa10, .ref wa11, .ref ex, .ref co])), (ex, .inr (8, [.int 0, .ref ex1, .ref ex2, .ref ex3, .ref ex4])), (co, .inr (9, [.int 0, .ref co1, .ref co2, .ref co3, .ref co4, .ref co5, .ref co6, .ref co7, .int 0, .ref co8, .ref co9])), (so, .inr (3, [.ref tp, .int 0, .int 0, .int 1]))] := hD
  refine lv_iinc (v := 5) (lv' := [(4, .int 5), (0, .ref rd), (1, .ref tp), (2, .int 0), (3, .ref wa)]) hx hb d_Rd_reads_51 hl (k := 0) rfl (by first | rfl | decide | exact nI_add _ _) (by decide) rfl (fun ls hl => ?_)
  refine lv_goto (tgt := 29) hx hb d_Rd_reads_54 (by decide) ?_
  refine lv_iload hx hb d_Rd_reads_29 (lv_at hl 0 rfl) ?_
  refine va_gets hx hb hZT_HEAD hS hown (hts _ m_594) (fun _ h9 => h9) d_Rd_reads_31 ?_
  refine va_tlen (v := 8) hx hb hT_HEAD hS rfl d_Rd_reads_34 ?_
  refine lv_icmp_ge (tgt := 57) hx hb d_Rd_reads_35 (by decide) (fun c_6 => absurd c_6 (by decide)) (fun c_6 => ?_)
  refine lv_aload_n hx hb d_Rd_reads_38 rfl (lv_at hl 1 rfl) ?_
  refine va_get (D := G) (ci := 1) (v := .ref so) (C := R_Rd) (T := F_Rd) (N := 4) hx hb hts i_Rd hown hK hP 0 rfl rfl 0 (by decide) (hts _ m_83) (fun _ h9 => h9) rfl d_Rd_reads_39 ?_
  refine va_gets hx hb hZT_HEAD hS hown (hts _ m_594) (fun _ h9 => h9) d_Rd_reads_42 ?_
  refine lv_iload hx hb d_Rd_reads_45 (lv_at hl 0 rfl) ?_
  refine va_ti (v := .int 0) hx hb hT_HEAD hS (by unfold vp_in; decide) (by decide) d_Rd_reads_47 ?_
  refine xx_callV (wc := [(so, .inr (3, [.ref tp, .int 0, .int 0, .int 1]))]) (wr := [(rd, .inr (1, [.ref so, .ref br, .ref wa, .int 0])), (wa, .inr (7, [.int 0, .ref wa1, .ref wa2, .ref wa3, .int 0, .ref wa4, .ref wa5, .ref wa6, .ref wa7, .int 0, .long 0, .long 0, .int 0, .ref wa8, .ref wa9, .ref wa10, .ref wa11, .ref ex, .ref co])), (ex, .inr (8, [.int 0, .ref ex1, .ref ex2, .ref ex3, .ref ex4])), (co, .inr (9, [.int 0, .ref co1, .ref co2, .ref co3, .ref co4, .ref co5, .ref co6, .ref co7, .int 0, .ref co8, .ref co9]))]) (As := [.int 0]) (rest := []) ⟨hx, hb, hml, hown, hts⟩ xE_st hK hE hA (c_So_require_x l htr G cB cI cJ cZ so tp 0 0 1 0 (by first | exact Or.inl (by decide) | exact Or.inr (by decide)) _) (xw_V 1 hts m_596 m_597 m_598 m_3 m_599 (by decide +kernel) ⟨(Nat.le_of_ble_eq_true rfl), (Nat.le_of_ble_eq_true rfl)⟩) hP hD hS [4] [0, 1, 2, 3] rfl rfl (by decide) (by decide) (by decide) 0 3 rfl rfl rfl rfl hl.1 rfl (Nat.le_of_ble_eq_true rfl) d_Rd_reads_48 ⟨(Nat.le_of_ble_eq_true rfl), (Nat.le_of_ble_eq_true rfl)⟩ (fun v9 w9 H locs hp hP hD hS => ?_) (fun x9 w9 H9 l9 hp _ _ _ => absurd hp (by rintro ⟨ho, -⟩; cases ho))
  obtain ⟨ho, rfl⟩ := hp
  cases ho
  have hP : va_P G classes [(rd, .inr (1, [.ref so, .ref br, .ref wa, .int 0])), (wa, .inr (7, [.int 0, .ref wa1, .ref wa2, .ref wa3, .int 0, .ref wa4, .ref wa5, .ref wa6, .ref wa7, .int 0, .long 0, .long 0, .int 0, .ref wa8, .ref wa9, .ref wa10, .ref wa11, .ref ex, .ref co])), (ex, .inr (8, [.int 0, .ref ex1, .ref ex2, .ref ex3, .ref ex4])), (co, .inr (9, [.int 0, .ref co1, .ref co2, .ref co3, .ref co4, .ref co5, .ref co6, .ref co7, .int 0, .ref co8, .ref co9])), (so, .inr (3, [.ref tp, .int 0, .int 0, .int 1]))] H := hP
  have hD : va_D A [(rd, .inr (1, [.ref so, .ref br, .ref wa, .int 0])), (wa, .inr (7, [.int 0, .ref wa1, .ref wa2, .ref wa3, .int 0, .ref wa4, .ref wa5, .ref wa6, .ref wa7, .int 0, .long 0, .long 0, .int 0, .ref wa8, .ref wa9, .ref wa10, .ref wa11, .ref ex, .ref co])), (ex, .inr (8, [.int 0, .ref ex1, .ref ex2, .ref ex3, .ref ex4])), (co, .inr (9, [.int 0, .ref co1, .ref co2, .ref co3, .ref co4, .ref co5, .ref co6, .ref co7, .int 0, .ref co8, .ref co9])), (so, .inr (3, [.ref tp, .int 0, .int 0, .int 1]))] := hD
  refine lv_iinc (v := 6) (lv' := [(4, .int 6), (0, .ref rd), (1, .ref tp), (2, .int 0), (3, .ref wa)]) hx hb d_Rd_reads_51 hl (k := 0) rfl (by first | rfl | decide | exact nI_add _ _) (by decide) rfl (fun ls hl => ?_)
  refine lv_goto (tgt := 29) hx hb d_Rd_reads_54 (by decide) ?_
  refine lv_iload hx hb d_Rd_reads_29 (lv_at hl 0 rfl) ?_
  refine va_gets hx hb hZT_HEAD hS hown (hts _ m_594) (fun _ h9 => h9) d_Rd_reads_31 ?_
  refine va_tlen (v := 8) hx hb hT_HEAD hS rfl d_Rd_reads_34 ?_
  refine lv_icmp_ge (tgt := 57) hx hb d_Rd_reads_35 (by decide) (fun c_7 => absurd c_7 (by decide)) (fun c_7 => ?_)
  refine lv_aload_n hx hb d_Rd_reads_38 rfl (lv_at hl 1 rfl) ?_
  refine va_get (D := G) (ci := 1) (v := .ref so) (C := R_Rd) (T := F_Rd) (N := 4) hx hb hts i_Rd hown hK hP 0 rfl rfl 0 (by decide) (hts _ m_83) (fun _ h9 => h9) rfl d_Rd_reads_39 ?_
  refine va_gets hx hb hZT_HEAD hS hown (hts _ m_594) (fun _ h9 => h9) d_Rd_reads_42 ?_
  refine lv_iload hx hb d_Rd_reads_45 (lv_at hl 0 rfl) ?_
  refine va_ti (v := .int 0) hx hb hT_HEAD hS (by unfold vp_in; decide) (by decide) d_Rd_reads_47 ?_
  refine xx_callV (wc := [(so, .inr (3, [.ref tp, .int 0, .int 0, .int 1]))]) (wr := [(rd, .inr (1, [.ref so, .ref br, .ref wa, .int 0])), (wa, .inr (7, [.int 0, .ref wa1, .ref wa2, .ref wa3, .int 0, .ref wa4, .ref wa5, .ref wa6, .ref wa7, .int 0, .long 0, .long 0, .int 0, .ref wa8, .ref wa9, .ref wa10, .ref wa11, .ref ex, .ref co])), (ex, .inr (8, [.int 0, .ref ex1, .ref ex2, .ref ex3, .ref ex4])), (co, .inr (9, [.int 0, .ref co1, .ref co2, .ref co3, .ref co4, .ref co5, .ref co6, .ref co7, .int 0, .ref co8, .ref co9]))]) (As := [.int 0]) (rest := []) ⟨hx, hb, hml, hown, hts⟩ xE_st hK hE hA (c_So_require_x l htr G cB cI cJ cZ so tp 0 0 1 0 (by first | exact Or.inl (by decide) | exact Or.inr (by decide)) _) (xw_V 1 hts m_596 m_597 m_598 m_3 m_599 (by decide +kernel) ⟨(Nat.le_of_ble_eq_true rfl), (Nat.le_of_ble_eq_true rfl)⟩) hP hD hS [4] [0, 1, 2, 3] rfl rfl (by decide) (by decide) (by decide) 0 3 rfl rfl rfl rfl hl.1 rfl (Nat.le_of_ble_eq_true rfl) d_Rd_reads_48 ⟨(Nat.le_of_ble_eq_true rfl), (Nat.le_of_ble_eq_true rfl)⟩ (fun v9 w9 H locs hp hP hD hS => ?_) (fun x9 w9 H9 l9 hp _ _ _ => absurd hp (by rintro ⟨ho, -⟩; cases ho))
  obtain ⟨ho, rfl⟩ := hp
  cases ho
  have hP : va_P G classes [(rd, .inr (1, [.ref so, .ref br, .ref wa, .int 0])), (wa, .inr (7, [.int 0, .ref wa1, .ref wa2, .ref wa3, .int 0, .ref wa4, .ref wa5, .ref wa6, .ref wa7, .int 0, .long 0, .long 0, .int 0, .ref wa8, .ref wa9, .ref wa10, .ref wa11, .ref ex, .ref co])), (ex, .inr (8, [.int 0, .ref ex1, .ref ex2, .ref ex3, .ref ex4])), (co, .inr (9, [.int 0, .ref co1, .ref co2, .ref co3, .ref co4, .ref co5, .ref co6, .ref co7, .int 0, .ref co8, .ref co9])), (so, .inr (3, [.ref tp, .int 0, .int 0, .int 1]))] H := hP
  have hD : va_D A [(rd, .inr (1, [.ref so, .ref br, .ref wa, .int 0])), (wa, .inr (7, [.int 0, .ref wa1, .ref wa2, .ref wa3, .int 0, .ref wa4, .ref wa5, .ref wa6, .ref wa7, .int 0, .long 0, .long 0, .int 0, .ref wa8, .ref wa9, .ref wa10, .ref wa11, .ref ex, .ref co])), (ex, .inr (8, [.int 0, .ref ex1, .ref ex2, .ref ex3, .ref ex4])), (co, .inr (9, [.int 0, .ref co1, .ref co2, .ref co3, .ref co4, .ref co5, .ref co6, .ref co7, .int 0, .ref co8, .ref co9])), (so, .inr (3, [.ref tp, .int 0, .int 0, .int 1]))] := hD
  refine lv_iinc (v := 7) (lv' := [(4, .int 7), (0, .ref rd), (1, .ref tp), (2, .int 0), (3, .ref wa)]) hx hb d_Rd_reads_51 hl (k := 0) rfl (by first | rfl | decide | exact nI_add _ _) (by decide) rfl (fun ls hl => ?_)
  refine lv_goto (tgt := 29) hx hb d_Rd_reads_54 (by decide) ?_
  refine lv_iload hx hb d_Rd_reads_29 (lv_at hl 0 rfl) ?_
  refine va_gets hx hb hZT_HEAD hS hown (hts _ m_594) (fun _ h9 => h9) d_Rd_reads_31 ?_
  refine va_tlen (v := 8) hx hb hT_HEAD hS rfl d_Rd_reads_34 ?_
  refine lv_icmp_ge (tgt := 57) hx hb d_Rd_reads_35 (by decide) (fun c_8 => absurd c_8 (by decide)) (fun c_8 => ?_)
  refine lv_aload_n hx hb d_Rd_reads_38 rfl (lv_at hl 1 rfl) ?_
  refine va_get (D := G) (ci := 1) (v := .ref so) (C := R_Rd) (T := F_Rd) (N := 4) hx hb hts i_Rd hown hK hP 0 rfl rfl 0 (by decide) (hts _ m_83) (fun _ h9 => h9) rfl d_Rd_reads_39 ?_
  refine va_gets hx hb hZT_HEAD hS hown (hts _ m_594) (fun _ h9 => h9) d_Rd_reads_42 ?_
  refine lv_iload hx hb d_Rd_reads_45 (lv_at hl 0 rfl) ?_
  refine va_ti (v := .int 0) hx hb hT_HEAD hS (by unfold vp_in; decide) (by decide) d_Rd_reads_47 ?_
  refine xx_callV (wc := [(so, .inr (3, [.ref tp, .int 0, .int 0, .int 1]))]) (wr := [(rd, .inr (1, [.ref so, .ref br, .ref wa, .int 0])), (wa, .inr (7, [.int 0, .ref wa1, .ref wa2, .ref wa3, .int 0, .ref wa4, .ref wa5, .ref wa6, .ref wa7, .int 0, .long 0, .long 0, .int 0, .ref wa8, .ref wa9, .ref wa10, .ref wa11, .ref ex, .ref co])), (ex, .inr (8, [.int 0, .ref ex1, .ref ex2, .ref ex3, .ref ex4])), (co, .inr (9, [.int 0, .ref co1, .ref co2, .ref co3, .ref co4, .ref co5, .ref co6, .ref co7, .int 0, .ref co8, .ref co9]))]) (As := [.int 0]) (rest := []) ⟨hx, hb, hml, hown, hts⟩ xE_st hK hE hA (c_So_require_x l htr G cB cI cJ cZ so tp 0 0 1 0 (by first | exact Or.inl (by decide) | exact Or.inr (by decide)) _) (xw_V 1 hts m_596 m_597 m_598 m_3 m_599 (by decide +kernel) ⟨(Nat.le_of_ble_eq_true rfl), (Nat.le_of_ble_eq_true rfl)⟩) hP hD hS [4] [0, 1, 2, 3] rfl rfl (by decide) (by decide) (by decide) 0 3 rfl rfl rfl rfl hl.1 rfl (Nat.le_of_ble_eq_true rfl) d_Rd_reads_48 ⟨(Nat.le_of_ble_eq_true rfl), (Nat.le_of_ble_eq_true rfl)⟩ (fun v9 w9 H locs hp hP hD hS => ?_) (fun x9 w9 H9 l9 hp _ _ _ => absurd hp (by rintro ⟨ho, -⟩; cases ho))
  obtain ⟨ho, rfl⟩ := hp
  cases ho
  have hP : va_P G classes [(rd, .inr (1, [.ref so, .ref br, .ref wa, .int 0])), (wa, .inr (7, [.int 0, .ref wa1, .ref wa2, .ref wa3, .int 0, .ref wa4, .ref wa5, .ref wa6, .ref wa7, .int 0, .long 0, .long 0, .int 0, .ref wa8, .ref wa9, .ref wa10, .ref wa11, .ref ex, .ref co])), (ex, .inr (8, [.int 0, .ref ex1, .ref ex2, .ref ex3, .ref ex4])), (co, .inr (9, [.int 0, .ref co1, .ref co2, .ref co3, .ref co4, .ref co5, .ref co6, .ref co7, .int 0, .ref co8, .ref co9])), (so, .inr (3, [.ref tp, .int 0, .int 0, .int 1]))] H := hP
  have hD : va_D A [(rd, .inr (1, [.ref so, .ref br, .ref wa, .int 0])), (wa, .inr (7, [.int 0, .ref wa1, .ref wa2, .ref wa3, .int 0, .ref wa4, .ref wa5, .ref wa6, .ref wa7, .int 0, .long 0, .long 0, .int 0, .ref wa8, .ref wa9, .ref wa10, .ref wa11, .ref ex, .ref co])), (ex, .inr (8, [.int 0, .ref ex1, .ref ex2, .ref ex3, .ref ex4])), (co, .inr (9, [.int 0, .ref co1, .ref co2, .ref co3, .ref co4, .ref co5, .ref co6, .ref co7, .int 0, .ref co8, .ref co9])), (so, .inr (3, [.ref tp, .int 0, .int 0, .int 1]))] := hD
  refine lv_iinc (v := 8) (lv' := [(4, .int 8), (0, .ref rd), (1, .ref tp), (2, .int 0), (3, .ref wa)]) hx hb d_Rd_reads_51 hl (k := 0) rfl (by first | rfl | decide | exact nI_add _ _) (by decide) rfl (fun ls hl => ?_)
  refine lv_goto (tgt := 29) hx hb d_Rd_reads_54 (by decide) ?_
  refine lv_iload hx hb d_Rd_reads_29 (lv_at hl 0 rfl) ?_
  refine va_gets hx hb hZT_HEAD hS hown (hts _ m_594) (fun _ h9 => h9) d_Rd_reads_31 ?_
  refine va_tlen (v := 8) hx hb hT_HEAD hS rfl d_Rd_reads_34 ?_
  refine lv_icmp_ge (tgt := 57) hx hb d_Rd_reads_35 (by decide) (fun c_9 => ?_) (fun c_9 => absurd c_9 (by decide))
  refine lv_iconst (v := 0) hx hb d_Rd_reads_57 (by decide) ?_
  refine lv_istore (lv' := [(4, .int 0), (0, .ref rd), (1, .ref tp), (2, .int 0), (3, .ref wa)]) hx hb d_Rd_reads_58 hl (by decide) rfl (fun ls hl => ?_)
  refine lv_iconst (v := 0) hx hb d_Rd_reads_60 (by decide) ?_
  refine lv_istore (lv' := [(5, .int 0), (4, .int 0), (0, .ref rd), (1, .ref tp), (2, .int 0), (3, .ref wa)]) hx hb d_Rd_reads_61 hl (by decide) rfl (fun ls hl => ?_)
  refine lv_iload hx hb d_Rd_reads_63 (lv_at hl 0 rfl) ?_
  refine lv_sipush (v := 2000) hx hb d_Rd_reads_65 (by decide) ?_
  refine lv_icmp_ge (tgt := 130) hx hb d_Rd_reads_68 (by decide) (fun c_10 => absurd c_10 (by decide)) (fun c_10 => ?_)
  refine lv_aload_n hx hb d_Rd_reads_71 rfl (lv_at hl 2 rfl) ?_
  refine va_get (D := G) (ci := 1) (v := .ref so) (C := R_Rd) (T := F_Rd) (N := 4) hx hb hts i_Rd hown hK hP 0 rfl rfl 0 (by decide) (hts _ m_83) (fun _ h9 => h9) rfl d_Rd_reads_72 ?_
  refine xx_callV (wc := [(so, .inr (3, [.ref tp, .int 0, .int 0, .int 1]))]) (wr := [(rd, .inr (1, [.ref so, .ref br, .ref wa, .int 0])), (wa, .inr (7, [.int 0, .ref wa1, .ref wa2, .ref wa3, .int 0, .ref wa4, .ref wa5, .ref wa6, .ref wa7, .int 0, .long 0, .long 0, .int 0, .ref wa8, .ref wa9, .ref wa10, .ref wa11, .ref ex, .ref co])), (ex, .inr (8, [.int 0, .ref ex1, .ref ex2, .ref ex3, .ref ex4])), (co, .inr (9, [.int 0, .ref co1, .ref co2, .ref co3, .ref co4, .ref co5, .ref co6, .ref co7, .int 0, .ref co8, .ref co9]))]) (As := []) (rest := []) ⟨hx, hb, hml, hown, hts⟩ xE_st hK hE hA (c_So_hasMore_x l htr G cB cI cJ cZ so tp 0 0 _) (xw_V 0 hts m_604 m_605 m_606 m_3 m_607 (by decide +kernel) ⟨(Nat.le_of_ble_eq_true rfl), (Nat.le_of_ble_eq_true rfl)⟩) hP hD hS [4] [0, 1, 2, 3] rfl rfl (by decide) (by decide) (by decide) 0 3 rfl rfl rfl rfl hl.1 rfl (Nat.le_of_ble_eq_true rfl) d_Rd_reads_75 ⟨(Nat.le_of_ble_eq_true rfl), (Nat.le_of_ble_eq_true rfl)⟩ (fun v9 w9 H locs hp hP hD hS => ?_) (fun x9 w9 H9 l9 hp _ _ _ => absurd hp (by rintro ⟨ho, -⟩; cases ho))
  obtain ⟨ho, rfl⟩ := hp
  cases ho
  have hP : va_P G classes [(rd, .inr (1, [.ref so, .ref br, .ref wa, .int 0])), (wa, .inr (7, [.int 0, .ref wa1, .ref wa2, .ref wa3, .int 0, .ref wa4, .ref wa5, .ref wa6, .ref wa7, .int 0, .long 0, .long 0, .int 0, .ref wa8, .ref wa9, .ref wa10, .ref wa11, .ref ex, .ref co])), (ex, .inr (8, [.int 0, .ref ex1, .ref ex2, .ref ex3, .ref ex4])), (co, .inr (9, [.int 0, .ref co1, .ref co2, .ref co3, .ref co4, .ref co5, .ref co6, .ref co7, .int 0, .ref co8, .ref co9])), (so, .inr (3, [.ref tp, .int 0, .int 0, .int 1]))] H := hP
  have hD : va_D A [(rd, .inr (1, [.ref so, .ref br, .ref wa, .int 0])), (wa, .inr (7, [.int 0, .ref wa1, .ref wa2, .ref wa3, .int 0, .ref wa4, .ref wa5, .ref wa6, .ref wa7, .int 0, .long 0, .long 0, .int 0, .ref wa8, .ref wa9, .ref wa10, .ref wa11, .ref ex, .ref co])), (ex, .inr (8, [.int 0, .ref ex1, .ref ex2, .ref ex3, .ref ex4])), (co, .inr (9, [.int 0, .ref co1, .ref co2, .ref co3, .ref co4, .ref co5, .ref co6, .ref co7, .int 0, .ref co8, .ref co9])), (so, .inr (3, [.ref tp, .int 0, .int 0, .int 1]))] := hD
  refine lv_if_eq (tgt := 130) hx hb d_Rd_reads_78 (by decide) (fun c_11 => ?_) (fun c_11 => absurd c_11 (by decide))
  refine lv_aload_n hx hb d_Rd_reads_130 rfl (lv_at hl 2 rfl) ?_
  refine va_get (D := G) (ci := 1) (v := .ref so) (C := R_Rd) (T := F_Rd) (N := 4) hx hb hts i_Rd hown hK hP 0 rfl rfl 0 (by decide) (hts _ m_83) (fun _ h9 => h9) rfl d_Rd_reads_131 ?_
  refine xx_callV (wc := [(so, .inr (3, [.ref tp, .int 0, .int 0, .int 1]))]) (wr := [(rd, .inr (1, [.ref so, .ref br, .ref wa, .int 0])), (wa, .inr (7, [.int 0, .ref wa1, .ref wa2, .ref wa3, .int 0, .ref wa4, .ref wa5, .ref wa6, .ref wa7, .int 0, .long 0, .long 0, .int 0, .ref wa8, .ref wa9, .ref wa10, .ref wa11, .ref ex, .ref co])), (ex, .inr (8, [.int 0, .ref ex1, .ref ex2, .ref ex3, .ref ex4])), (co, .inr (9, [.int 0, .ref co1, .ref co2, .ref co3, .ref co4, .ref co5, .ref co6, .ref co7, .int 0, .ref co8, .ref co9]))]) (As := []) (rest := []) ⟨hx, hb, hml, hown, hts⟩ xE_st hK hE hA (c_So_hasFailed_x l htr G cB cI cJ cZ so tp 0 0 _) (xw_V 0 hts m_754 m_693 m_694 m_3 m_695 (by decide +kernel) ⟨(Nat.le_of_ble_eq_true rfl), (Nat.le_of_ble_eq_true rfl)⟩) hP hD hS [4] [0, 1, 2, 3] rfl rfl (by decide) (by decide) (by decide) 0 3 rfl rfl rfl rfl hl.1 rfl (Nat.le_of_ble_eq_true rfl) d_Rd_reads_134 ⟨(Nat.le_of_ble_eq_true rfl), (Nat.le_of_ble_eq_true rfl)⟩ (fun v9 w9 H locs hp hP hD hS => ?_) (fun x9 w9 H9 l9 hp _ _ _ => absurd hp (by rintro ⟨ho, -⟩; cases ho))
  obtain ⟨ho, rfl⟩ := hp
  cases ho
  have hP : va_P G classes [(rd, .inr (1, [.ref so, .ref br, .ref wa, .int 0])), (wa, .inr (7, [.int 0, .ref wa1, .ref wa2, .ref wa3, .int 0, .ref wa4, .ref wa5, .ref wa6, .ref wa7, .int 0, .long 0, .long 0, .int 0, .ref wa8, .ref wa9, .ref wa10, .ref wa11, .ref ex, .ref co])), (ex, .inr (8, [.int 0, .ref ex1, .ref ex2, .ref ex3, .ref ex4])), (co, .inr (9, [.int 0, .ref co1, .ref co2, .ref co3, .ref co4, .ref co5, .ref co6, .ref co7, .int 0, .ref co8, .ref co9])), (so, .inr (3, [.ref tp, .int 0, .int 0, .int 1]))] H := hP
  have hD : va_D A [(rd, .inr (1, [.ref so, .ref br, .ref wa, .int 0])), (wa, .inr (7, [.int 0, .ref wa1, .ref wa2, .ref wa3, .int 0, .ref wa4, .ref wa5, .ref wa6, .ref wa7, .int 0, .long 0, .long 0, .int 0, .ref wa8, .ref wa9, .ref wa10, .ref wa11, .ref ex, .ref co])), (ex, .inr (8, [.int 0, .ref ex1, .ref ex2, .ref ex3, .ref ex4])), (co, .inr (9, [.int 0, .ref co1, .ref co2, .ref co3, .ref co4, .ref co5, .ref co6, .ref co7, .int 0, .ref co8, .ref co9])), (so, .inr (3, [.ref tp, .int 0, .int 0, .int 1]))] := hD
  refine lv_if_ne (tgt := 158) hx hb d_Rd_reads_137 (by decide) (fun c_12 => ?_) (fun c_12 => absurd c_12 (by decide))
  refine lv_iconst (v := 0) hx hb d_Rd_reads_158 (by decide) ?_
  exact ex_W (fun _ h => ex_mq h) (W.zret (v := 0) hx hb hr rfl (fun t ht hW => ⟨⟨_, ⟨rfl, rfl⟩, by rw [ht]; exact hP, hD⟩, hS.F ht⟩) hS.2.2 d_Rd_reads_159)
set_option maxHeartbeats 8000000 in
set_option maxRecDepth 100000 in
theorem c_WR_module_0 (l : Launch) (htr : l.stackTraces = false) (G : va_G) (cB cI cJ cZ : ClassId) (h0 : Nat) (tp : Nat) (ar : Nat) (rd : Nat) (va : Nat) (ma : Nat) (cu : Nat) (br : Nat) (so : Nat) (ac : Int32) (ld : Int32) (rs : Int32) (rc : Int32) (sa : Int32) (sl : Int32) (sf : Int32) (wa : Nat) (wa1 : Nat) (wa2 : Nat) (wa3 : Nat) (wa4 : Nat) (wa5 : Nat) (wa6 : Nat) (wa7 : Nat) (wa8 : Nat) (wa9 : Nat) (wa10 : Nat) (wa11 : Nat) (w_types : Int32) (w_funs : Int32) (w_hasmem : Int32) (w_globs : Int32) (w_first : Int64) (w_most : Int64) (ex : Nat) (ex1 : Nat) (ex2 : Nat) (ex3 : Nat) (ex4 : Nat) (es : Int32) (co : Nat) (co1 : Nat) (co2 : Nat) (co3 : Nat) (co4 : Nat) (co5 : Nat) (co6 : Nat) (co7 : Nat) (co8 : Nat) (co9 : Nat) (cs : Int32) (cl : Int32) (sz : Nat) : MetX l y_WR_module (wx y_WR_module b_WR_module 4 (some .int)) { frames := 6, cells := 1, slots := 6, locals := 90 } (XP G classes (xtys cB cI cJ cZ) xE [.ref h0] [(h0, .inr (0, [.ref tp, .int 0, .ref ar, .int ac, .ref rd, .ref va, .ref ma, .ref cu, .ref wa, .int ld, .int rs])), (rd, .inr (1, [.ref so, .ref br, .null, .int rc])), (so, .inr (3, [.null, .int sa, .int sl, .int sf])), (wa, .inr (7, [.int w_types, .ref wa1, .ref wa2, .ref wa3, .int w_funs, .ref wa4, .ref wa5, .ref wa6, .ref wa7, .int w_hasmem, .long w_first, .long w_most, .int w_globs, .ref wa8, .ref wa9, .ref wa10, .ref wa11, .ref ex, .ref co])), (ex, .inr (8, [.int es, .ref ex1, .ref ex2, .ref ex3, .ref ex4])), (co, .inr (9, [.int cs, .ref co1, .ref co2, .ref co3, .ref co4, .ref co5, .ref co6, .ref co7, .int cl, .ref co8, .ref co9]))] sz) (XQ G classes (va_A [(h0, .inr (0, [.ref tp, .int 0, .ref ar, .int ac, .ref rd, .ref va, .ref ma, .ref cu, .ref wa, .int ld, .int rs])), (rd, .inr (1, [.ref so, .ref br, .null, .int rc])), (so, .inr (3, [.null, .int sa, .int sl, .int sf])), (wa, .inr (7, [.int w_types, .ref wa1, .ref wa2, .ref wa3, .int w_funs, .ref wa4, .ref wa5, .ref wa6, .ref wa7, .int w_hasmem, .long w_first, .long w_most, .int w_globs, .ref wa8, .ref wa9, .ref wa10, .ref wa11, .ref ex, .ref co])), (ex, .inr (8, [.int es, .ref ex1, .ref ex2, .ref ex3, .ref ex4])), (co, .inr (9, [.int cs, .ref co1, .ref co2, .ref co3, .ref co4, .ref co5, .ref co6, .ref co7, .int cl, .ref co8, .ref co9]))] sz) (fun o w1 => ∃ x_5 : Nat, o = .threw x_5 ∧ w1 = [(h0, .inr (0, [.ref tp, .int 0, .ref ar, .int ac, .ref rd, .ref va, .ref ma, .ref cu, .ref wa, .int ld, .int 1])), (rd, .inr (1, [.ref so, .ref br, .ref wa, .int 0])), (wa, .inr (7, [.int 0, .ref wa1, .ref wa2, .ref wa3, .int 0, .ref wa4, .ref wa5, .ref wa6, .ref wa7, .int 0, .long 0, .long 0, .int 0, .ref wa8, .ref wa9, .ref wa10, .ref wa11, .ref ex, .ref co])), (ex, .inr (8, [.int 0, .ref ex1, .ref ex2, .ref ex3, .ref ex4])), (co, .inr (9, [.int 0, .ref co1, .ref co2, .ref co3, .ref co4, .ref co5, .ref co6, .ref co7, .int 0, .ref co8, .ref co9])), (so, .inr (3, [.ref tp, .int 0, .int 0, .int 1])), (x_5, .inr (15, []))])) 1 6 (va_A [(h0, .inr (0, [.ref tp, .int 0, .ref ar, .int ac, .ref rd, .ref va, .ref ma, .ref cu, .ref wa, .int ld, .int rs])), (rd, .inr (1, [.ref so, .ref br, .null, .int rc])), (so, .inr (3, [.null, .int sa, .int sl, .int sf])), (wa, .inr (7, [.int w_types, .ref wa1, .ref wa2, .ref wa3, .int w_funs, .ref wa4, .ref wa5, .ref wa6, .ref wa7, .int w_hasmem, .long w_first, .long w_most, .int w_globs, .ref wa8, .ref wa9, .ref wa10, .ref wa11, .ref ex, .ref co])), (ex, .inr (8, [.int es, .ref ex1, .ref ex2, .ref ex3, .ref ex4])), (co, .inr (9, [.int cs, .ref co1, .ref co2, .ref co3, .ref co4, .ref co5, .ref co6, .ref co7, .int cl, .ref co8, .ref co9]))] sz) := by
  refine ex_ofW (cc := b_WR_module) (maxL := 4) (ret := (some .int)) (by decide) rfl ?_
  intro p e s m args below meth c s₁ B hml hno hv
  obtain ⟨rfl, hsz, hP, hK, hD0, hE⟩ := hv
  have hx := B.exec
  have hb := B.bytes
  have hr := B.returns
  have hts : ∀ w ∈ lw_good, w.before _ s = true := fun w h => atoms_spec (ws := wx y_WR_module b_WR_module 4 (some .int)) B.pre w (List.mem_cons_of_mem _ h)
  have hown : s.vm.findClass R_WR = some m.cls := findClass_of_methodNamed B.named
  have hlocks := B.notSynchronized
  have htr9 : e.platform.stackTraces = false := by rw [B.admits.platform]; exact htr
  subst hsz
  have hNS := xx_nostat hP
  have hD := hD0.self (sz := s.heap.size)
  generalize hAe : va_A [(h0, .inr (0, [.ref tp, .int 0, .ref ar, .int ac, .ref rd, .ref va, .ref ma, .ref cu, .ref wa, .int ld, .int rs])), (rd, .inr (1, [.ref so, .ref br, .null, .int rc])), (so, .inr (3, [.null, .int sa, .int sl, .int sf])), (wa, .inr (7, [.int w_types, .ref wa1, .ref wa2, .ref wa3, .int w_funs, .ref wa4, .ref wa5, .ref wa6, .ref wa7, .int w_hasmem, .long w_first, .long w_most, .int w_globs, .ref wa8, .ref wa9, .ref wa10, .ref wa11, .ref ex, .ref co])), (ex, .inr (8, [.int es, .ref ex1, .ref ex2, .ref ex3, .ref ex4])), (co, .inr (9, [.int cs, .ref co1, .ref co2, .ref co3, .ref co4, .ref co5, .ref co6, .ref co7, .int cl, .ref co8, .ref co9]))] s.heap.size = A at hD hE hNS ⊢
  have hA : ∀ q : Nat, s.heap.size ≤ q → A q := fun q h => by rw [← hAe]; exact Or.inr h
  have hS : va_S A s.heap s.heap [] := va_S.rf
  have hl := lv_entry ([.ref h0]) (n := 4) (Nat.le_of_ble_eq_true rfl)
  rw [lg_entry_eq]
  generalize (lg_sl ([.ref h0]) ++ List.replicate (4 - (lg_sl ([.ref h0])).length) Slot.unset).toArray = ls at hl ⊢
  have hl : lv_has ls 4 [(0, .ref h0)] := hl
  refine lv_aload_n hx hb d_WR_module_0 rfl (lv_at hl 0 rfl) ?_
  refine va_get (D := G) (ci := 0) (v := .ref rd) (C := R_WR) (T := F_WR) (N := 11) hx hb hts i_WR hown hK hP 0 rfl rfl 4 (by decide) (hts _ m_422) (fun _ h9 => h9) rfl d_WR_module_1 ?_
  refine lv_aload_n hx hb d_WR_module_4 rfl (lv_at hl 0 rfl) ?_
  refine va_get (D := G) (ci := 0) (v := .ref tp) (C := R_WR) (T := F_WR) (N := 11) hx hb hts i_WR hown hK hP 0 rfl rfl 0 (by decide) (hts _ m_418) (fun _ h9 => h9) rfl d_WR_module_5 ?_
  refine lv_aload_n hx hb d_WR_module_8 rfl (lv_at hl 0 rfl) ?_
  refine va_get (D := G) (ci := 0) (v := .int 0) (C := R_WR) (T := F_WR) (N := 11) hx hb hts i_WR hown hK hP 0 rfl rfl 1 (by decide) (hts _ m_419) (fun _ h9 => h9) rfl d_WR_module_9 ?_
  refine lv_aload_n hx hb d_WR_module_12 rfl (lv_at hl 0 rfl) ?_
  refine va_get (D := G) (ci := 0) (v := .ref wa) (C := R_WR) (T := F_WR) (N := 11) hx hb hts i_WR hown hK hP 0 rfl rfl 8 (by decide) (hts _ m_426) (fun _ h9 => h9) rfl d_WR_module_13 ?_
  refine xx_callV (wc := [(rd, .inr (1, [.ref so, .ref br, .null, .int rc])), (so, .inr (3, [.null, .int sa, .int sl, .int sf])), (wa, .inr (7, [.int w_types, .ref wa1, .ref wa2, .ref wa3, .int w_funs, .ref wa4, .ref wa5, .ref wa6, .ref wa7, .int w_hasmem, .long w_first, .long w_most, .int w_globs, .ref wa8, .ref wa9, .ref wa10, .ref wa11, .ref ex, .ref co])), (ex, .inr (8, [.int es, .ref ex1, .ref ex2, .ref ex3, .ref ex4])), (co, .inr (9, [.int cs, .ref co1, .ref co2, .ref co3, .ref co4, .ref co5, .ref co6, .ref co7, .int cl, .ref co8, .ref co9]))]) (wr := [(h0, .inr (0, [.ref tp, .int 0, .ref ar, .int ac, .ref rd, .ref va, .ref ma, .ref cu, .ref wa, .int ld, .int rs]))]) (As := [.ref tp, .int 0, .ref wa]) (rest := []) ⟨hx, hb, hml, hown, hts⟩ xE_st hK hE hA (c_Rd_reads_0 l htr G cB cI cJ cZ rd br so tp rc sa sl sf wa wa1 wa2 wa3 wa4 wa5 wa6 wa7 wa8 wa9 wa10 wa11 w_types w_funs w_hasmem w_globs w_first w_most ex ex1 ex2 ex3 ex4 es co co1 co2 co3 co4 co5 co6 co7 co8 co9 cs cl _) (xw_V 3 hts m_578 m_579 m_580 m_2 m_581 (by decide +kernel) ⟨(Nat.le_of_ble_eq_true rfl), (Nat.le_of_ble_eq_true rfl)⟩) hP hD hS [1, 2, 3, 4, 5] [0] rfl rfl (by decide) (by decide) (by decide) 0 1 rfl rfl rfl rfl hl.1 rfl (Nat.le_of_ble_eq_true rfl) d_WR_module_16 ⟨(Nat.le_of_ble_eq_true rfl), (Nat.le_of_ble_eq_true rfl)⟩ (fun v9 w9 H locs hp hP hD hS => ?_) (fun x9 w9 H9 l9 hp _ _ _ => absurd hp (by rintro ⟨ho, -⟩; cases ho))
  obtain ⟨ho, rfl⟩ := hp
  cases ho
  have hP : va_P G classes [(h0, .inr (0, [.ref tp, .int 0, .ref ar, .int ac, .ref rd, .ref va, .ref ma, .ref cu, .ref wa, .int ld, .int rs])), (rd, .inr (1, [.ref so, .ref br, .ref wa, .int 0])), (wa, .inr (7, [.int 0, .ref wa1, .ref wa2, .ref wa3, .int 0, .ref wa4, .ref wa5, .ref wa6, .ref wa7, .int 0, .long 0, .long 0, .int 0, .ref wa8, .ref wa9, .ref wa10, .ref wa11, .ref ex, .ref co])), (ex, .inr (8, [.int 0, .ref ex1, .ref ex2, .ref ex3, .ref ex4])), (co, .inr (9, [.int 0, .ref co1, .ref co2, .ref co3, .ref co4, .ref co5, .ref co6, .ref co7, .int 0, .ref co8, .ref co9])), (so, .inr (3, [.ref tp, .int 0, .int 0, .int 1]))] H := hP
  have hD : va_D A [(h0, .inr (0, [.ref tp, .int 0, .ref ar, .int ac, .ref rd, .ref va, .ref ma, .ref cu, .ref wa, .int ld, .int rs])), (rd, .inr (1, [.ref so, .ref br, .ref wa, .int 0])), (wa, .inr (7, [.int 0, .ref wa1, .ref wa2, .ref wa3, .int 0, .ref wa4, .ref wa5, .ref wa6, .ref wa7, .int 0, .long 0, .long 0, .int 0, .ref wa8, .ref wa9, .ref wa10, .ref wa11, .ref ex, .ref co])), (ex, .inr (8, [.int 0, .ref ex1, .ref ex2, .ref ex3, .ref ex4])), (co, .inr (9, [.int 0, .ref co1, .ref co2, .ref co3, .ref co4, .ref co5, .ref co6, .ref co7, .int 0, .ref co8, .ref co9])), (so, .inr (3, [.ref tp, .int 0, .int 0, .int 1]))] := hD
  refine lv_istore_n (lv' := [(1, .int 0), (0, .ref h0)]) hx hb d_WR_module_19 rfl hl (by decide) rfl (fun ls hl => ?_)
  refine lv_iload_n hx hb d_WR_module_20 rfl (lv_at hl 0 rfl) ?_
  refine lv_if_eq (tgt := 42) hx hb d_WR_module_21 (by decide) (fun c_1 => ?_) (fun c_1 => absurd c_1 (by decide))
  refine lv_iconst (v := 0) hx hb d_WR_module_42 (by decide) ?_
  refine lv_istore_n (lv' := [(2, .int 0), (1, .int 0), (0, .ref h0)]) hx hb d_WR_module_43 rfl hl (by decide) rfl (fun ls hl => ?_)
  refine lv_aload_n hx hb d_WR_module_44 rfl (lv_at hl 2 rfl) ?_
  refine lv_iconst (v := 0) hx hb d_WR_module_45 (by decide) ?_
  refine va_put (D := G) (ci := 0) (v := .int 0) (ty := .int) (C := R_WR) (T := F_WR) (N := 11) hx hb hts i_WR t_WR t_WR_ok n_WR hown hK hP hD hS 0 rfl rfl 1 (by decide) (hts _ m_419) (fun _ h9 => h9) rfl (by decide +kernel) rfl rfl (Nat.le_of_ble_eq_true rfl) d_WR_module_46 (fun H locs hP hD hS => ?_)
  have hP : va_P G classes [(h0, .inr (0, [.ref tp, .int 0, .ref ar, .int ac, .ref rd, .ref va, .ref ma, .ref cu, .ref wa, .int ld, .int rs])), (rd, .inr (1, [.ref so, .ref br, .ref wa, .int 0])), (wa, .inr (7, [.int 0, .ref wa1, .ref wa2, .ref wa3, .int 0, .ref wa4, .ref wa5, .ref wa6, .ref wa7, .int 0, .long 0, .long 0, .int 0, .ref wa8, .ref wa9, .ref wa10, .ref wa11, .ref ex, .ref co])), (ex, .inr (8, [.int 0, .ref ex1, .ref ex2, .ref ex3, .ref ex4])), (co, .inr (9, [.int 0, .ref co1, .ref co2, .ref co3, .ref co4, .ref co5, .ref co6, .ref co7, .int 0, .ref co8, .ref co9])), (so, .inr (3, [.ref tp, .int 0, .int 0, .int 1]))] H := hP
  have hD : va_D A [(h0, .inr (0, [.ref tp, .int 0, .ref ar, .int ac, .ref rd, .ref va, .ref ma, .ref cu, .ref wa, .int ld, .int rs])), (rd, .inr (1, [.ref so, .ref br, .ref wa, .int 0])), (wa, .inr (7, [.int 0, .ref wa1, .ref wa2, .ref wa3, .int 0, .ref wa4, .ref wa5, .ref wa6, .ref wa7, .int 0, .long 0, .long 0, .int 0, .ref wa8, .ref wa9, .ref wa10, .ref wa11, .ref ex, .ref co])), (ex, .inr (8, [.int 0, .ref ex1, .ref ex2, .ref ex3, .ref ex4])), (co, .inr (9, [.int 0, .ref co1, .ref co2, .ref co3, .ref co4, .ref co5, .ref co6, .ref co7, .int 0, .ref co8, .ref co9])), (so, .inr (3, [.ref tp, .int 0, .int 0, .int 1]))] := hD
  refine lv_aload_n hx hb d_WR_module_49 rfl (lv_at hl 2 rfl) ?_
  refine lv_iload_n hx hb d_WR_module_50 rfl (lv_at hl 0 rfl) ?_
  refine lv_if_eq (tgt := 58) hx hb d_WR_module_51 (by decide) (fun c_2 => ?_) (fun c_2 => absurd c_2 (by decide))
  refine lv_iload_n hx hb d_WR_module_58 rfl (lv_at hl 1 rfl) ?_
  refine lv_if_eq (tgt := 66) hx hb d_WR_module_59 (by decide) (fun c_3 => ?_) (fun c_3 => absurd c_3 (by decide))
  refine lv_iconst (v := 1) hx hb d_WR_module_66 (by decide) ?_
  refine va_put (D := G) (ci := 0) (v := .int 1) (ty := .int) (C := R_WR) (T := F_WR) (N := 11) hx hb hts i_WR t_WR t_WR_ok n_WR hown hK hP hD hS 0 rfl rfl 10 (by decide) (hts _ m_428) (fun _ h9 => h9) rfl (by decide +kernel) rfl rfl (Nat.le_of_ble_eq_true rfl) d_WR_module_67 (fun H locs hP hD hS => ?_)
  have hP : va_P G classes [(h0, .inr (0, [.ref tp, .int 0, .ref ar, .int ac, .ref rd, .ref va, .ref ma, .ref cu, .ref wa, .int ld, .int 1])), (rd, .inr (1, [.ref so, .ref br, .ref wa, .int 0])), (wa, .inr (7, [.int 0, .ref wa1, .ref wa2, .ref wa3, .int 0, .ref wa4, .ref wa5, .ref wa6, .ref wa7, .int 0, .long 0, .long 0, .int 0, .ref wa8, .ref wa9, .ref wa10, .ref wa11, .ref ex, .ref co])), (ex, .inr (8, [.int 0, .ref ex1, .ref ex2, .ref ex3, .ref ex4])), (co, .inr (9, [.int 0, .ref co1, .ref co2, .ref co3, .ref co4, .ref co5, .ref co6, .ref co7, .int 0, .ref co8, .ref co9])), (so, .inr (3, [.ref tp, .int 0, .int 0, .int 1]))] H := hP
  have hD : va_D A [(h0, .inr (0, [.ref tp, .int 0, .ref ar, .int ac, .ref rd, .ref va, .ref ma, .ref cu, .ref wa, .int ld, .int 1])), (rd, .inr (1, [.ref so, .ref br, .ref wa, .int 0])), (wa, .inr (7, [.int 0, .ref wa1, .ref wa2, .ref wa3, .int 0, .ref wa4, .ref wa5, .ref wa6, .ref wa7, .int 0, .long 0, .long 0, .int 0, .ref wa8, .ref wa9, .ref wa10, .ref wa11, .ref ex, .ref co])), (ex, .inr (8, [.int 0, .ref ex1, .ref ex2, .ref ex3, .ref ex4])), (co, .inr (9, [.int 0, .ref co1, .ref co2, .ref co3, .ref co4, .ref co5, .ref co6, .ref co7, .int 0, .ref co8, .ref co9])), (so, .inr (3, [.ref tp, .int 0, .int 0, .int 1]))] := hD
  refine lv_iload_n hx hb d_WR_module_70 rfl (lv_at hl 0 rfl) ?_
  refine lv_if_ne (tgt := 84) hx hb d_WR_module_71 (by decide) (fun c_4 => absurd c_4 (by decide)) (fun c_4 => ?_)
  obtain ⟨qs, hZ⟩ := xE_text hE tx_81
  refine xx_throwNew (cls := "java/lang/UnsupportedOperationException") (names := ["java/lang/RuntimeException", "java/lang/Exception"]) (own := R_WR) hx htr9 hb hml hown (hts _ m_880) (hts _ m_881) (hts _ m_21) hZ (xE_atoms hE hts at_R_WR_83) (by decide +kernel) (by decide +kernel) hK 15 rfl hP hD hS hA hNS hl.1 d_WR_module_74 d_WR_module_77 d_WR_module_78 d_WR_module_80 d_WR_module_83 (Nat.le_of_ble_eq_true rfl) (Nat.le_of_ble_eq_true rfl) (Nat.le_of_ble_eq_true rfl) (Nat.le_of_ble_eq_true rfl) (fun x_5 H locs hP hD hS => ?_)
  have hP : va_P G classes [(h0, .inr (0, [.ref tp, .int 0, .ref ar, .int ac, .ref rd, .ref va, .ref ma, .ref cu, .ref wa, .int ld, .int 1])), (rd, .inr (1, [.ref so, .ref br, .ref wa, .int 0])), (wa, .inr (7, [.int 0, .ref wa1, .ref wa2, .ref wa3, .int 0, .ref wa4, .ref wa5, .ref wa6, .ref wa7, .int 0, .long 0, .long 0, .int 0, .ref wa8, .ref wa9, .ref wa10, .ref wa11, .ref ex, .ref co])), (ex, .inr (8, [.int 0, .ref ex1, .ref ex2, .ref ex3, .ref ex4])), (co, .inr (9, [.int 0, .ref co1, .ref co2, .ref co3, .ref co4, .ref co5, .ref co6, .ref co7, .int 0, .ref co8, .ref co9])), (so, .inr (3, [.ref tp, .int 0, .int 0, .int 1])), (x_5, .inr (15, []))] H := hP
  have hD : va_D A [(h0, .inr (0, [.ref tp, .int 0, .ref ar, .int ac, .ref rd, .ref va, .ref ma, .ref cu, .ref wa, .int ld, .int 1])), (rd, .inr (1, [.ref so, .ref br, .ref wa, .int 0])), (wa, .inr (7, [.int 0, .ref wa1, .ref wa2, .ref wa3, .int 0, .ref wa4, .ref wa5, .ref wa6, .ref wa7, .int 0, .long 0, .long 0, .int 0, .ref wa8, .ref wa9, .ref wa10, .ref wa11, .ref ex, .ref co])), (ex, .inr (8, [.int 0, .ref ex1, .ref ex2, .ref ex3, .ref ex4])), (co, .inr (9, [.int 0, .ref co1, .ref co2, .ref co3, .ref co4, .ref co5, .ref co6, .ref co7, .int 0, .ref co8, .ref co9])), (so, .inr (3, [.ref tp, .int 0, .int 0, .int 1])), (x_5, .inr (15, []))] := hD
  exact ex_out rfl rfl rfl (hno _) hlocks (fun t ht hW => ⟨⟨_, ⟨x_5, rfl, rfl⟩, by rw [ht]; exact hP, hD⟩, hS.F ht⟩) hS.2.2
